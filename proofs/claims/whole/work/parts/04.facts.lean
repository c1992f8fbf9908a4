/-! ===== what the tables say of the words: by program, each by its place ===== -/
def xG (w : Cond) : Prop := w ∈ lw_tbl ∧ goodWord w = true
theorem xg (i : Nat) {w : Cond} (h : lw_tbl[i]? = some w) (hg : goodWord w = true) : xG w := ⟨List.mem_of_getElem? h, hg⟩
theorem xh1 (i : Nat) {w : Cond} (h : tables_1_1[i]? = some w) : w ∈ lw_tbl := List.mem_append_right _ (List.mem_append_left _ (List.mem_of_getElem? h))
theorem xg1 (i : Nat) {w : Cond} (h : tables_1_1[i]? = some w) (hg : goodWord w = true) : xG w := ⟨xh1 i h, hg⟩
theorem xh2 (i : Nat) {w : Cond} (h : tables_1_2[i]? = some w) : w ∈ lw_tbl := List.mem_append_right _ (List.mem_append_right _ (List.mem_append_left _ (List.mem_of_getElem? h)))
theorem xg2 (i : Nat) {w : Cond} (h : tables_1_2[i]? = some w) (hg : goodWord w = true) : xG w := ⟨xh2 i h, hg⟩
theorem xh3 (i : Nat) {w : Cond} (h : tables_1_3[i]? = some w) : w ∈ lw_tbl := List.mem_append_right _ (List.mem_append_right _ (List.mem_append_right _ (List.mem_append_left _ (List.mem_of_getElem? h))))
theorem xg3 (i : Nat) {w : Cond} (h : tables_1_3[i]? = some w) (hg : goodWord w = true) : xG w := ⟨xh3 i h, hg⟩
theorem xh4 (i : Nat) {w : Cond} (h : tables_1_4[i]? = some w) : w ∈ lw_tbl := List.mem_append_right _ (List.mem_append_right _ (List.mem_append_right _ (List.mem_append_right _ (List.mem_append_left _ (List.mem_of_getElem? h)))))
theorem xg4 (i : Nat) {w : Cond} (h : tables_1_4[i]? = some w) (hg : goodWord w = true) : xG w := ⟨xh4 i h, hg⟩
theorem xh5 (i : Nat) {w : Cond} (h : tables_1_5[i]? = some w) : w ∈ lw_tbl := List.mem_append_right _ (List.mem_append_right _ (List.mem_append_right _ (List.mem_append_right _ (List.mem_append_right _ (List.mem_append_left _ (List.mem_of_getElem? h))))))
theorem xg5 (i : Nat) {w : Cond} (h : tables_1_5[i]? = some w) (hg : goodWord w = true) : xG w := ⟨xh5 i h, hg⟩
theorem xh6 (i : Nat) {w : Cond} (h : tables_1_6[i]? = some w) : w ∈ lw_tbl := List.mem_append_right _ (List.mem_append_right _ (List.mem_append_right _ (List.mem_append_right _ (List.mem_append_right _ (List.mem_append_right _ (List.mem_append_left _ (List.mem_of_getElem? h)))))))
theorem xg6 (i : Nat) {w : Cond} (h : tables_1_6[i]? = some w) (hg : goodWord w = true) : xG w := ⟨xh6 i h, hg⟩
theorem xh7 (i : Nat) {w : Cond} (h : tables_1_7[i]? = some w) : w ∈ lw_tbl := List.mem_append_right _ (List.mem_append_right _ (List.mem_append_right _ (List.mem_append_right _ (List.mem_append_right _ (List.mem_append_right _ (List.mem_append_right _ (List.mem_of_getElem? h)))))))
theorem xg7 (i : Nat) {w : Cond} (h : tables_1_7[i]? = some w) (hg : goodWord w = true) : xG w := ⟨xh7 i h, hg⟩
theorem xfin_mem {α : Type} {l : List (Nat × α)} {p : Nat} {a : α} (h : xfin l p = some a) : (p, a) ∈ l := by
  induction l with
  | nil => cases h
  | cons q r ih =>
    obtain ⟨b, o⟩ := q
    simp only [xfin] at h
    cases hb : Nat.beq b p with
    | true =>
      rw [hb] at h
      simp only [cond_true, Option.some.injEq] at h
      subst h
      rw [Nat.eq_of_beq_eq_true hb]
      exact List.mem_cons_self
    | false =>
      rw [hb] at h
      exact List.mem_cons_of_mem _ (ih h)
theorem xfind_mem {l : List (Nat × Instr)} {p : Nat} {a : Instr} (h : xfind l p = some a) : (p, a) ∈ l := by
  induction l with
  | nil => cases h
  | cons q r ih =>
    obtain ⟨b, o⟩ := q
    simp only [xfind] at h
    cases hb : Nat.beq b p with
    | true =>
      rw [hb] at h
      simp only [cond_true, Option.some.injEq] at h
      subst h
      rw [Nat.eq_of_beq_eq_true hb]
      exact List.mem_cons_self
    | false =>
      rw [hb] at h
      exact List.mem_cons_of_mem _ (ih h)
def xyt : List (MethodName × ByteArray × Option FieldType) := [(⟨"TemplateScopes$ByParts", "<init>", "(LTemplateScopes$Rendering;)V"⟩, prog_2_method_1_code, (Option.none : Option Jvm.ClassFile.FieldType)), (⟨"TemplateScopes$ByParts", "runList", "(LTemplateScopes$Template;III)I"⟩, prog_2_method_2_code, (Option.some Jvm.ClassFile.FieldType.int)), (⟨"TemplateScopes$ByParts", "runPart", "(LTemplateScopes$Template;II)I"⟩, prog_2_method_3_code, (Option.some Jvm.ClassFile.FieldType.int)), (⟨"TemplateScopes$ByParts", "runIncluded", "(LTemplateScopes$Template;II)I"⟩, prog_2_method_5_code, (Option.some Jvm.ClassFile.FieldType.int)), (⟨"TemplateScopes$ByParts", "runLoop", "(LTemplateScopes$Template;II)I"⟩, prog_2_method_6_code, (Option.some Jvm.ClassFile.FieldType.int)), (⟨"TemplateScopes$ByParts", "runWithin", "(LTemplateScopes$Template;II)I"⟩, prog_2_method_4_code, (Option.some Jvm.ClassFile.FieldType.int)), (⟨"TemplateScopes$ByParts", "runCondition", "(LTemplateScopes$Template;II)I"⟩, prog_2_method_7_code, (Option.some Jvm.ClassFile.FieldType.int)), (⟨"TemplateScopes$ByParts", "runSetting", "(LTemplateScopes$Template;II)I"⟩, prog_2_method_8_code, (Option.some Jvm.ClassFile.FieldType.int)), (⟨"TemplateScopes$ByText", "<init>", "(LTemplateScopes$Rendering;)V"⟩, prog_3_method_1_code, (Option.none : Option Jvm.ClassFile.FieldType)), (⟨"TemplateScopes$ByText", "run", "(LTemplateScopes$Texts;)V"⟩, prog_3_method_2_code, (Option.none : Option Jvm.ClassFile.FieldType)), (⟨"TemplateScopes$ByText", "endIncluded", "()Z"⟩, prog_3_method_6_code, (Option.some Jvm.ClassFile.FieldType.boolean)), (⟨"TemplateScopes$ByText", "codeAhead", "(I)I"⟩, prog_3_method_3_code, (Option.some Jvm.ClassFile.FieldType.int)), (⟨"TemplateScopes$ByText", "endBlock", "()Z"⟩, prog_3_method_10_code, (Option.some Jvm.ClassFile.FieldType.boolean)), (⟨"TemplateScopes$ByText", "beginNextPass", "(I)Z"⟩, prog_3_method_11_code, (Option.some Jvm.ClassFile.FieldType.boolean)), (⟨"TemplateScopes$ByText", "beginPart", "()I"⟩, prog_3_method_4_code, (Option.some Jvm.ClassFile.FieldType.int)), (⟨"TemplateScopes$ByText", "beginIncluded", "(I)I"⟩, prog_3_method_5_code, (Option.some Jvm.ClassFile.FieldType.int)), (⟨"TemplateScopes$ByText", "push", "(III)Z"⟩, prog_3_method_12_code, (Option.some Jvm.ClassFile.FieldType.boolean)), (⟨"TemplateScopes$ByText", "beginLoop", "(I)I"⟩, prog_3_method_7_code, (Option.some Jvm.ClassFile.FieldType.int)), (⟨"TemplateScopes$ByText", "skipBlock", "()V"⟩, prog_3_method_13_code, (Option.none : Option Jvm.ClassFile.FieldType)), (⟨"TemplateScopes$ByText", "beginCondition", "(I)I"⟩, prog_3_method_8_code, (Option.some Jvm.ClassFile.FieldType.int)), (⟨"TemplateScopes$ByText", "beginSetting", "(I)I"⟩, prog_3_method_9_code, (Option.some Jvm.ClassFile.FieldType.int)), (⟨"TemplateScopes$History", "<init>", "()V"⟩, prog_4_method_1_code, (Option.none : Option Jvm.ClassFile.FieldType)), (⟨"TemplateScopes$History", "size", "()I"⟩, prog_4_method_2_code, (Option.some Jvm.ClassFile.FieldType.int)), (⟨"TemplateScopes$History", "push", "(LTemplateScopes$State;)V"⟩, prog_4_method_3_code, (Option.none : Option Jvm.ClassFile.FieldType)), (⟨"TemplateScopes$History", "dropOldest", "()V"⟩, prog_4_method_5_code, (Option.none : Option Jvm.ClassFile.FieldType)), (⟨"TemplateScopes$History", "pop", "(LTemplateScopes$State;)Z"⟩, prog_4_method_4_code, (Option.some Jvm.ClassFile.FieldType.boolean)), (⟨"TemplateScopes$Outcome", "<init>", "()V"⟩, prog_5_method_1_code, (Option.none : Option Jvm.ClassFile.FieldType)), (⟨"TemplateScopes$Outcome", "copyFrom", "(LTemplateScopes$Outcome;)V"⟩, prog_5_method_3_code, (Option.none : Option Jvm.ClassFile.FieldType)), (⟨"TemplateScopes$Outcome", "placeAt", "(I)I"⟩, prog_5_method_4_code, (Option.some Jvm.ClassFile.FieldType.int)), (⟨"TemplateScopes$Outcome", "begin", "()V"⟩, prog_5_method_2_code, (Option.none : Option Jvm.ClassFile.FieldType)), (⟨"TemplateScopes$Outcome", "setPlace", "(II)V"⟩, prog_5_method_5_code, (Option.none : Option Jvm.ClassFile.FieldType)), (⟨"TemplateScopes$Outcome", "fail", "(III)V"⟩, prog_5_method_6_code, (Option.none : Option Jvm.ClassFile.FieldType)), (⟨"TemplateScopes$Rendering", "<init>", "()V"⟩, prog_6_method_1_code, (Option.none : Option Jvm.ClassFile.FieldType)), (⟨"TemplateScopes$Rendering", "begin", "(LTemplateScopes$Texts;I)V"⟩, prog_6_method_2_code, (Option.none : Option Jvm.ClassFile.FieldType)), (⟨"TemplateScopes$Rendering", "countStep", "()I"⟩, prog_6_method_3_code, (Option.some Jvm.ClassFile.FieldType.int)), (⟨"TemplateScopes$Rendering", "printValue", "(II)I"⟩, prog_6_method_5_code, (Option.some Jvm.ClassFile.FieldType.int)), (⟨"TemplateScopes$Rendering", "print", "(II)I"⟩, prog_6_method_4_code, (Option.some Jvm.ClassFile.FieldType.int)), (⟨"TemplateScopes$Rendering", "holds", "(I)Z"⟩, prog_6_method_6_code, (Option.some Jvm.ClassFile.FieldType.boolean)), (⟨"TemplateScopes$Rendering", "beginSetting", "()I"⟩, prog_6_method_7_code, (Option.some Jvm.ClassFile.FieldType.int)), (⟨"TemplateScopes$Rendering", "endSetting", "(I)V"⟩, prog_6_method_8_code, (Option.none : Option Jvm.ClassFile.FieldType)), (⟨"TemplateScopes$Scopes", "<init>", "()V"⟩, prog_7_method_1_code, (Option.none : Option Jvm.ClassFile.FieldType)), (⟨"TemplateScopes$Scopes", "begin", "(LTemplateScopes$Texts;I)V"⟩, prog_7_method_2_code, (Option.none : Option Jvm.ClassFile.FieldType)), (⟨"TemplateScopes$Scopes", "openOne", "()Z"⟩, prog_7_method_3_code, (Option.some Jvm.ClassFile.FieldType.boolean)), (⟨"TemplateScopes$Scopes", "innermostRow", "(I)I"⟩, prog_7_method_8_code, (Option.some Jvm.ClassFile.FieldType.int)), (⟨"TemplateScopes$Scopes", "give", "(ILTemplateScopes$Texts;I)V"⟩, prog_7_method_6_code, (Option.none : Option Jvm.ClassFile.FieldType)), (⟨"TemplateScopes$Scopes", "rowOf", "(I)I"⟩, prog_7_method_5_code, (Option.some Jvm.ClassFile.FieldType.int)), (⟨"TemplateScopes$Scopes", "closeOne", "()V"⟩, prog_7_method_4_code, (Option.none : Option Jvm.ClassFile.FieldType)), (⟨"TemplateScopes$Scopes", "openPass", "(II)Z"⟩, prog_7_method_7_code, (Option.some Jvm.ClassFile.FieldType.boolean)), (⟨"TemplateScopes$State", "<init>", "()V"⟩, prog_8_method_1_code, (Option.none : Option Jvm.ClassFile.FieldType)), (⟨"TemplateScopes$State", "copyFrom", "(LTemplateScopes$State;)V"⟩, prog_8_method_2_code, (Option.none : Option Jvm.ClassFile.FieldType)), (⟨"TemplateScopes$State", "takeOutcome", "(LTemplateScopes$Outcome;)V"⟩, prog_8_method_3_code, (Option.none : Option Jvm.ClassFile.FieldType)), (⟨"TemplateScopes$Template", "<init>", "(ILTemplateScopes$Template;)V"⟩, prog_9_method_1_code, (Option.none : Option Jvm.ClassFile.FieldType)), (⟨"TemplateScopes$Template", "readFrom", "(LTemplateScopes$Texts;I)V"⟩, prog_9_method_2_code, (Option.none : Option Jvm.ClassFile.FieldType)), (⟨"TemplateScopes$Template", "read", "(II)Z"⟩, prog_9_method_15_code, (Option.some Jvm.ClassFile.FieldType.boolean)), (⟨"TemplateScopes$Template", "setCode", "(I)V"⟩, prog_9_method_18_code, (Option.none : Option Jvm.ClassFile.FieldType)), (⟨"TemplateScopes$Template", "kindWritten", "(I)I"⟩, prog_9_method_16_code, (Option.some Jvm.ClassFile.FieldType.int)), (⟨"TemplateScopes$Template", "setName", "(I)Z"⟩, prog_9_method_20_code, (Option.some Jvm.ClassFile.FieldType.boolean)), (⟨"TemplateScopes$Template", "setKind", "(I)Z"⟩, prog_9_method_19_code, (Option.some Jvm.ClassFile.FieldType.boolean)), (⟨"TemplateScopes$Template", "openLast", "()Z"⟩, prog_9_method_21_code, (Option.some Jvm.ClassFile.FieldType.boolean)), (⟨"TemplateScopes$Template", "closeInnermost", "()Z"⟩, prog_9_method_22_code, (Option.some Jvm.ClassFile.FieldType.boolean)), (⟨"TemplateScopes$Template", "addPart", "(II)Z"⟩, prog_9_method_17_code, (Option.some Jvm.ClassFile.FieldType.boolean)), (⟨"TemplateScopes$Template", "errorPlace", "()I"⟩, prog_9_method_3_code, (Option.some Jvm.ClassFile.FieldType.int)), (⟨"TemplateScopes$Template", "isWhole", "()Z"⟩, prog_9_method_4_code, (Option.some Jvm.ClassFile.FieldType.boolean)), (⟨"TemplateScopes$Template", "partCount", "()I"⟩, prog_9_method_5_code, (Option.some Jvm.ClassFile.FieldType.int)), (⟨"TemplateScopes$Template", "kindOf", "(I)I"⟩, prog_9_method_10_code, (Option.some Jvm.ClassFile.FieldType.int)), (⟨"TemplateScopes$Template", "nameOf", "(I)I"⟩, prog_9_method_13_code, (Option.some Jvm.ClassFile.FieldType.int)), (⟨"TemplateScopes$Template", "placeOf", "(I)I"⟩, prog_9_method_11_code, (Option.some Jvm.ClassFile.FieldType.int)), (⟨"TemplateScopes$Template", "behind", "(I)I"⟩, prog_9_method_14_code, (Option.some Jvm.ClassFile.FieldType.int)), (⟨"TemplateScopes$Template", "codeOf", "(I)I"⟩, prog_9_method_12_code, (Option.some Jvm.ClassFile.FieldType.int)), (⟨"TemplateScopes$Template", "deepest", "()I"⟩, prog_9_method_6_code, (Option.some Jvm.ClassFile.FieldType.int)), (⟨"TemplateScopes$Template", "namesUsed", "()I"⟩, prog_9_method_7_code, (Option.some Jvm.ClassFile.FieldType.int)), (⟨"TemplateScopes$Template", "namesGiven", "()I"⟩, prog_9_method_8_code, (Option.some Jvm.ClassFile.FieldType.int)), (⟨"TemplateScopes$Template", "loopCount", "()I"⟩, prog_9_method_9_code, (Option.some Jvm.ClassFile.FieldType.int)), (⟨"TemplateScopes$Texts", "<init>", "(II)V"⟩, prog_10_method_1_code, (Option.none : Option Jvm.ClassFile.FieldType)), (⟨"TemplateScopes$Texts", "clear", "(I)V"⟩, prog_10_method_4_code, (Option.none : Option Jvm.ClassFile.FieldType)), (⟨"TemplateScopes$Texts", "lengthOf", "(I)I"⟩, prog_10_method_2_code, (Option.some Jvm.ClassFile.FieldType.int)), (⟨"TemplateScopes$Texts", "codeAt", "(II)I"⟩, prog_10_method_3_code, (Option.some Jvm.ClassFile.FieldType.int)), (⟨"TemplateScopes$Texts", "copyAll", "(LTemplateScopes$Texts;)V"⟩, prog_10_method_8_code, (Option.none : Option Jvm.ClassFile.FieldType)), (⟨"TemplateScopes$Texts", "copyRow", "(ILTemplateScopes$Texts;I)V"⟩, prog_10_method_7_code, (Option.none : Option Jvm.ClassFile.FieldType)), (⟨"TemplateScopes$Texts", "add", "(II)Z"⟩, prog_10_method_6_code, (Option.some Jvm.ClassFile.FieldType.boolean)), (⟨"TemplateScopes$Texts", "remove", "(I)V"⟩, prog_10_method_5_code, (Option.none : Option Jvm.ClassFile.FieldType)), (⟨"TemplateScopes", "<init>", "()V"⟩, prog_1_method_1_code, (Option.none : Option Jvm.ClassFile.FieldType)), (⟨"TemplateScopes", "clearTemplate", "()I"⟩, prog_1_method_3_code, (Option.some Jvm.ClassFile.FieldType.int)), (⟨"TemplateScopes", "templateLength", "()I"⟩, prog_1_method_4_code, (Option.some Jvm.ClassFile.FieldType.int)), (⟨"TemplateScopes", "firstError", "()I"⟩, prog_1_method_5_code, (Option.some Jvm.ClassFile.FieldType.int)), (⟨"TemplateScopes", "nameWritten", "(I)I"⟩, prog_1_method_50_code, (Option.some Jvm.ClassFile.FieldType.int)), (⟨"TemplateScopes", "isComplete", "()Z"⟩, prog_1_method_6_code, (Option.some Jvm.ClassFile.FieldType.boolean)), (⟨"TemplateScopes", "outputLength", "()I"⟩, prog_1_method_26_code, (Option.some Jvm.ClassFile.FieldType.int)), (⟨"TemplateScopes", "hasFailed", "()Z"⟩, prog_1_method_28_code, (Option.some Jvm.ClassFile.FieldType.boolean)), (⟨"TemplateScopes", "failurePlaces", "()I"⟩, prog_1_method_30_code, (Option.some Jvm.ClassFile.FieldType.int)), (⟨"TemplateScopes", "steps", "()I"⟩, prog_1_method_32_code, (Option.some Jvm.ClassFile.FieldType.int)), (⟨"TemplateScopes", "plainPrinted", "()I"⟩, prog_1_method_33_code, (Option.some Jvm.ClassFile.FieldType.int)), (⟨"TemplateScopes", "escapesPrinted", "()I"⟩, prog_1_method_34_code, (Option.some Jvm.ClassFile.FieldType.int)), (⟨"TemplateScopes", "valuesPrinted", "()I"⟩, prog_1_method_35_code, (Option.some Jvm.ClassFile.FieldType.int)), (⟨"TemplateScopes", "renderings", "()I"⟩, prog_1_method_36_code, (Option.some Jvm.ClassFile.FieldType.int)), (⟨"TemplateScopes", "failures", "()I"⟩, prog_1_method_37_code, (Option.some Jvm.ClassFile.FieldType.int)), (⟨"TemplateScopes", "printed", "()I"⟩, prog_1_method_38_code, (Option.some Jvm.ClassFile.FieldType.int)), (⟨"TemplateScopes", "keep", "()I"⟩, prog_1_method_44_code, (Option.some Jvm.ClassFile.FieldType.int)), (⟨"TemplateScopes", "savedStates", "()I"⟩, prog_1_method_46_code, (Option.some Jvm.ClassFile.FieldType.int)), (⟨"TemplateScopes", "valueShare", "()D"⟩, prog_1_method_47_code, (Option.some Jvm.ClassFile.FieldType.double)), (⟨"TemplateScopes", "digest", "()J"⟩, prog_1_method_48_code, (Option.some Jvm.ClassFile.FieldType.long)), (⟨"TemplateScopes", "hashOutcome", "(J)J"⟩, prog_1_method_61_code, (Option.some Jvm.ClassFile.FieldType.long)), (⟨"TemplateScopes", "hashText", "(JLTemplateScopes$Texts;I)J"⟩, prog_1_method_60_code, (Option.some Jvm.ClassFile.FieldType.long)), (⟨"TemplateScopes", "hashWith", "(JJ)J"⟩, prog_1_method_58_code, (Option.some Jvm.ClassFile.FieldType.long)), (⟨"TemplateScopes", "hashWithTruth", "(JZ)J"⟩, prog_1_method_59_code, (Option.some Jvm.ClassFile.FieldType.long)), (⟨"TemplateScopes", "failureReason", "()I"⟩, prog_1_method_29_code, (Option.some Jvm.ClassFile.FieldType.int)), (⟨"TemplateScopes", "failurePlace", "(I)I"⟩, prog_1_method_31_code, (Option.some Jvm.ClassFile.FieldType.int)), (⟨"TemplateScopes", "hasValue", "(I)Z"⟩, prog_1_method_19_code, (Option.some Jvm.ClassFile.FieldType.boolean)), (⟨"TemplateScopes", "requireVariable", "(I)V"⟩, prog_1_method_52_code, (Option.none : Option Jvm.ClassFile.FieldType)), (⟨"TemplateScopes", "isTemplate", "(I)Z"⟩, prog_1_method_22_code, (Option.some Jvm.ClassFile.FieldType.boolean)), (⟨"TemplateScopes", "requireValue", "(I)I"⟩, prog_1_method_53_code, (Option.some Jvm.ClassFile.FieldType.int)), (⟨"TemplateScopes", "escapedLength", "(I)I"⟩, prog_1_method_23_code, (Option.some Jvm.ClassFile.FieldType.int)), (⟨"TemplateScopes", "escapeAside", "(I)I"⟩, prog_1_method_56_code, (Option.some Jvm.ClassFile.FieldType.int)), (⟨"TemplateScopes", "isSpecial", "(I)Z"⟩, prog_1_method_49_code, (Option.some Jvm.ClassFile.FieldType.boolean)), (⟨"TemplateScopes", "alikeBehindEscaping", "(I)I"⟩, prog_1_method_24_code, (Option.some Jvm.ClassFile.FieldType.int)), (⟨"TemplateScopes", "runByParts", "(I)V"⟩, prog_1_method_57_code, (Option.none : Option Jvm.ClassFile.FieldType)), (⟨"TemplateScopes", "parts", "()I"⟩, prog_1_method_7_code, (Option.some Jvm.ClassFile.FieldType.int)), (⟨"TemplateScopes", "requireComplete", "()V"⟩, prog_1_method_54_code, (Option.none : Option Jvm.ClassFile.FieldType)), (⟨"TemplateScopes", "depth", "()I"⟩, prog_1_method_8_code, (Option.some Jvm.ClassFile.FieldType.int)), (⟨"TemplateScopes", "names", "()I"⟩, prog_1_method_9_code, (Option.some Jvm.ClassFile.FieldType.int)), (⟨"TemplateScopes", "namesSet", "()I"⟩, prog_1_method_10_code, (Option.some Jvm.ClassFile.FieldType.int)), (⟨"TemplateScopes", "loops", "()I"⟩, prog_1_method_11_code, (Option.some Jvm.ClassFile.FieldType.int)), (⟨"TemplateScopes", "wouldPrint", "()I"⟩, prog_1_method_39_code, (Option.some Jvm.ClassFile.FieldType.int)), (⟨"TemplateScopes", "wouldPrintByText", "()I"⟩, prog_1_method_40_code, (Option.some Jvm.ClassFile.FieldType.int)), (⟨"TemplateScopes", "wouldFail", "()I"⟩, prog_1_method_41_code, (Option.some Jvm.ClassFile.FieldType.int)), (⟨"TemplateScopes", "bitsOfShare", "(D)J"⟩, prog_1_method_62_code, (Option.some Jvm.ClassFile.FieldType.long)), (⟨"TemplateScopes", "append", "(I)I"⟩, prog_1_method_2_code, (Option.some Jvm.ClassFile.FieldType.int)), (⟨"TemplateScopes", "requireCode", "(I)V"⟩, prog_1_method_51_code, (Option.none : Option Jvm.ClassFile.FieldType)), (⟨"TemplateScopes", "appendValue", "(II)I"⟩, prog_1_method_12_code, (Option.some Jvm.ClassFile.FieldType.int)), (⟨"TemplateScopes", "removeValue", "(I)I"⟩, prog_1_method_13_code, (Option.some Jvm.ClassFile.FieldType.int)), (⟨"TemplateScopes", "emptyValue", "(I)I"⟩, prog_1_method_14_code, (Option.some Jvm.ClassFile.FieldType.int)), (⟨"TemplateScopes", "copyValue", "(II)I"⟩, prog_1_method_15_code, (Option.some Jvm.ClassFile.FieldType.int)), (⟨"TemplateScopes", "escapeValue", "(I)I"⟩, prog_1_method_16_code, (Option.some Jvm.ClassFile.FieldType.int)), (⟨"TemplateScopes", "takeOutput", "(I)I"⟩, prog_1_method_17_code, (Option.some Jvm.ClassFile.FieldType.int)), (⟨"TemplateScopes", "takeText", "(ILTemplateScopes$Texts;)I"⟩, prog_1_method_55_code, (Option.some Jvm.ClassFile.FieldType.int)), (⟨"TemplateScopes", "takeTemplate", "(I)I"⟩, prog_1_method_18_code, (Option.some Jvm.ClassFile.FieldType.int)), (⟨"TemplateScopes", "valueLength", "(I)I"⟩, prog_1_method_20_code, (Option.some Jvm.ClassFile.FieldType.int)), (⟨"TemplateScopes", "valueCharacter", "(II)I"⟩, prog_1_method_21_code, (Option.some Jvm.ClassFile.FieldType.int)), (⟨"TemplateScopes", "render", "()I"⟩, prog_1_method_25_code, (Option.some Jvm.ClassFile.FieldType.int)), (⟨"TemplateScopes", "outputCharacter", "(I)I"⟩, prog_1_method_27_code, (Option.some Jvm.ClassFile.FieldType.int)), (⟨"TemplateScopes", "wouldPrintWithout", "(I)I"⟩, prog_1_method_42_code, (Option.some Jvm.ClassFile.FieldType.int)), (⟨"TemplateScopes", "undo", "()I"⟩, prog_1_method_43_code, (Option.some Jvm.ClassFile.FieldType.int)), (⟨"TemplateScopes", "restore", "()I"⟩, prog_1_method_45_code, (Option.some Jvm.ClassFile.FieldType.int)), (⟨"TemplateScopesModel", "<init>", "()V"⟩, prog_12_method_1_code, (Option.none : Option Jvm.ClassFile.FieldType)), (⟨"TemplateScopesModel", "thrown", "()I"⟩, prog_12_method_2_code, (Option.some Jvm.ClassFile.FieldType.int)), (⟨"TemplateScopesModel", "append", "(I)I"⟩, prog_12_method_33_code, (Option.some Jvm.ClassFile.FieldType.int)), (⟨"TemplateScopesModel", "in", "(III)Z"⟩, prog_12_method_3_code, (Option.some Jvm.ClassFile.FieldType.boolean)), (⟨"TemplateScopesModel", "holds", "(I)Z"⟩, prog_12_method_4_code, (Option.some Jvm.ClassFile.FieldType.boolean)), (⟨"TemplateScopesModel", "clearTemplate", "()I"⟩, prog_12_method_34_code, (Option.some Jvm.ClassFile.FieldType.int)), (⟨"TemplateScopesModel", "templateLength", "()I"⟩, prog_12_method_35_code, (Option.some Jvm.ClassFile.FieldType.int)), (⟨"TemplateScopesModel", "firstError", "()I"⟩, prog_12_method_36_code, (Option.some Jvm.ClassFile.FieldType.int)), (⟨"TemplateScopesModel", "readsBuffer", "()I"⟩, prog_12_method_14_code, (Option.some Jvm.ClassFile.FieldType.int)), (⟨"TemplateScopesModel", "reads", "(II)I"⟩, prog_12_method_13_code, (Option.some Jvm.ClassFile.FieldType.int)), (⟨"TemplateScopesModel", "goesOn", "(II)I"⟩, prog_12_method_12_code, (Option.some Jvm.ClassFile.FieldType.int)), (⟨"TemplateScopesModel", "nameOf", "(I)I"⟩, prog_12_method_9_code, (Option.some Jvm.ClassFile.FieldType.int)), (⟨"TemplateScopesModel", "part", "()V"⟩, prog_12_method_11_code, (Option.none : Option Jvm.ClassFile.FieldType)), (⟨"TemplateScopesModel", "isComplete", "()Z"⟩, prog_12_method_37_code, (Option.some Jvm.ClassFile.FieldType.boolean)), (⟨"TemplateScopesModel", "isBufferWhole", "()Z"⟩, prog_12_method_32_code, (Option.some Jvm.ClassFile.FieldType.boolean)), (⟨"TemplateScopesModel", "parts", "()I"⟩, prog_12_method_38_code, (Option.some Jvm.ClassFile.FieldType.int)), (⟨"TemplateScopesModel", "depth", "()I"⟩, prog_12_method_39_code, (Option.some Jvm.ClassFile.FieldType.int)), (⟨"TemplateScopesModel", "names", "()I"⟩, prog_12_method_40_code, (Option.some Jvm.ClassFile.FieldType.int)), (⟨"TemplateScopesModel", "namesSet", "()I"⟩, prog_12_method_41_code, (Option.some Jvm.ClassFile.FieldType.int)), (⟨"TemplateScopesModel", "loops", "()I"⟩, prog_12_method_42_code, (Option.some Jvm.ClassFile.FieldType.int)), (⟨"TemplateScopesModel", "appendValue", "(II)I"⟩, prog_12_method_43_code, (Option.some Jvm.ClassFile.FieldType.int)), (⟨"TemplateScopesModel", "isVariable", "(I)Z"⟩, prog_12_method_5_code, (Option.some Jvm.ClassFile.FieldType.boolean)), (⟨"TemplateScopesModel", "valueAt", "(I)I"⟩, prog_12_method_6_code, (Option.some Jvm.ClassFile.FieldType.int)), (⟨"TemplateScopesModel", "save", "()V"⟩, prog_12_method_8_code, (Option.none : Option Jvm.ClassFile.FieldType)), (⟨"TemplateScopesModel", "has", "(I)Z"⟩, prog_12_method_7_code, (Option.some Jvm.ClassFile.FieldType.boolean)), (⟨"TemplateScopesModel", "removeValue", "(I)I"⟩, prog_12_method_45_code, (Option.some Jvm.ClassFile.FieldType.int)), (⟨"TemplateScopesModel", "errorOfValue", "(I)I"⟩, prog_12_method_44_code, (Option.some Jvm.ClassFile.FieldType.int)), (⟨"TemplateScopesModel", "emptyValue", "(I)I"⟩, prog_12_method_46_code, (Option.some Jvm.ClassFile.FieldType.int)), (⟨"TemplateScopesModel", "copyValue", "(II)I"⟩, prog_12_method_47_code, (Option.some Jvm.ClassFile.FieldType.int)), (⟨"TemplateScopesModel", "escapeValue", "(I)I"⟩, prog_12_method_49_code, (Option.some Jvm.ClassFile.FieldType.int)), (⟨"TemplateScopesModel", "specials", "(I)I"⟩, prog_12_method_48_code, (Option.some Jvm.ClassFile.FieldType.int)), (⟨"TemplateScopesModel", "isSpecial", "(I)Z"⟩, prog_12_method_10_code, (Option.some Jvm.ClassFile.FieldType.boolean)), (⟨"TemplateScopesModel", "takeOutput", "(I)I"⟩, prog_12_method_50_code, (Option.some Jvm.ClassFile.FieldType.int)), (⟨"TemplateScopesModel", "takeTemplate", "(I)I"⟩, prog_12_method_51_code, (Option.some Jvm.ClassFile.FieldType.int)), (⟨"TemplateScopesModel", "hasValue", "(I)Z"⟩, prog_12_method_52_code, (Option.some Jvm.ClassFile.FieldType.boolean)), (⟨"TemplateScopesModel", "valueLength", "(I)I"⟩, prog_12_method_53_code, (Option.some Jvm.ClassFile.FieldType.int)), (⟨"TemplateScopesModel", "valueCharacter", "(II)I"⟩, prog_12_method_54_code, (Option.some Jvm.ClassFile.FieldType.int)), (⟨"TemplateScopesModel", "isTemplate", "(I)Z"⟩, prog_12_method_56_code, (Option.some Jvm.ClassFile.FieldType.boolean)), (⟨"TemplateScopesModel", "isWholeValue", "(I)Z"⟩, prog_12_method_55_code, (Option.some Jvm.ClassFile.FieldType.boolean)), (⟨"TemplateScopesModel", "readsValue", "(I)I"⟩, prog_12_method_15_code, (Option.some Jvm.ClassFile.FieldType.int)), (⟨"TemplateScopesModel", "escapedLength", "(I)I"⟩, prog_12_method_57_code, (Option.some Jvm.ClassFile.FieldType.int)), (⟨"TemplateScopesModel", "alikeBehindEscaping", "(I)I"⟩, prog_12_method_58_code, (Option.some Jvm.ClassFile.FieldType.int)), (⟨"TemplateScopesModel", "render", "()I"⟩, prog_12_method_59_code, (Option.some Jvm.ClassFile.FieldType.int)), (⟨"TemplateScopesModel", "renders", "(I)V"⟩, prog_12_method_31_code, (Option.none : Option Jvm.ClassFile.FieldType)), (⟨"TemplateScopesModel", "opensScope", "()V"⟩, prog_12_method_17_code, (Option.none : Option Jvm.ClassFile.FieldType)), (⟨"TemplateScopesModel", "at", "(II)I"⟩, prog_12_method_16_code, (Option.some Jvm.ClassFile.FieldType.int)), (⟨"TemplateScopesModel", "opens", "(IIII)V"⟩, prog_12_method_21_code, (Option.none : Option Jvm.ClassFile.FieldType)), (⟨"TemplateScopesModel", "isAtEnd", "()Z"⟩, prog_12_method_25_code, (Option.some Jvm.ClassFile.FieldType.boolean)), (⟨"TemplateScopesModel", "closes", "()V"⟩, prog_12_method_24_code, (Option.none : Option Jvm.ClassFile.FieldType)), (⟨"TemplateScopesModel", "beginsPass", "(I)V"⟩, prog_12_method_23_code, (Option.none : Option Jvm.ClassFile.FieldType)), (⟨"TemplateScopesModel", "rendersPart", "()V"⟩, prog_12_method_30_code, (Option.none : Option Jvm.ClassFile.FieldType)), (⟨"TemplateScopesModel", "fails", "(II)V"⟩, prog_12_method_19_code, (Option.none : Option Jvm.ClassFile.FieldType)), (⟨"TemplateScopesModel", "rendersBracket", "(II)V"⟩, prog_12_method_29_code, (Option.none : Option Jvm.ClassFile.FieldType)), (⟨"TemplateScopesModel", "valueOf", "(I)I"⟩, prog_12_method_18_code, (Option.some Jvm.ClassFile.FieldType.int)), (⟨"TemplateScopesModel", "printsValue", "(IZI)V"⟩, prog_12_method_26_code, (Option.none : Option Jvm.ClassFile.FieldType)), (⟨"TemplateScopesModel", "prints", "(III)V"⟩, prog_12_method_20_code, (Option.none : Option Jvm.ClassFile.FieldType)), (⟨"TemplateScopesModel", "includes", "(II)V"⟩, prog_12_method_27_code, (Option.none : Option Jvm.ClassFile.FieldType)), (⟨"TemplateScopesModel", "goesRound", "(IIII)V"⟩, prog_12_method_28_code, (Option.none : Option Jvm.ClassFile.FieldType)), (⟨"TemplateScopesModel", "behind", "(II)I"⟩, prog_12_method_22_code, (Option.some Jvm.ClassFile.FieldType.int)), (⟨"TemplateScopesModel", "outputLength", "()I"⟩, prog_12_method_60_code, (Option.some Jvm.ClassFile.FieldType.int)), (⟨"TemplateScopesModel", "outputCharacter", "(I)I"⟩, prog_12_method_61_code, (Option.some Jvm.ClassFile.FieldType.int)), (⟨"TemplateScopesModel", "hasFailed", "()Z"⟩, prog_12_method_62_code, (Option.some Jvm.ClassFile.FieldType.boolean)), (⟨"TemplateScopesModel", "failureReason", "()I"⟩, prog_12_method_63_code, (Option.some Jvm.ClassFile.FieldType.int)), (⟨"TemplateScopesModel", "failurePlaces", "()I"⟩, prog_12_method_64_code, (Option.some Jvm.ClassFile.FieldType.int)), (⟨"TemplateScopesModel", "failurePlace", "(I)I"⟩, prog_12_method_65_code, (Option.some Jvm.ClassFile.FieldType.int)), (⟨"TemplateScopesModel", "steps", "()I"⟩, prog_12_method_66_code, (Option.some Jvm.ClassFile.FieldType.int)), (⟨"TemplateScopesModel", "plainPrinted", "()I"⟩, prog_12_method_67_code, (Option.some Jvm.ClassFile.FieldType.int)), (⟨"TemplateScopesModel", "escapesPrinted", "()I"⟩, prog_12_method_68_code, (Option.some Jvm.ClassFile.FieldType.int)), (⟨"TemplateScopesModel", "valuesPrinted", "()I"⟩, prog_12_method_69_code, (Option.some Jvm.ClassFile.FieldType.int)), (⟨"TemplateScopesModel", "renderings", "()I"⟩, prog_12_method_70_code, (Option.some Jvm.ClassFile.FieldType.int)), (⟨"TemplateScopesModel", "failures", "()I"⟩, prog_12_method_71_code, (Option.some Jvm.ClassFile.FieldType.int)), (⟨"TemplateScopesModel", "printed", "()I"⟩, prog_12_method_72_code, (Option.some Jvm.ClassFile.FieldType.int)), (⟨"TemplateScopesModel", "wouldPrint", "()I"⟩, prog_12_method_74_code, (Option.some Jvm.ClassFile.FieldType.int)), (⟨"TemplateScopesModel", "lengthWithout", "(I)I"⟩, prog_12_method_73_code, (Option.some Jvm.ClassFile.FieldType.int)), (⟨"TemplateScopesModel", "wouldPrintByText", "()I"⟩, prog_12_method_75_code, (Option.some Jvm.ClassFile.FieldType.int)), (⟨"TemplateScopesModel", "wouldFail", "()I"⟩, prog_12_method_77_code, (Option.some Jvm.ClassFile.FieldType.int)), (⟨"TemplateScopesModel", "reasonNow", "()I"⟩, prog_12_method_76_code, (Option.some Jvm.ClassFile.FieldType.int)), (⟨"TemplateScopesModel", "wouldPrintWithout", "(I)I"⟩, prog_12_method_78_code, (Option.some Jvm.ClassFile.FieldType.int)), (⟨"TemplateScopesModel", "undo", "()I"⟩, prog_12_method_79_code, (Option.some Jvm.ClassFile.FieldType.int)), (⟨"TemplateScopesModel", "keep", "()I"⟩, prog_12_method_80_code, (Option.some Jvm.ClassFile.FieldType.int)), (⟨"TemplateScopesModel", "restore", "()I"⟩, prog_12_method_81_code, (Option.some Jvm.ClassFile.FieldType.int)), (⟨"TemplateScopesModel", "savedStates", "()I"⟩, prog_12_method_82_code, (Option.some Jvm.ClassFile.FieldType.int)), (⟨"TemplateScopesModel", "valueShare", "()D"⟩, prog_12_method_84_code, (Option.some Jvm.ClassFile.FieldType.double)), (⟨"TemplateScopesModel", "share", "()D"⟩, prog_12_method_83_code, (Option.some Jvm.ClassFile.FieldType.double)), (⟨"TemplateScopesModel", "digest", "()J"⟩, prog_12_method_89_code, (Option.some Jvm.ClassFile.FieldType.long)), (⟨"TemplateScopesModel", "takesIn", "(J)V"⟩, prog_12_method_85_code, (Option.none : Option Jvm.ClassFile.FieldType)), (⟨"TemplateScopesModel", "takesValue", "(I)V"⟩, prog_12_method_87_code, (Option.none : Option Jvm.ClassFile.FieldType)), (⟨"TemplateScopesModel", "takesTemplate", "()V"⟩, prog_12_method_88_code, (Option.none : Option Jvm.ClassFile.FieldType)), (⟨"TemplateScopesModel", "bitsOf", "(D)J"⟩, prog_12_method_86_code, (Option.some Jvm.ClassFile.FieldType.long)), (⟨"TemplateScopesLaw", "append", "(LTemplateScopes;I[J)I"⟩, method_3_code, (Option.some Jvm.ClassFile.FieldType.int)), (⟨"TemplateScopesLaw", "parts", "(LTemplateScopes;[J)I"⟩, method_4_code, (Option.some Jvm.ClassFile.FieldType.int)), (⟨"TemplateScopesLaw", "depth", "(LTemplateScopes;[J)I"⟩, method_5_code, (Option.some Jvm.ClassFile.FieldType.int)), (⟨"TemplateScopesLaw", "names", "(LTemplateScopes;[J)I"⟩, method_6_code, (Option.some Jvm.ClassFile.FieldType.int)), (⟨"TemplateScopesLaw", "namesSet", "(LTemplateScopes;[J)I"⟩, method_7_code, (Option.some Jvm.ClassFile.FieldType.int)), (⟨"TemplateScopesLaw", "loops", "(LTemplateScopes;[J)I"⟩, method_8_code, (Option.some Jvm.ClassFile.FieldType.int)), (⟨"TemplateScopesLaw", "appendValue", "(LTemplateScopes;II[J)I"⟩, method_9_code, (Option.some Jvm.ClassFile.FieldType.int)), (⟨"TemplateScopesLaw", "removeValue", "(LTemplateScopes;I[J)I"⟩, method_10_code, (Option.some Jvm.ClassFile.FieldType.int)), (⟨"TemplateScopesLaw", "emptyValue", "(LTemplateScopes;I[J)I"⟩, method_11_code, (Option.some Jvm.ClassFile.FieldType.int)), (⟨"TemplateScopesLaw", "copyValue", "(LTemplateScopes;II[J)I"⟩, method_12_code, (Option.some Jvm.ClassFile.FieldType.int)), (⟨"TemplateScopesLaw", "escapeValue", "(LTemplateScopes;I[J)I"⟩, method_13_code, (Option.some Jvm.ClassFile.FieldType.int)), (⟨"TemplateScopesLaw", "takeOutput", "(LTemplateScopes;I[J)I"⟩, method_14_code, (Option.some Jvm.ClassFile.FieldType.int)), (⟨"TemplateScopesLaw", "takeTemplate", "(LTemplateScopes;I[J)I"⟩, method_15_code, (Option.some Jvm.ClassFile.FieldType.int)), (⟨"TemplateScopesLaw", "hasValue", "(LTemplateScopes;I[J)I"⟩, method_16_code, (Option.some Jvm.ClassFile.FieldType.int)), (⟨"TemplateScopesLaw", "valueLength", "(LTemplateScopes;I[J)I"⟩, method_17_code, (Option.some Jvm.ClassFile.FieldType.int)), (⟨"TemplateScopesLaw", "valueCharacter", "(LTemplateScopes;II[J)I"⟩, method_18_code, (Option.some Jvm.ClassFile.FieldType.int)), (⟨"TemplateScopesLaw", "isTemplate", "(LTemplateScopes;I[J)I"⟩, method_19_code, (Option.some Jvm.ClassFile.FieldType.int)), (⟨"TemplateScopesLaw", "escapedLength", "(LTemplateScopes;I[J)I"⟩, method_20_code, (Option.some Jvm.ClassFile.FieldType.int)), (⟨"TemplateScopesLaw", "alikeBehindEscaping", "(LTemplateScopes;I[J)I"⟩, method_21_code, (Option.some Jvm.ClassFile.FieldType.int)), (⟨"TemplateScopesLaw", "render", "(LTemplateScopes;[J)I"⟩, method_22_code, (Option.some Jvm.ClassFile.FieldType.int)), (⟨"TemplateScopesLaw", "outputCharacter", "(LTemplateScopes;I[J)I"⟩, method_23_code, (Option.some Jvm.ClassFile.FieldType.int)), (⟨"TemplateScopesLaw", "failureReason", "(LTemplateScopes;[J)I"⟩, method_24_code, (Option.some Jvm.ClassFile.FieldType.int)), (⟨"TemplateScopesLaw", "failurePlace", "(LTemplateScopes;I[J)I"⟩, method_25_code, (Option.some Jvm.ClassFile.FieldType.int)), (⟨"TemplateScopesLaw", "wouldPrint", "(LTemplateScopes;[J)I"⟩, method_26_code, (Option.some Jvm.ClassFile.FieldType.int)), (⟨"TemplateScopesLaw", "wouldPrintByText", "(LTemplateScopes;[J)I"⟩, method_27_code, (Option.some Jvm.ClassFile.FieldType.int)), (⟨"TemplateScopesLaw", "wouldFail", "(LTemplateScopes;[J)I"⟩, method_28_code, (Option.some Jvm.ClassFile.FieldType.int)), (⟨"TemplateScopesLaw", "wouldPrintWithout", "(LTemplateScopes;I[J)I"⟩, method_29_code, (Option.some Jvm.ClassFile.FieldType.int)), (⟨"TemplateScopesLaw", "undo", "(LTemplateScopes;[J)I"⟩, method_30_code, (Option.some Jvm.ClassFile.FieldType.int)), (⟨"TemplateScopesLaw", "restore", "(LTemplateScopes;[J)I"⟩, method_31_code, (Option.some Jvm.ClassFile.FieldType.int)), (⟨"TemplateScopesLaw", "law", "([I)Z"⟩, code, ret)]
def xy (mi : Nat) : MethodName := match xyt[mi]? with
  | some q => q.1
  | none => ⟨"", "", ""⟩
def xby (mi : Nat) : ByteArray := match xyt[mi]? with
  | some q => q.2.1
  | none => ⟨#[]⟩
def xre (mi : Nat) : Option FieldType := match xyt[mi]? with
  | some q => q.2.2
  | none => none
def xRn (own : Nat) : String := match (["TemplateScopes$ByParts", "TemplateScopes$ByText", "TemplateScopes$History", "TemplateScopes$Outcome", "TemplateScopes$Rendering", "TemplateScopes$Scopes", "TemplateScopes$State", "TemplateScopes$Template", "TemplateScopes$Texts", "TemplateScopes", "TemplateScopesModel", "TemplateScopesLaw", "java/lang/Math", "java/lang/Object"] : List String)[own]? with
  | some q => q
  | none => ""
def xcw (mi : Nat) : Cond := match xhh mi with
  | [] => .code (xy mi) (xby mi) (xmaxL mi) (xre mi)
  | _ :: _ => .codeWith (xy mi) (xby mi) (xmaxL mi) (xre mi) (xhh mi)
def xlen : Instr → Nat
  | .sipush _ | .ldc_w _ | .ldc2_w _ | .iinc _ _ | .ifCond _ _ | .if_icmp _ _ | .goto _ | .ifnull _ | .ifnonnull _ | .getfield _ | .putfield _ | .new _ | .anewarray _ | .invokevirtual _ | .invokespecial _ | .invokestatic _ => 3
  | .bipush _ | .ldc _ | .iload _ | .aload _ | .lload _ | .dload _ | .istore _ | .astore _ | .lstore _ | .dstore _ | .newarray _ => 2
  | _ => 1
def xsw : Instr → Bool
  | .tableswitch _ _ _ _ | .lookupswitch _ _ => true
  | _ => false
def xjmp (pc : Nat) : Instr → Bool
  | .ifCond _ f | .if_icmp _ f | .goto f | .ifnull f | .ifnonnull f => decide (0 ≤ (pc : Int) + f)
  | .tableswitch d _ _ fs => decide (0 ≤ (pc : Int) + d) && fs.toList.all (fun f => decide (0 ≤ (pc : Int) + f))
  | .lookupswitch d ps => decide (0 ≤ (pc : Int) + d) && ps.toList.all (fun f => decide (0 ≤ (pc : Int) + f.2)) && (ps.toList.zip (ps.toList.drop 1)).all (fun (a, next) => a.1 < next.1)
  | _ => true
def xdchk (by0 : ByteArray) (pc : Nat) (op : Instr) : Bool := match decode by0 pc with
  | .ok (o, len) => decide (o = op) && (decide (len = xlen op) || xsw op) && xjmp pc op
  | .error _ => false
theorem xd_0 : xk_0.all (fun q => xdchk (xby 0) q.1 q.2) = true := by decide +kernel
theorem xd_1 : xk_1.all (fun q => xdchk (xby 1) q.1 q.2) = true := by decide +kernel
theorem xd_2 : xk_2.all (fun q => xdchk (xby 2) q.1 q.2) = true := by decide +kernel
theorem xd_3_0 : ((xk_3.drop 0).take 60).all (fun q => xdchk (xby 3) q.1 q.2) = true := by decide +kernel
theorem xd_3_60 : ((xk_3.drop 60).take 60).all (fun q => xdchk (xby 3) q.1 q.2) = true := by decide +kernel
theorem xd_3 : xk_3.all (fun q => xdchk (xby 3) q.1 q.2) = true := by
  have h : xk_3 = ((xk_3.drop 0).take 60) ++ (((xk_3.drop 60).take 60)) := by decide +kernel
  rw [h]
  simp only [List.all_append, Bool.and_eq_true]
  exact ⟨xd_3_0, xd_3_60⟩
theorem xd_4 : xk_4.all (fun q => xdchk (xby 4) q.1 q.2) = true := by decide +kernel
theorem xd_5 : xk_5.all (fun q => xdchk (xby 5) q.1 q.2) = true := by decide +kernel
theorem xd_6 : xk_6.all (fun q => xdchk (xby 6) q.1 q.2) = true := by decide +kernel
theorem xd_7 : xk_7.all (fun q => xdchk (xby 7) q.1 q.2) = true := by decide +kernel
theorem xd_8 : xk_8.all (fun q => xdchk (xby 8) q.1 q.2) = true := by decide +kernel
theorem xd_9_0 : ((xk_9.drop 0).take 60).all (fun q => xdchk (xby 9) q.1 q.2) = true := by decide +kernel
theorem xd_9_60 : ((xk_9.drop 60).take 60).all (fun q => xdchk (xby 9) q.1 q.2) = true := by decide +kernel
theorem xd_9 : xk_9.all (fun q => xdchk (xby 9) q.1 q.2) = true := by
  have h : xk_9 = ((xk_9.drop 0).take 60) ++ (((xk_9.drop 60).take 60)) := by decide +kernel
  rw [h]
  simp only [List.all_append, Bool.and_eq_true]
  exact ⟨xd_9_0, xd_9_60⟩
theorem xd_10 : xk_10.all (fun q => xdchk (xby 10) q.1 q.2) = true := by decide +kernel
theorem xd_11 : xk_11.all (fun q => xdchk (xby 11) q.1 q.2) = true := by decide +kernel
theorem xd_12 : xk_12.all (fun q => xdchk (xby 12) q.1 q.2) = true := by decide +kernel
theorem xd_13 : xk_13.all (fun q => xdchk (xby 13) q.1 q.2) = true := by decide +kernel
theorem xd_14_0 : ((xk_14.drop 0).take 60).all (fun q => xdchk (xby 14) q.1 q.2) = true := by decide +kernel
theorem xd_14_60 : ((xk_14.drop 60).take 60).all (fun q => xdchk (xby 14) q.1 q.2) = true := by decide +kernel
theorem xd_14 : xk_14.all (fun q => xdchk (xby 14) q.1 q.2) = true := by
  have h : xk_14 = ((xk_14.drop 0).take 60) ++ (((xk_14.drop 60).take 60)) := by decide +kernel
  rw [h]
  simp only [List.all_append, Bool.and_eq_true]
  exact ⟨xd_14_0, xd_14_60⟩
theorem xd_15_0 : ((xk_15.drop 0).take 60).all (fun q => xdchk (xby 15) q.1 q.2) = true := by decide +kernel
theorem xd_15_60 : ((xk_15.drop 60).take 60).all (fun q => xdchk (xby 15) q.1 q.2) = true := by decide +kernel
theorem xd_15 : xk_15.all (fun q => xdchk (xby 15) q.1 q.2) = true := by
  have h : xk_15 = ((xk_15.drop 0).take 60) ++ (((xk_15.drop 60).take 60)) := by decide +kernel
  rw [h]
  simp only [List.all_append, Bool.and_eq_true]
  exact ⟨xd_15_0, xd_15_60⟩
theorem xd_16_0 : ((xk_16.drop 0).take 60).all (fun q => xdchk (xby 16) q.1 q.2) = true := by decide +kernel
theorem xd_16_60 : ((xk_16.drop 60).take 60).all (fun q => xdchk (xby 16) q.1 q.2) = true := by decide +kernel
theorem xd_16 : xk_16.all (fun q => xdchk (xby 16) q.1 q.2) = true := by
  have h : xk_16 = ((xk_16.drop 0).take 60) ++ (((xk_16.drop 60).take 60)) := by decide +kernel
  rw [h]
  simp only [List.all_append, Bool.and_eq_true]
  exact ⟨xd_16_0, xd_16_60⟩
theorem xd_17 : xk_17.all (fun q => xdchk (xby 17) q.1 q.2) = true := by decide +kernel
theorem xd_18 : xk_18.all (fun q => xdchk (xby 18) q.1 q.2) = true := by decide +kernel
theorem xd_19 : xk_19.all (fun q => xdchk (xby 19) q.1 q.2) = true := by decide +kernel
theorem xd_20 : xk_20.all (fun q => xdchk (xby 20) q.1 q.2) = true := by decide +kernel
theorem xd_21 : xk_21.all (fun q => xdchk (xby 21) q.1 q.2) = true := by decide +kernel
theorem xd_22 : xk_22.all (fun q => xdchk (xby 22) q.1 q.2) = true := by decide +kernel
theorem xd_23 : xk_23.all (fun q => xdchk (xby 23) q.1 q.2) = true := by decide +kernel
theorem xd_24 : xk_24.all (fun q => xdchk (xby 24) q.1 q.2) = true := by decide +kernel
theorem xd_25 : xk_25.all (fun q => xdchk (xby 25) q.1 q.2) = true := by decide +kernel
theorem xd_26 : xk_26.all (fun q => xdchk (xby 26) q.1 q.2) = true := by decide +kernel
theorem xd_27 : xk_27.all (fun q => xdchk (xby 27) q.1 q.2) = true := by decide +kernel
theorem xd_28 : xk_28.all (fun q => xdchk (xby 28) q.1 q.2) = true := by decide +kernel
theorem xd_29 : xk_29.all (fun q => xdchk (xby 29) q.1 q.2) = true := by decide +kernel
theorem xd_30 : xk_30.all (fun q => xdchk (xby 30) q.1 q.2) = true := by decide +kernel
theorem xd_31 : xk_31.all (fun q => xdchk (xby 31) q.1 q.2) = true := by decide +kernel
theorem xd_32 : xk_32.all (fun q => xdchk (xby 32) q.1 q.2) = true := by decide +kernel
theorem xd_33 : xk_33.all (fun q => xdchk (xby 33) q.1 q.2) = true := by decide +kernel
theorem xd_34 : xk_34.all (fun q => xdchk (xby 34) q.1 q.2) = true := by decide +kernel
theorem xd_35 : xk_35.all (fun q => xdchk (xby 35) q.1 q.2) = true := by decide +kernel
theorem xd_36 : xk_36.all (fun q => xdchk (xby 36) q.1 q.2) = true := by decide +kernel
theorem xd_37 : xk_37.all (fun q => xdchk (xby 37) q.1 q.2) = true := by decide +kernel
theorem xd_38 : xk_38.all (fun q => xdchk (xby 38) q.1 q.2) = true := by decide +kernel
theorem xd_39 : xk_39.all (fun q => xdchk (xby 39) q.1 q.2) = true := by decide +kernel
theorem xd_40 : xk_40.all (fun q => xdchk (xby 40) q.1 q.2) = true := by decide +kernel
theorem xd_41 : xk_41.all (fun q => xdchk (xby 41) q.1 q.2) = true := by decide +kernel
theorem xd_42 : xk_42.all (fun q => xdchk (xby 42) q.1 q.2) = true := by decide +kernel
theorem xd_43 : xk_43.all (fun q => xdchk (xby 43) q.1 q.2) = true := by decide +kernel
theorem xd_44 : xk_44.all (fun q => xdchk (xby 44) q.1 q.2) = true := by decide +kernel
theorem xd_45 : xk_45.all (fun q => xdchk (xby 45) q.1 q.2) = true := by decide +kernel
theorem xd_46 : xk_46.all (fun q => xdchk (xby 46) q.1 q.2) = true := by decide +kernel
theorem xd_47 : xk_47.all (fun q => xdchk (xby 47) q.1 q.2) = true := by decide +kernel
theorem xd_48 : xk_48.all (fun q => xdchk (xby 48) q.1 q.2) = true := by decide +kernel
theorem xd_49 : xk_49.all (fun q => xdchk (xby 49) q.1 q.2) = true := by decide +kernel
theorem xd_50 : xk_50.all (fun q => xdchk (xby 50) q.1 q.2) = true := by decide +kernel
theorem xd_51 : xk_51.all (fun q => xdchk (xby 51) q.1 q.2) = true := by decide +kernel
theorem xd_52 : xk_52.all (fun q => xdchk (xby 52) q.1 q.2) = true := by decide +kernel
theorem xd_53_0 : ((xk_53.drop 0).take 60).all (fun q => xdchk (xby 53) q.1 q.2) = true := by decide +kernel
theorem xd_53_60 : ((xk_53.drop 60).take 60).all (fun q => xdchk (xby 53) q.1 q.2) = true := by decide +kernel
theorem xd_53 : xk_53.all (fun q => xdchk (xby 53) q.1 q.2) = true := by
  have h : xk_53 = ((xk_53.drop 0).take 60) ++ (((xk_53.drop 60).take 60)) := by decide +kernel
  rw [h]
  simp only [List.all_append, Bool.and_eq_true]
  exact ⟨xd_53_0, xd_53_60⟩
theorem xd_54 : xk_54.all (fun q => xdchk (xby 54) q.1 q.2) = true := by decide +kernel
theorem xd_55 : xk_55.all (fun q => xdchk (xby 55) q.1 q.2) = true := by decide +kernel
theorem xd_56 : xk_56.all (fun q => xdchk (xby 56) q.1 q.2) = true := by decide +kernel
theorem xd_57 : xk_57.all (fun q => xdchk (xby 57) q.1 q.2) = true := by decide +kernel
theorem xd_58 : xk_58.all (fun q => xdchk (xby 58) q.1 q.2) = true := by decide +kernel
theorem xd_59 : xk_59.all (fun q => xdchk (xby 59) q.1 q.2) = true := by decide +kernel
theorem xd_60_0 : ((xk_60.drop 0).take 60).all (fun q => xdchk (xby 60) q.1 q.2) = true := by decide +kernel
theorem xd_60_60 : ((xk_60.drop 60).take 60).all (fun q => xdchk (xby 60) q.1 q.2) = true := by decide +kernel
theorem xd_60 : xk_60.all (fun q => xdchk (xby 60) q.1 q.2) = true := by
  have h : xk_60 = ((xk_60.drop 0).take 60) ++ (((xk_60.drop 60).take 60)) := by decide +kernel
  rw [h]
  simp only [List.all_append, Bool.and_eq_true]
  exact ⟨xd_60_0, xd_60_60⟩
theorem xd_61 : xk_61.all (fun q => xdchk (xby 61) q.1 q.2) = true := by decide +kernel
theorem xd_62 : xk_62.all (fun q => xdchk (xby 62) q.1 q.2) = true := by decide +kernel
theorem xd_63 : xk_63.all (fun q => xdchk (xby 63) q.1 q.2) = true := by decide +kernel
theorem xd_64 : xk_64.all (fun q => xdchk (xby 64) q.1 q.2) = true := by decide +kernel
theorem xd_65 : xk_65.all (fun q => xdchk (xby 65) q.1 q.2) = true := by decide +kernel
theorem xd_66 : xk_66.all (fun q => xdchk (xby 66) q.1 q.2) = true := by decide +kernel
theorem xd_67 : xk_67.all (fun q => xdchk (xby 67) q.1 q.2) = true := by decide +kernel
theorem xd_68 : xk_68.all (fun q => xdchk (xby 68) q.1 q.2) = true := by decide +kernel
theorem xd_69 : xk_69.all (fun q => xdchk (xby 69) q.1 q.2) = true := by decide +kernel
theorem xd_70 : xk_70.all (fun q => xdchk (xby 70) q.1 q.2) = true := by decide +kernel
theorem xd_71 : xk_71.all (fun q => xdchk (xby 71) q.1 q.2) = true := by decide +kernel
theorem xd_72 : xk_72.all (fun q => xdchk (xby 72) q.1 q.2) = true := by decide +kernel
theorem xd_73 : xk_73.all (fun q => xdchk (xby 73) q.1 q.2) = true := by decide +kernel
theorem xd_74 : xk_74.all (fun q => xdchk (xby 74) q.1 q.2) = true := by decide +kernel
theorem xd_75 : xk_75.all (fun q => xdchk (xby 75) q.1 q.2) = true := by decide +kernel
theorem xd_76 : xk_76.all (fun q => xdchk (xby 76) q.1 q.2) = true := by decide +kernel
theorem xd_77 : xk_77.all (fun q => xdchk (xby 77) q.1 q.2) = true := by decide +kernel
theorem xd_78 : xk_78.all (fun q => xdchk (xby 78) q.1 q.2) = true := by decide +kernel
theorem xd_79 : xk_79.all (fun q => xdchk (xby 79) q.1 q.2) = true := by decide +kernel
theorem xd_80 : xk_80.all (fun q => xdchk (xby 80) q.1 q.2) = true := by decide +kernel
theorem xd_81_0 : ((xk_81.drop 0).take 60).all (fun q => xdchk (xby 81) q.1 q.2) = true := by decide +kernel
theorem xd_81_60 : ((xk_81.drop 60).take 60).all (fun q => xdchk (xby 81) q.1 q.2) = true := by decide +kernel
theorem xd_81 : xk_81.all (fun q => xdchk (xby 81) q.1 q.2) = true := by
  have h : xk_81 = ((xk_81.drop 0).take 60) ++ (((xk_81.drop 60).take 60)) := by decide +kernel
  rw [h]
  simp only [List.all_append, Bool.and_eq_true]
  exact ⟨xd_81_0, xd_81_60⟩
theorem xd_82 : xk_82.all (fun q => xdchk (xby 82) q.1 q.2) = true := by decide +kernel
theorem xd_83 : xk_83.all (fun q => xdchk (xby 83) q.1 q.2) = true := by decide +kernel
theorem xd_84 : xk_84.all (fun q => xdchk (xby 84) q.1 q.2) = true := by decide +kernel
theorem xd_85 : xk_85.all (fun q => xdchk (xby 85) q.1 q.2) = true := by decide +kernel
theorem xd_86 : xk_86.all (fun q => xdchk (xby 86) q.1 q.2) = true := by decide +kernel
theorem xd_87 : xk_87.all (fun q => xdchk (xby 87) q.1 q.2) = true := by decide +kernel
theorem xd_88 : xk_88.all (fun q => xdchk (xby 88) q.1 q.2) = true := by decide +kernel
theorem xd_89 : xk_89.all (fun q => xdchk (xby 89) q.1 q.2) = true := by decide +kernel
theorem xd_90 : xk_90.all (fun q => xdchk (xby 90) q.1 q.2) = true := by decide +kernel
theorem xd_91 : xk_91.all (fun q => xdchk (xby 91) q.1 q.2) = true := by decide +kernel
theorem xd_92 : xk_92.all (fun q => xdchk (xby 92) q.1 q.2) = true := by decide +kernel
theorem xd_93 : xk_93.all (fun q => xdchk (xby 93) q.1 q.2) = true := by decide +kernel
theorem xd_94 : xk_94.all (fun q => xdchk (xby 94) q.1 q.2) = true := by decide +kernel
theorem xd_95 : xk_95.all (fun q => xdchk (xby 95) q.1 q.2) = true := by decide +kernel
theorem xd_96 : xk_96.all (fun q => xdchk (xby 96) q.1 q.2) = true := by decide +kernel
theorem xd_97 : xk_97.all (fun q => xdchk (xby 97) q.1 q.2) = true := by decide +kernel
theorem xd_98 : xk_98.all (fun q => xdchk (xby 98) q.1 q.2) = true := by decide +kernel
theorem xd_99 : xk_99.all (fun q => xdchk (xby 99) q.1 q.2) = true := by decide +kernel
theorem xd_100_0 : ((xk_100.drop 0).take 60).all (fun q => xdchk (xby 100) q.1 q.2) = true := by decide +kernel
theorem xd_100_60 : ((xk_100.drop 60).take 60).all (fun q => xdchk (xby 100) q.1 q.2) = true := by decide +kernel
theorem xd_100_120 : ((xk_100.drop 120).take 60).all (fun q => xdchk (xby 100) q.1 q.2) = true := by decide +kernel
theorem xd_100 : xk_100.all (fun q => xdchk (xby 100) q.1 q.2) = true := by
  have h : xk_100 = ((xk_100.drop 0).take 60) ++ (((xk_100.drop 60).take 60) ++ (((xk_100.drop 120).take 60))) := by decide +kernel
  rw [h]
  simp only [List.all_append, Bool.and_eq_true]
  exact ⟨xd_100_0, ⟨xd_100_60, xd_100_120⟩⟩
theorem xd_101_0 : ((xk_101.drop 0).take 60).all (fun q => xdchk (xby 101) q.1 q.2) = true := by decide +kernel
theorem xd_101_60 : ((xk_101.drop 60).take 60).all (fun q => xdchk (xby 101) q.1 q.2) = true := by decide +kernel
theorem xd_101 : xk_101.all (fun q => xdchk (xby 101) q.1 q.2) = true := by
  have h : xk_101 = ((xk_101.drop 0).take 60) ++ (((xk_101.drop 60).take 60)) := by decide +kernel
  rw [h]
  simp only [List.all_append, Bool.and_eq_true]
  exact ⟨xd_101_0, xd_101_60⟩
theorem xd_102 : xk_102.all (fun q => xdchk (xby 102) q.1 q.2) = true := by decide +kernel
theorem xd_103 : xk_103.all (fun q => xdchk (xby 103) q.1 q.2) = true := by decide +kernel
theorem xd_104 : xk_104.all (fun q => xdchk (xby 104) q.1 q.2) = true := by decide +kernel
theorem xd_105 : xk_105.all (fun q => xdchk (xby 105) q.1 q.2) = true := by decide +kernel
theorem xd_106 : xk_106.all (fun q => xdchk (xby 106) q.1 q.2) = true := by decide +kernel
theorem xd_107 : xk_107.all (fun q => xdchk (xby 107) q.1 q.2) = true := by decide +kernel
theorem xd_108 : xk_108.all (fun q => xdchk (xby 108) q.1 q.2) = true := by decide +kernel
theorem xd_109 : xk_109.all (fun q => xdchk (xby 109) q.1 q.2) = true := by decide +kernel
theorem xd_110 : xk_110.all (fun q => xdchk (xby 110) q.1 q.2) = true := by decide +kernel
theorem xd_111 : xk_111.all (fun q => xdchk (xby 111) q.1 q.2) = true := by decide +kernel
theorem xd_112 : xk_112.all (fun q => xdchk (xby 112) q.1 q.2) = true := by decide +kernel
theorem xd_113 : xk_113.all (fun q => xdchk (xby 113) q.1 q.2) = true := by decide +kernel
theorem xd_114 : xk_114.all (fun q => xdchk (xby 114) q.1 q.2) = true := by decide +kernel
theorem xd_115 : xk_115.all (fun q => xdchk (xby 115) q.1 q.2) = true := by decide +kernel
theorem xd_116 : xk_116.all (fun q => xdchk (xby 116) q.1 q.2) = true := by decide +kernel
theorem xd_117 : xk_117.all (fun q => xdchk (xby 117) q.1 q.2) = true := by decide +kernel
theorem xd_118 : xk_118.all (fun q => xdchk (xby 118) q.1 q.2) = true := by decide +kernel
theorem xd_119 : xk_119.all (fun q => xdchk (xby 119) q.1 q.2) = true := by decide +kernel
theorem xd_120 : xk_120.all (fun q => xdchk (xby 120) q.1 q.2) = true := by decide +kernel
theorem xd_121 : xk_121.all (fun q => xdchk (xby 121) q.1 q.2) = true := by decide +kernel
theorem xd_122 : xk_122.all (fun q => xdchk (xby 122) q.1 q.2) = true := by decide +kernel
theorem xd_123 : xk_123.all (fun q => xdchk (xby 123) q.1 q.2) = true := by decide +kernel
theorem xd_124 : xk_124.all (fun q => xdchk (xby 124) q.1 q.2) = true := by decide +kernel
theorem xd_125 : xk_125.all (fun q => xdchk (xby 125) q.1 q.2) = true := by decide +kernel
theorem xd_126 : xk_126.all (fun q => xdchk (xby 126) q.1 q.2) = true := by decide +kernel
theorem xd_127 : xk_127.all (fun q => xdchk (xby 127) q.1 q.2) = true := by decide +kernel
theorem xd_128 : xk_128.all (fun q => xdchk (xby 128) q.1 q.2) = true := by decide +kernel
theorem xd_129 : xk_129.all (fun q => xdchk (xby 129) q.1 q.2) = true := by decide +kernel
theorem xd_130 : xk_130.all (fun q => xdchk (xby 130) q.1 q.2) = true := by decide +kernel
theorem xd_131 : xk_131.all (fun q => xdchk (xby 131) q.1 q.2) = true := by decide +kernel
theorem xd_132 : xk_132.all (fun q => xdchk (xby 132) q.1 q.2) = true := by decide +kernel
theorem xd_133 : xk_133.all (fun q => xdchk (xby 133) q.1 q.2) = true := by decide +kernel
theorem xd_134 : xk_134.all (fun q => xdchk (xby 134) q.1 q.2) = true := by decide +kernel
theorem xd_135 : xk_135.all (fun q => xdchk (xby 135) q.1 q.2) = true := by decide +kernel
theorem xd_136 : xk_136.all (fun q => xdchk (xby 136) q.1 q.2) = true := by decide +kernel
theorem xd_137 : xk_137.all (fun q => xdchk (xby 137) q.1 q.2) = true := by decide +kernel
theorem xd_138 : xk_138.all (fun q => xdchk (xby 138) q.1 q.2) = true := by decide +kernel
theorem xd_139 : xk_139.all (fun q => xdchk (xby 139) q.1 q.2) = true := by decide +kernel
theorem xd_140 : xk_140.all (fun q => xdchk (xby 140) q.1 q.2) = true := by decide +kernel
theorem xd_141 : xk_141.all (fun q => xdchk (xby 141) q.1 q.2) = true := by decide +kernel
theorem xd_142 : xk_142.all (fun q => xdchk (xby 142) q.1 q.2) = true := by decide +kernel
theorem xd_143_0 : ((xk_143.drop 0).take 60).all (fun q => xdchk (xby 143) q.1 q.2) = true := by decide +kernel
theorem xd_143_60 : ((xk_143.drop 60).take 60).all (fun q => xdchk (xby 143) q.1 q.2) = true := by decide +kernel
theorem xd_143 : xk_143.all (fun q => xdchk (xby 143) q.1 q.2) = true := by
  have h : xk_143 = ((xk_143.drop 0).take 60) ++ (((xk_143.drop 60).take 60)) := by decide +kernel
  rw [h]
  simp only [List.all_append, Bool.and_eq_true]
  exact ⟨xd_143_0, xd_143_60⟩
theorem xd_144 : xk_144.all (fun q => xdchk (xby 144) q.1 q.2) = true := by decide +kernel
theorem xd_145 : xk_145.all (fun q => xdchk (xby 145) q.1 q.2) = true := by decide +kernel
theorem xd_146 : xk_146.all (fun q => xdchk (xby 146) q.1 q.2) = true := by decide +kernel
theorem xd_147 : xk_147.all (fun q => xdchk (xby 147) q.1 q.2) = true := by decide +kernel
theorem xd_148 : xk_148.all (fun q => xdchk (xby 148) q.1 q.2) = true := by decide +kernel
theorem xd_149 : xk_149.all (fun q => xdchk (xby 149) q.1 q.2) = true := by decide +kernel
theorem xd_150 : xk_150.all (fun q => xdchk (xby 150) q.1 q.2) = true := by decide +kernel
theorem xd_151 : xk_151.all (fun q => xdchk (xby 151) q.1 q.2) = true := by decide +kernel
theorem xd_152 : xk_152.all (fun q => xdchk (xby 152) q.1 q.2) = true := by decide +kernel
theorem xd_153_0 : ((xk_153.drop 0).take 60).all (fun q => xdchk (xby 153) q.1 q.2) = true := by decide +kernel
theorem xd_153_60 : ((xk_153.drop 60).take 60).all (fun q => xdchk (xby 153) q.1 q.2) = true := by decide +kernel
theorem xd_153_120 : ((xk_153.drop 120).take 60).all (fun q => xdchk (xby 153) q.1 q.2) = true := by decide +kernel
theorem xd_153 : xk_153.all (fun q => xdchk (xby 153) q.1 q.2) = true := by
  have h : xk_153 = ((xk_153.drop 0).take 60) ++ (((xk_153.drop 60).take 60) ++ (((xk_153.drop 120).take 60))) := by decide +kernel
  rw [h]
  simp only [List.all_append, Bool.and_eq_true]
  exact ⟨xd_153_0, ⟨xd_153_60, xd_153_120⟩⟩
theorem xd_154 : xk_154.all (fun q => xdchk (xby 154) q.1 q.2) = true := by decide +kernel
theorem xd_155 : xk_155.all (fun q => xdchk (xby 155) q.1 q.2) = true := by decide +kernel
theorem xd_156 : xk_156.all (fun q => xdchk (xby 156) q.1 q.2) = true := by decide +kernel
theorem xd_157 : xk_157.all (fun q => xdchk (xby 157) q.1 q.2) = true := by decide +kernel
theorem xd_158 : xk_158.all (fun q => xdchk (xby 158) q.1 q.2) = true := by decide +kernel
theorem xd_159 : xk_159.all (fun q => xdchk (xby 159) q.1 q.2) = true := by decide +kernel
theorem xd_160 : xk_160.all (fun q => xdchk (xby 160) q.1 q.2) = true := by decide +kernel
theorem xd_161 : xk_161.all (fun q => xdchk (xby 161) q.1 q.2) = true := by decide +kernel
theorem xd_162 : xk_162.all (fun q => xdchk (xby 162) q.1 q.2) = true := by decide +kernel
theorem xd_163_0 : ((xk_163.drop 0).take 60).all (fun q => xdchk (xby 163) q.1 q.2) = true := by decide +kernel
theorem xd_163_60 : ((xk_163.drop 60).take 60).all (fun q => xdchk (xby 163) q.1 q.2) = true := by decide +kernel
theorem xd_163 : xk_163.all (fun q => xdchk (xby 163) q.1 q.2) = true := by
  have h : xk_163 = ((xk_163.drop 0).take 60) ++ (((xk_163.drop 60).take 60)) := by decide +kernel
  rw [h]
  simp only [List.all_append, Bool.and_eq_true]
  exact ⟨xd_163_0, xd_163_60⟩
theorem xd_164 : xk_164.all (fun q => xdchk (xby 164) q.1 q.2) = true := by decide +kernel
theorem xd_165 : xk_165.all (fun q => xdchk (xby 165) q.1 q.2) = true := by decide +kernel
theorem xd_166 : xk_166.all (fun q => xdchk (xby 166) q.1 q.2) = true := by decide +kernel
theorem xd_167 : xk_167.all (fun q => xdchk (xby 167) q.1 q.2) = true := by decide +kernel
theorem xd_168 : xk_168.all (fun q => xdchk (xby 168) q.1 q.2) = true := by decide +kernel
theorem xd_169 : xk_169.all (fun q => xdchk (xby 169) q.1 q.2) = true := by decide +kernel
theorem xd_170 : xk_170.all (fun q => xdchk (xby 170) q.1 q.2) = true := by decide +kernel
theorem xd_171 : xk_171.all (fun q => xdchk (xby 171) q.1 q.2) = true := by decide +kernel
theorem xd_172_0 : ((xk_172.drop 0).take 60).all (fun q => xdchk (xby 172) q.1 q.2) = true := by decide +kernel
theorem xd_172_60 : ((xk_172.drop 60).take 60).all (fun q => xdchk (xby 172) q.1 q.2) = true := by decide +kernel
theorem xd_172 : xk_172.all (fun q => xdchk (xby 172) q.1 q.2) = true := by
  have h : xk_172 = ((xk_172.drop 0).take 60) ++ (((xk_172.drop 60).take 60)) := by decide +kernel
  rw [h]
  simp only [List.all_append, Bool.and_eq_true]
  exact ⟨xd_172_0, xd_172_60⟩
theorem xd_173 : xk_173.all (fun q => xdchk (xby 173) q.1 q.2) = true := by decide +kernel
theorem xd_174 : xk_174.all (fun q => xdchk (xby 174) q.1 q.2) = true := by decide +kernel
theorem xd_175_0 : ((xk_175.drop 0).take 60).all (fun q => xdchk (xby 175) q.1 q.2) = true := by decide +kernel
theorem xd_175_60 : ((xk_175.drop 60).take 60).all (fun q => xdchk (xby 175) q.1 q.2) = true := by decide +kernel
theorem xd_175 : xk_175.all (fun q => xdchk (xby 175) q.1 q.2) = true := by
  have h : xk_175 = ((xk_175.drop 0).take 60) ++ (((xk_175.drop 60).take 60)) := by decide +kernel
  rw [h]
  simp only [List.all_append, Bool.and_eq_true]
  exact ⟨xd_175_0, xd_175_60⟩
theorem xd_176 : xk_176.all (fun q => xdchk (xby 176) q.1 q.2) = true := by decide +kernel
theorem xd_177 : xk_177.all (fun q => xdchk (xby 177) q.1 q.2) = true := by decide +kernel
theorem xd_178 : xk_178.all (fun q => xdchk (xby 178) q.1 q.2) = true := by decide +kernel
theorem xd_179 : xk_179.all (fun q => xdchk (xby 179) q.1 q.2) = true := by decide +kernel
theorem xd_180 : xk_180.all (fun q => xdchk (xby 180) q.1 q.2) = true := by decide +kernel
theorem xd_181 : xk_181.all (fun q => xdchk (xby 181) q.1 q.2) = true := by decide +kernel
theorem xd_182 : xk_182.all (fun q => xdchk (xby 182) q.1 q.2) = true := by decide +kernel
theorem xd_183 : xk_183.all (fun q => xdchk (xby 183) q.1 q.2) = true := by decide +kernel
theorem xd_184 : xk_184.all (fun q => xdchk (xby 184) q.1 q.2) = true := by decide +kernel
theorem xd_185_0 : ((xk_185.drop 0).take 60).all (fun q => xdchk (xby 185) q.1 q.2) = true := by decide +kernel
theorem xd_185_60 : ((xk_185.drop 60).take 60).all (fun q => xdchk (xby 185) q.1 q.2) = true := by decide +kernel
theorem xd_185_120 : ((xk_185.drop 120).take 60).all (fun q => xdchk (xby 185) q.1 q.2) = true := by decide +kernel
theorem xd_185 : xk_185.all (fun q => xdchk (xby 185) q.1 q.2) = true := by
  have h : xk_185 = ((xk_185.drop 0).take 60) ++ (((xk_185.drop 60).take 60) ++ (((xk_185.drop 120).take 60))) := by decide +kernel
  rw [h]
  simp only [List.all_append, Bool.and_eq_true]
  exact ⟨xd_185_0, ⟨xd_185_60, xd_185_120⟩⟩
theorem xd_186_0 : ((xk_186.drop 0).take 60).all (fun q => xdchk (xby 186) q.1 q.2) = true := by decide +kernel
theorem xd_186_60 : ((xk_186.drop 60).take 60).all (fun q => xdchk (xby 186) q.1 q.2) = true := by decide +kernel
theorem xd_186 : xk_186.all (fun q => xdchk (xby 186) q.1 q.2) = true := by
  have h : xk_186 = ((xk_186.drop 0).take 60) ++ (((xk_186.drop 60).take 60)) := by decide +kernel
  rw [h]
  simp only [List.all_append, Bool.and_eq_true]
  exact ⟨xd_186_0, xd_186_60⟩
theorem xd_187 : xk_187.all (fun q => xdchk (xby 187) q.1 q.2) = true := by decide +kernel
theorem xd_188 : xk_188.all (fun q => xdchk (xby 188) q.1 q.2) = true := by decide +kernel
theorem xd_189 : xk_189.all (fun q => xdchk (xby 189) q.1 q.2) = true := by decide +kernel
theorem xd_190 : xk_190.all (fun q => xdchk (xby 190) q.1 q.2) = true := by decide +kernel
theorem xd_191_0 : ((xk_191.drop 0).take 60).all (fun q => xdchk (xby 191) q.1 q.2) = true := by decide +kernel
theorem xd_191_60 : ((xk_191.drop 60).take 60).all (fun q => xdchk (xby 191) q.1 q.2) = true := by decide +kernel
theorem xd_191_120 : ((xk_191.drop 120).take 60).all (fun q => xdchk (xby 191) q.1 q.2) = true := by decide +kernel
theorem xd_191 : xk_191.all (fun q => xdchk (xby 191) q.1 q.2) = true := by
  have h : xk_191 = ((xk_191.drop 0).take 60) ++ (((xk_191.drop 60).take 60) ++ (((xk_191.drop 120).take 60))) := by decide +kernel
  rw [h]
  simp only [List.all_append, Bool.and_eq_true]
  exact ⟨xd_191_0, ⟨xd_191_60, xd_191_120⟩⟩
theorem xd_192_0 : ((xk_192.drop 0).take 60).all (fun q => xdchk (xby 192) q.1 q.2) = true := by decide +kernel
theorem xd_192_60 : ((xk_192.drop 60).take 60).all (fun q => xdchk (xby 192) q.1 q.2) = true := by decide +kernel
theorem xd_192 : xk_192.all (fun q => xdchk (xby 192) q.1 q.2) = true := by
  have h : xk_192 = ((xk_192.drop 0).take 60) ++ (((xk_192.drop 60).take 60)) := by decide +kernel
  rw [h]
  simp only [List.all_append, Bool.and_eq_true]
  exact ⟨xd_192_0, xd_192_60⟩
theorem xd_193_0 : ((xk_193.drop 0).take 60).all (fun q => xdchk (xby 193) q.1 q.2) = true := by decide +kernel
theorem xd_193_60 : ((xk_193.drop 60).take 60).all (fun q => xdchk (xby 193) q.1 q.2) = true := by decide +kernel
theorem xd_193 : xk_193.all (fun q => xdchk (xby 193) q.1 q.2) = true := by
  have h : xk_193 = ((xk_193.drop 0).take 60) ++ (((xk_193.drop 60).take 60)) := by decide +kernel
  rw [h]
  simp only [List.all_append, Bool.and_eq_true]
  exact ⟨xd_193_0, xd_193_60⟩
theorem xd_194 : xk_194.all (fun q => xdchk (xby 194) q.1 q.2) = true := by decide +kernel
theorem xd_195_0 : ((xk_195.drop 0).take 60).all (fun q => xdchk (xby 195) q.1 q.2) = true := by decide +kernel
theorem xd_195_60 : ((xk_195.drop 60).take 60).all (fun q => xdchk (xby 195) q.1 q.2) = true := by decide +kernel
theorem xd_195_120 : ((xk_195.drop 120).take 60).all (fun q => xdchk (xby 195) q.1 q.2) = true := by decide +kernel
theorem xd_195 : xk_195.all (fun q => xdchk (xby 195) q.1 q.2) = true := by
  have h : xk_195 = ((xk_195.drop 0).take 60) ++ (((xk_195.drop 60).take 60) ++ (((xk_195.drop 120).take 60))) := by decide +kernel
  rw [h]
  simp only [List.all_append, Bool.and_eq_true]
  exact ⟨xd_195_0, ⟨xd_195_60, xd_195_120⟩⟩
theorem xd_196 : xk_196.all (fun q => xdchk (xby 196) q.1 q.2) = true := by decide +kernel
theorem xd_197 : xk_197.all (fun q => xdchk (xby 197) q.1 q.2) = true := by decide +kernel
theorem xd_198_0 : ((xk_198.drop 0).take 60).all (fun q => xdchk (xby 198) q.1 q.2) = true := by decide +kernel
theorem xd_198_60 : ((xk_198.drop 60).take 60).all (fun q => xdchk (xby 198) q.1 q.2) = true := by decide +kernel
theorem xd_198 : xk_198.all (fun q => xdchk (xby 198) q.1 q.2) = true := by
  have h : xk_198 = ((xk_198.drop 0).take 60) ++ (((xk_198.drop 60).take 60)) := by decide +kernel
  rw [h]
  simp only [List.all_append, Bool.and_eq_true]
  exact ⟨xd_198_0, xd_198_60⟩
theorem xd_199_0 : ((xk_199.drop 0).take 60).all (fun q => xdchk (xby 199) q.1 q.2) = true := by decide +kernel
theorem xd_199_60 : ((xk_199.drop 60).take 60).all (fun q => xdchk (xby 199) q.1 q.2) = true := by decide +kernel
theorem xd_199 : xk_199.all (fun q => xdchk (xby 199) q.1 q.2) = true := by
  have h : xk_199 = ((xk_199.drop 0).take 60) ++ (((xk_199.drop 60).take 60)) := by decide +kernel
  rw [h]
  simp only [List.all_append, Bool.and_eq_true]
  exact ⟨xd_199_0, xd_199_60⟩
theorem xd_200_0 : ((xk_200.drop 0).take 60).all (fun q => xdchk (xby 200) q.1 q.2) = true := by decide +kernel
theorem xd_200_60 : ((xk_200.drop 60).take 60).all (fun q => xdchk (xby 200) q.1 q.2) = true := by decide +kernel
theorem xd_200 : xk_200.all (fun q => xdchk (xby 200) q.1 q.2) = true := by
  have h : xk_200 = ((xk_200.drop 0).take 60) ++ (((xk_200.drop 60).take 60)) := by decide +kernel
  rw [h]
  simp only [List.all_append, Bool.and_eq_true]
  exact ⟨xd_200_0, xd_200_60⟩
theorem xd_201_0 : ((xk_201.drop 0).take 60).all (fun q => xdchk (xby 201) q.1 q.2) = true := by decide +kernel
theorem xd_201_60 : ((xk_201.drop 60).take 60).all (fun q => xdchk (xby 201) q.1 q.2) = true := by decide +kernel
theorem xd_201 : xk_201.all (fun q => xdchk (xby 201) q.1 q.2) = true := by
  have h : xk_201 = ((xk_201.drop 0).take 60) ++ (((xk_201.drop 60).take 60)) := by decide +kernel
  rw [h]
  simp only [List.all_append, Bool.and_eq_true]
  exact ⟨xd_201_0, xd_201_60⟩
theorem xd_202 : xk_202.all (fun q => xdchk (xby 202) q.1 q.2) = true := by decide +kernel
theorem xd_203 : xk_203.all (fun q => xdchk (xby 203) q.1 q.2) = true := by decide +kernel
theorem xd_204 : xk_204.all (fun q => xdchk (xby 204) q.1 q.2) = true := by decide +kernel
theorem xd_205 : xk_205.all (fun q => xdchk (xby 205) q.1 q.2) = true := by decide +kernel
theorem xd_206 : xk_206.all (fun q => xdchk (xby 206) q.1 q.2) = true := by decide +kernel
theorem xd_207 : xk_207.all (fun q => xdchk (xby 207) q.1 q.2) = true := by decide +kernel
theorem xd_208 : xk_208.all (fun q => xdchk (xby 208) q.1 q.2) = true := by decide +kernel
theorem xd_209 : xk_209.all (fun q => xdchk (xby 209) q.1 q.2) = true := by decide +kernel
theorem xd_210 : xk_210.all (fun q => xdchk (xby 210) q.1 q.2) = true := by decide +kernel
theorem xd_211 : xk_211.all (fun q => xdchk (xby 211) q.1 q.2) = true := by decide +kernel
theorem xd_212 : xk_212.all (fun q => xdchk (xby 212) q.1 q.2) = true := by decide +kernel
theorem xd_213 : xk_213.all (fun q => xdchk (xby 213) q.1 q.2) = true := by decide +kernel
theorem xd_214 : xk_214.all (fun q => xdchk (xby 214) q.1 q.2) = true := by decide +kernel
theorem xd_215 : xk_215.all (fun q => xdchk (xby 215) q.1 q.2) = true := by decide +kernel
theorem xd_216 : xk_216.all (fun q => xdchk (xby 216) q.1 q.2) = true := by decide +kernel
theorem xd_217 : xk_217.all (fun q => xdchk (xby 217) q.1 q.2) = true := by decide +kernel
theorem xd_218 : xk_218.all (fun q => xdchk (xby 218) q.1 q.2) = true := by decide +kernel
theorem xd_219 : xk_219.all (fun q => xdchk (xby 219) q.1 q.2) = true := by decide +kernel
theorem xd_220 : xk_220.all (fun q => xdchk (xby 220) q.1 q.2) = true := by decide +kernel
theorem xd_221 : xk_221.all (fun q => xdchk (xby 221) q.1 q.2) = true := by decide +kernel
theorem xd_222 : xk_222.all (fun q => xdchk (xby 222) q.1 q.2) = true := by decide +kernel
theorem xd_223 : xk_223.all (fun q => xdchk (xby 223) q.1 q.2) = true := by decide +kernel
theorem xd_224 : xk_224.all (fun q => xdchk (xby 224) q.1 q.2) = true := by decide +kernel
theorem xd_225 : xk_225.all (fun q => xdchk (xby 225) q.1 q.2) = true := by decide +kernel
theorem xd_226 : xk_226.all (fun q => xdchk (xby 226) q.1 q.2) = true := by decide +kernel
theorem xd_227_0 : ((xk_227.drop 0).take 60).all (fun q => xdchk (xby 227) q.1 q.2) = true := by decide +kernel
theorem xd_227_60 : ((xk_227.drop 60).take 60).all (fun q => xdchk (xby 227) q.1 q.2) = true := by decide +kernel
theorem xd_227_120 : ((xk_227.drop 120).take 60).all (fun q => xdchk (xby 227) q.1 q.2) = true := by decide +kernel
theorem xd_227 : xk_227.all (fun q => xdchk (xby 227) q.1 q.2) = true := by
  have h : xk_227 = ((xk_227.drop 0).take 60) ++ (((xk_227.drop 60).take 60) ++ (((xk_227.drop 120).take 60))) := by decide +kernel
  rw [h]
  simp only [List.all_append, Bool.and_eq_true]
  exact ⟨xd_227_0, ⟨xd_227_60, xd_227_120⟩⟩
theorem xd_228 : xk_228.all (fun q => xdchk (xby 228) q.1 q.2) = true := by decide +kernel
theorem xd_229_0 : ((xk_229.drop 0).take 60).all (fun q => xdchk (xby 229) q.1 q.2) = true := by decide +kernel
theorem xd_229_60 : ((xk_229.drop 60).take 60).all (fun q => xdchk (xby 229) q.1 q.2) = true := by decide +kernel
theorem xd_229 : xk_229.all (fun q => xdchk (xby 229) q.1 q.2) = true := by
  have h : xk_229 = ((xk_229.drop 0).take 60) ++ (((xk_229.drop 60).take 60)) := by decide +kernel
  rw [h]
  simp only [List.all_append, Bool.and_eq_true]
  exact ⟨xd_229_0, xd_229_60⟩
theorem xd_230_0 : ((xk_230.drop 0).take 60).all (fun q => xdchk (xby 230) q.1 q.2) = true := by decide +kernel
theorem xd_230_60 : ((xk_230.drop 60).take 60).all (fun q => xdchk (xby 230) q.1 q.2) = true := by decide +kernel
theorem xd_230 : xk_230.all (fun q => xdchk (xby 230) q.1 q.2) = true := by
  have h : xk_230 = ((xk_230.drop 0).take 60) ++ (((xk_230.drop 60).take 60)) := by decide +kernel
  rw [h]
  simp only [List.all_append, Bool.and_eq_true]
  exact ⟨xd_230_0, xd_230_60⟩
theorem xd_231 : xk_231.all (fun q => xdchk (xby 231) q.1 q.2) = true := by decide +kernel
theorem xd_232 : xk_232.all (fun q => xdchk (xby 232) q.1 q.2) = true := by decide +kernel
theorem xd_233 : xk_233.all (fun q => xdchk (xby 233) q.1 q.2) = true := by decide +kernel
theorem xd_234 : xk_234.all (fun q => xdchk (xby 234) q.1 q.2) = true := by decide +kernel
theorem xd_235 : xk_235.all (fun q => xdchk (xby 235) q.1 q.2) = true := by decide +kernel
theorem xd_236 : xk_236.all (fun q => xdchk (xby 236) q.1 q.2) = true := by decide +kernel
theorem xd_237 : xk_237.all (fun q => xdchk (xby 237) q.1 q.2) = true := by decide +kernel
theorem xd_238 : xk_238.all (fun q => xdchk (xby 238) q.1 q.2) = true := by decide +kernel
theorem xd_239 : xk_239.all (fun q => xdchk (xby 239) q.1 q.2) = true := by decide +kernel
theorem xd_240 : xk_240.all (fun q => xdchk (xby 240) q.1 q.2) = true := by decide +kernel
theorem xd_241 : xk_241.all (fun q => xdchk (xby 241) q.1 q.2) = true := by decide +kernel
theorem xd_242 : xk_242.all (fun q => xdchk (xby 242) q.1 q.2) = true := by decide +kernel
theorem xd_243 : xk_243.all (fun q => xdchk (xby 243) q.1 q.2) = true := by decide +kernel
theorem xd_244 : xk_244.all (fun q => xdchk (xby 244) q.1 q.2) = true := by decide +kernel
theorem xd_245 : xk_245.all (fun q => xdchk (xby 245) q.1 q.2) = true := by decide +kernel
theorem xd_246 : xk_246.all (fun q => xdchk (xby 246) q.1 q.2) = true := by decide +kernel
theorem xd_247 : xk_247.all (fun q => xdchk (xby 247) q.1 q.2) = true := by decide +kernel
theorem xd_248 : xk_248.all (fun q => xdchk (xby 248) q.1 q.2) = true := by decide +kernel
theorem xd_249 : xk_249.all (fun q => xdchk (xby 249) q.1 q.2) = true := by decide +kernel
theorem xd_250 : xk_250.all (fun q => xdchk (xby 250) q.1 q.2) = true := by decide +kernel
theorem xd_251 : xk_251.all (fun q => xdchk (xby 251) q.1 q.2) = true := by decide +kernel
theorem xd_252 : xk_252.all (fun q => xdchk (xby 252) q.1 q.2) = true := by decide +kernel
theorem xd_253 : xk_253.all (fun q => xdchk (xby 253) q.1 q.2) = true := by decide +kernel
theorem xd_254 : xk_254.all (fun q => xdchk (xby 254) q.1 q.2) = true := by decide +kernel
theorem xd_255 : xk_255.all (fun q => xdchk (xby 255) q.1 q.2) = true := by decide +kernel
theorem xd_256 : xk_256.all (fun q => xdchk (xby 256) q.1 q.2) = true := by decide +kernel
theorem xd_257 : xk_257.all (fun q => xdchk (xby 257) q.1 q.2) = true := by decide +kernel
theorem xd_258 : xk_258.all (fun q => xdchk (xby 258) q.1 q.2) = true := by decide +kernel
theorem xd_259 : xk_259.all (fun q => xdchk (xby 259) q.1 q.2) = true := by decide +kernel
theorem xd_260 : xk_260.all (fun q => xdchk (xby 260) q.1 q.2) = true := by decide +kernel
theorem xd_261_0 : ((xk_261.drop 0).take 60).all (fun q => xdchk (xby 261) q.1 q.2) = true := by decide +kernel
theorem xd_261_60 : ((xk_261.drop 60).take 60).all (fun q => xdchk (xby 261) q.1 q.2) = true := by decide +kernel
theorem xd_261_120 : ((xk_261.drop 120).take 60).all (fun q => xdchk (xby 261) q.1 q.2) = true := by decide +kernel
theorem xd_261_180 : ((xk_261.drop 180).take 60).all (fun q => xdchk (xby 261) q.1 q.2) = true := by decide +kernel
theorem xd_261_240 : ((xk_261.drop 240).take 60).all (fun q => xdchk (xby 261) q.1 q.2) = true := by decide +kernel
theorem xd_261_300 : ((xk_261.drop 300).take 60).all (fun q => xdchk (xby 261) q.1 q.2) = true := by decide +kernel
theorem xd_261_360 : ((xk_261.drop 360).take 60).all (fun q => xdchk (xby 261) q.1 q.2) = true := by decide +kernel
theorem xd_261_420 : ((xk_261.drop 420).take 60).all (fun q => xdchk (xby 261) q.1 q.2) = true := by decide +kernel
theorem xd_261_480 : ((xk_261.drop 480).take 60).all (fun q => xdchk (xby 261) q.1 q.2) = true := by decide +kernel
theorem xd_261_540 : ((xk_261.drop 540).take 60).all (fun q => xdchk (xby 261) q.1 q.2) = true := by decide +kernel
theorem xd_261_600 : ((xk_261.drop 600).take 60).all (fun q => xdchk (xby 261) q.1 q.2) = true := by decide +kernel
theorem xd_261_660 : ((xk_261.drop 660).take 60).all (fun q => xdchk (xby 261) q.1 q.2) = true := by decide +kernel
theorem xd_261_720 : ((xk_261.drop 720).take 60).all (fun q => xdchk (xby 261) q.1 q.2) = true := by decide +kernel
theorem xd_261_780 : ((xk_261.drop 780).take 60).all (fun q => xdchk (xby 261) q.1 q.2) = true := by decide +kernel
theorem xd_261_840 : ((xk_261.drop 840).take 60).all (fun q => xdchk (xby 261) q.1 q.2) = true := by decide +kernel
theorem xd_261_900 : ((xk_261.drop 900).take 60).all (fun q => xdchk (xby 261) q.1 q.2) = true := by decide +kernel
theorem xd_261_960 : ((xk_261.drop 960).take 60).all (fun q => xdchk (xby 261) q.1 q.2) = true := by decide +kernel
theorem xd_261_1020 : ((xk_261.drop 1020).take 60).all (fun q => xdchk (xby 261) q.1 q.2) = true := by decide +kernel
theorem xd_261_1080 : ((xk_261.drop 1080).take 60).all (fun q => xdchk (xby 261) q.1 q.2) = true := by decide +kernel
theorem xd_261 : xk_261.all (fun q => xdchk (xby 261) q.1 q.2) = true := by
  have h : xk_261 = ((xk_261.drop 0).take 60) ++ (((xk_261.drop 60).take 60) ++ (((xk_261.drop 120).take 60) ++ (((xk_261.drop 180).take 60) ++ (((xk_261.drop 240).take 60) ++ (((xk_261.drop 300).take 60) ++ (((xk_261.drop 360).take 60) ++ (((xk_261.drop 420).take 60) ++ (((xk_261.drop 480).take 60) ++ (((xk_261.drop 540).take 60) ++ (((xk_261.drop 600).take 60) ++ (((xk_261.drop 660).take 60) ++ (((xk_261.drop 720).take 60) ++ (((xk_261.drop 780).take 60) ++ (((xk_261.drop 840).take 60) ++ (((xk_261.drop 900).take 60) ++ (((xk_261.drop 960).take 60) ++ (((xk_261.drop 1020).take 60) ++ (((xk_261.drop 1080).take 60))))))))))))))))))) := by decide +kernel
  rw [h]
  simp only [List.all_append, Bool.and_eq_true]
  exact ⟨xd_261_0, ⟨xd_261_60, ⟨xd_261_120, ⟨xd_261_180, ⟨xd_261_240, ⟨xd_261_300, ⟨xd_261_360, ⟨xd_261_420, ⟨xd_261_480, ⟨xd_261_540, ⟨xd_261_600, ⟨xd_261_660, ⟨xd_261_720, ⟨xd_261_780, ⟨xd_261_840, ⟨xd_261_900, ⟨xd_261_960, ⟨xd_261_1020, xd_261_1080⟩⟩⟩⟩⟩⟩⟩⟩⟩⟩⟩⟩⟩⟩⟩⟩⟩⟩
def xDok (mi : Nat) : Prop := ∀ l, xcode[mi]? = some l → l.all (fun q => xdchk (xby mi) q.1 q.2) = true
def xDs_l0 : List (Nat) := [0, 1, 2, 3, 4, 5, 6, 7, 8, 9, 10, 11, 12, 13, 14, 15]
theorem xDs_b0 : ∀ q ∈ xDs_l0, xDok q := List.forall_mem_cons.mpr ⟨(fun l h => by cases h; exact xd_0), List.forall_mem_cons.mpr ⟨(fun l h => by cases h; exact xd_1), List.forall_mem_cons.mpr ⟨(fun l h => by cases h; exact xd_2), List.forall_mem_cons.mpr ⟨(fun l h => by cases h; exact xd_3), List.forall_mem_cons.mpr ⟨(fun l h => by cases h; exact xd_4), List.forall_mem_cons.mpr ⟨(fun l h => by cases h; exact xd_5), List.forall_mem_cons.mpr ⟨(fun l h => by cases h; exact xd_6), List.forall_mem_cons.mpr ⟨(fun l h => by cases h; exact xd_7), List.forall_mem_cons.mpr ⟨(fun l h => by cases h; exact xd_8), List.forall_mem_cons.mpr ⟨(fun l h => by cases h; exact xd_9), List.forall_mem_cons.mpr ⟨(fun l h => by cases h; exact xd_10), List.forall_mem_cons.mpr ⟨(fun l h => by cases h; exact xd_11), List.forall_mem_cons.mpr ⟨(fun l h => by cases h; exact xd_12), List.forall_mem_cons.mpr ⟨(fun l h => by cases h; exact xd_13), List.forall_mem_cons.mpr ⟨(fun l h => by cases h; exact xd_14), List.forall_mem_cons.mpr ⟨(fun l h => by cases h; exact xd_15), fun _ h => absurd h List.not_mem_nil⟩⟩⟩⟩⟩⟩⟩⟩⟩⟩⟩⟩⟩⟩⟩⟩
def xDs_l16 : List (Nat) := [16, 17, 18, 19, 20, 21, 22, 23, 24, 25, 26, 27, 28, 29, 30, 31]
theorem xDs_b16 : ∀ q ∈ xDs_l16, xDok q := List.forall_mem_cons.mpr ⟨(fun l h => by cases h; exact xd_16), List.forall_mem_cons.mpr ⟨(fun l h => by cases h; exact xd_17), List.forall_mem_cons.mpr ⟨(fun l h => by cases h; exact xd_18), List.forall_mem_cons.mpr ⟨(fun l h => by cases h; exact xd_19), List.forall_mem_cons.mpr ⟨(fun l h => by cases h; exact xd_20), List.forall_mem_cons.mpr ⟨(fun l h => by cases h; exact xd_21), List.forall_mem_cons.mpr ⟨(fun l h => by cases h; exact xd_22), List.forall_mem_cons.mpr ⟨(fun l h => by cases h; exact xd_23), List.forall_mem_cons.mpr ⟨(fun l h => by cases h; exact xd_24), List.forall_mem_cons.mpr ⟨(fun l h => by cases h; exact xd_25), List.forall_mem_cons.mpr ⟨(fun l h => by cases h; exact xd_26), List.forall_mem_cons.mpr ⟨(fun l h => by cases h; exact xd_27), List.forall_mem_cons.mpr ⟨(fun l h => by cases h; exact xd_28), List.forall_mem_cons.mpr ⟨(fun l h => by cases h; exact xd_29), List.forall_mem_cons.mpr ⟨(fun l h => by cases h; exact xd_30), List.forall_mem_cons.mpr ⟨(fun l h => by cases h; exact xd_31), fun _ h => absurd h List.not_mem_nil⟩⟩⟩⟩⟩⟩⟩⟩⟩⟩⟩⟩⟩⟩⟩⟩
def xDs_l32 : List (Nat) := [32, 33, 34, 35, 36, 37, 38, 39, 40, 41, 42, 43, 44, 45, 46, 47]
theorem xDs_b32 : ∀ q ∈ xDs_l32, xDok q := List.forall_mem_cons.mpr ⟨(fun l h => by cases h; exact xd_32), List.forall_mem_cons.mpr ⟨(fun l h => by cases h; exact xd_33), List.forall_mem_cons.mpr ⟨(fun l h => by cases h; exact xd_34), List.forall_mem_cons.mpr ⟨(fun l h => by cases h; exact xd_35), List.forall_mem_cons.mpr ⟨(fun l h => by cases h; exact xd_36), List.forall_mem_cons.mpr ⟨(fun l h => by cases h; exact xd_37), List.forall_mem_cons.mpr ⟨(fun l h => by cases h; exact xd_38), List.forall_mem_cons.mpr ⟨(fun l h => by cases h; exact xd_39), List.forall_mem_cons.mpr ⟨(fun l h => by cases h; exact xd_40), List.forall_mem_cons.mpr ⟨(fun l h => by cases h; exact xd_41), List.forall_mem_cons.mpr ⟨(fun l h => by cases h; exact xd_42), List.forall_mem_cons.mpr ⟨(fun l h => by cases h; exact xd_43), List.forall_mem_cons.mpr ⟨(fun l h => by cases h; exact xd_44), List.forall_mem_cons.mpr ⟨(fun l h => by cases h; exact xd_45), List.forall_mem_cons.mpr ⟨(fun l h => by cases h; exact xd_46), List.forall_mem_cons.mpr ⟨(fun l h => by cases h; exact xd_47), fun _ h => absurd h List.not_mem_nil⟩⟩⟩⟩⟩⟩⟩⟩⟩⟩⟩⟩⟩⟩⟩⟩
def xDs_l48 : List (Nat) := [48, 49, 50, 51, 52, 53, 54, 55, 56, 57, 58, 59, 60, 61, 62, 63]
theorem xDs_b48 : ∀ q ∈ xDs_l48, xDok q := List.forall_mem_cons.mpr ⟨(fun l h => by cases h; exact xd_48), List.forall_mem_cons.mpr ⟨(fun l h => by cases h; exact xd_49), List.forall_mem_cons.mpr ⟨(fun l h => by cases h; exact xd_50), List.forall_mem_cons.mpr ⟨(fun l h => by cases h; exact xd_51), List.forall_mem_cons.mpr ⟨(fun l h => by cases h; exact xd_52), List.forall_mem_cons.mpr ⟨(fun l h => by cases h; exact xd_53), List.forall_mem_cons.mpr ⟨(fun l h => by cases h; exact xd_54), List.forall_mem_cons.mpr ⟨(fun l h => by cases h; exact xd_55), List.forall_mem_cons.mpr ⟨(fun l h => by cases h; exact xd_56), List.forall_mem_cons.mpr ⟨(fun l h => by cases h; exact xd_57), List.forall_mem_cons.mpr ⟨(fun l h => by cases h; exact xd_58), List.forall_mem_cons.mpr ⟨(fun l h => by cases h; exact xd_59), List.forall_mem_cons.mpr ⟨(fun l h => by cases h; exact xd_60), List.forall_mem_cons.mpr ⟨(fun l h => by cases h; exact xd_61), List.forall_mem_cons.mpr ⟨(fun l h => by cases h; exact xd_62), List.forall_mem_cons.mpr ⟨(fun l h => by cases h; exact xd_63), fun _ h => absurd h List.not_mem_nil⟩⟩⟩⟩⟩⟩⟩⟩⟩⟩⟩⟩⟩⟩⟩⟩
def xDs_l64 : List (Nat) := [64, 65, 66, 67, 68, 69, 70, 71, 72, 73, 74, 75, 76, 77, 78, 79]
theorem xDs_b64 : ∀ q ∈ xDs_l64, xDok q := List.forall_mem_cons.mpr ⟨(fun l h => by cases h; exact xd_64), List.forall_mem_cons.mpr ⟨(fun l h => by cases h; exact xd_65), List.forall_mem_cons.mpr ⟨(fun l h => by cases h; exact xd_66), List.forall_mem_cons.mpr ⟨(fun l h => by cases h; exact xd_67), List.forall_mem_cons.mpr ⟨(fun l h => by cases h; exact xd_68), List.forall_mem_cons.mpr ⟨(fun l h => by cases h; exact xd_69), List.forall_mem_cons.mpr ⟨(fun l h => by cases h; exact xd_70), List.forall_mem_cons.mpr ⟨(fun l h => by cases h; exact xd_71), List.forall_mem_cons.mpr ⟨(fun l h => by cases h; exact xd_72), List.forall_mem_cons.mpr ⟨(fun l h => by cases h; exact xd_73), List.forall_mem_cons.mpr ⟨(fun l h => by cases h; exact xd_74), List.forall_mem_cons.mpr ⟨(fun l h => by cases h; exact xd_75), List.forall_mem_cons.mpr ⟨(fun l h => by cases h; exact xd_76), List.forall_mem_cons.mpr ⟨(fun l h => by cases h; exact xd_77), List.forall_mem_cons.mpr ⟨(fun l h => by cases h; exact xd_78), List.forall_mem_cons.mpr ⟨(fun l h => by cases h; exact xd_79), fun _ h => absurd h List.not_mem_nil⟩⟩⟩⟩⟩⟩⟩⟩⟩⟩⟩⟩⟩⟩⟩⟩
def xDs_l80 : List (Nat) := [80, 81, 82, 83, 84, 85, 86, 87, 88, 89, 90, 91, 92, 93, 94, 95]
theorem xDs_b80 : ∀ q ∈ xDs_l80, xDok q := List.forall_mem_cons.mpr ⟨(fun l h => by cases h; exact xd_80), List.forall_mem_cons.mpr ⟨(fun l h => by cases h; exact xd_81), List.forall_mem_cons.mpr ⟨(fun l h => by cases h; exact xd_82), List.forall_mem_cons.mpr ⟨(fun l h => by cases h; exact xd_83), List.forall_mem_cons.mpr ⟨(fun l h => by cases h; exact xd_84), List.forall_mem_cons.mpr ⟨(fun l h => by cases h; exact xd_85), List.forall_mem_cons.mpr ⟨(fun l h => by cases h; exact xd_86), List.forall_mem_cons.mpr ⟨(fun l h => by cases h; exact xd_87), List.forall_mem_cons.mpr ⟨(fun l h => by cases h; exact xd_88), List.forall_mem_cons.mpr ⟨(fun l h => by cases h; exact xd_89), List.forall_mem_cons.mpr ⟨(fun l h => by cases h; exact xd_90), List.forall_mem_cons.mpr ⟨(fun l h => by cases h; exact xd_91), List.forall_mem_cons.mpr ⟨(fun l h => by cases h; exact xd_92), List.forall_mem_cons.mpr ⟨(fun l h => by cases h; exact xd_93), List.forall_mem_cons.mpr ⟨(fun l h => by cases h; exact xd_94), List.forall_mem_cons.mpr ⟨(fun l h => by cases h; exact xd_95), fun _ h => absurd h List.not_mem_nil⟩⟩⟩⟩⟩⟩⟩⟩⟩⟩⟩⟩⟩⟩⟩⟩
def xDs_l96 : List (Nat) := [96, 97, 98, 99, 100, 101, 102, 103, 104, 105, 106, 107, 108, 109, 110, 111]
theorem xDs_b96 : ∀ q ∈ xDs_l96, xDok q := List.forall_mem_cons.mpr ⟨(fun l h => by cases h; exact xd_96), List.forall_mem_cons.mpr ⟨(fun l h => by cases h; exact xd_97), List.forall_mem_cons.mpr ⟨(fun l h => by cases h; exact xd_98), List.forall_mem_cons.mpr ⟨(fun l h => by cases h; exact xd_99), List.forall_mem_cons.mpr ⟨(fun l h => by cases h; exact xd_100), List.forall_mem_cons.mpr ⟨(fun l h => by cases h; exact xd_101), List.forall_mem_cons.mpr ⟨(fun l h => by cases h; exact xd_102), List.forall_mem_cons.mpr ⟨(fun l h => by cases h; exact xd_103), List.forall_mem_cons.mpr ⟨(fun l h => by cases h; exact xd_104), List.forall_mem_cons.mpr ⟨(fun l h => by cases h; exact xd_105), List.forall_mem_cons.mpr ⟨(fun l h => by cases h; exact xd_106), List.forall_mem_cons.mpr ⟨(fun l h => by cases h; exact xd_107), List.forall_mem_cons.mpr ⟨(fun l h => by cases h; exact xd_108), List.forall_mem_cons.mpr ⟨(fun l h => by cases h; exact xd_109), List.forall_mem_cons.mpr ⟨(fun l h => by cases h; exact xd_110), List.forall_mem_cons.mpr ⟨(fun l h => by cases h; exact xd_111), fun _ h => absurd h List.not_mem_nil⟩⟩⟩⟩⟩⟩⟩⟩⟩⟩⟩⟩⟩⟩⟩⟩
def xDs_l112 : List (Nat) := [112, 113, 114, 115, 116, 117, 118, 119, 120, 121, 122, 123, 124, 125, 126, 127]
theorem xDs_b112 : ∀ q ∈ xDs_l112, xDok q := List.forall_mem_cons.mpr ⟨(fun l h => by cases h; exact xd_112), List.forall_mem_cons.mpr ⟨(fun l h => by cases h; exact xd_113), List.forall_mem_cons.mpr ⟨(fun l h => by cases h; exact xd_114), List.forall_mem_cons.mpr ⟨(fun l h => by cases h; exact xd_115), List.forall_mem_cons.mpr ⟨(fun l h => by cases h; exact xd_116), List.forall_mem_cons.mpr ⟨(fun l h => by cases h; exact xd_117), List.forall_mem_cons.mpr ⟨(fun l h => by cases h; exact xd_118), List.forall_mem_cons.mpr ⟨(fun l h => by cases h; exact xd_119), List.forall_mem_cons.mpr ⟨(fun l h => by cases h; exact xd_120), List.forall_mem_cons.mpr ⟨(fun l h => by cases h; exact xd_121), List.forall_mem_cons.mpr ⟨(fun l h => by cases h; exact xd_122), List.forall_mem_cons.mpr ⟨(fun l h => by cases h; exact xd_123), List.forall_mem_cons.mpr ⟨(fun l h => by cases h; exact xd_124), List.forall_mem_cons.mpr ⟨(fun l h => by cases h; exact xd_125), List.forall_mem_cons.mpr ⟨(fun l h => by cases h; exact xd_126), List.forall_mem_cons.mpr ⟨(fun l h => by cases h; exact xd_127), fun _ h => absurd h List.not_mem_nil⟩⟩⟩⟩⟩⟩⟩⟩⟩⟩⟩⟩⟩⟩⟩⟩
def xDs_l128 : List (Nat) := [128, 129, 130, 131, 132, 133, 134, 135, 136, 137, 138, 139, 140, 141, 142, 143]
theorem xDs_b128 : ∀ q ∈ xDs_l128, xDok q := List.forall_mem_cons.mpr ⟨(fun l h => by cases h; exact xd_128), List.forall_mem_cons.mpr ⟨(fun l h => by cases h; exact xd_129), List.forall_mem_cons.mpr ⟨(fun l h => by cases h; exact xd_130), List.forall_mem_cons.mpr ⟨(fun l h => by cases h; exact xd_131), List.forall_mem_cons.mpr ⟨(fun l h => by cases h; exact xd_132), List.forall_mem_cons.mpr ⟨(fun l h => by cases h; exact xd_133), List.forall_mem_cons.mpr ⟨(fun l h => by cases h; exact xd_134), List.forall_mem_cons.mpr ⟨(fun l h => by cases h; exact xd_135), List.forall_mem_cons.mpr ⟨(fun l h => by cases h; exact xd_136), List.forall_mem_cons.mpr ⟨(fun l h => by cases h; exact xd_137), List.forall_mem_cons.mpr ⟨(fun l h => by cases h; exact xd_138), List.forall_mem_cons.mpr ⟨(fun l h => by cases h; exact xd_139), List.forall_mem_cons.mpr ⟨(fun l h => by cases h; exact xd_140), List.forall_mem_cons.mpr ⟨(fun l h => by cases h; exact xd_141), List.forall_mem_cons.mpr ⟨(fun l h => by cases h; exact xd_142), List.forall_mem_cons.mpr ⟨(fun l h => by cases h; exact xd_143), fun _ h => absurd h List.not_mem_nil⟩⟩⟩⟩⟩⟩⟩⟩⟩⟩⟩⟩⟩⟩⟩⟩
def xDs_l144 : List (Nat) := [144, 145, 146, 147, 148, 149, 150, 151, 152, 153, 154, 155, 156, 157, 158, 159]
theorem xDs_b144 : ∀ q ∈ xDs_l144, xDok q := List.forall_mem_cons.mpr ⟨(fun l h => by cases h; exact xd_144), List.forall_mem_cons.mpr ⟨(fun l h => by cases h; exact xd_145), List.forall_mem_cons.mpr ⟨(fun l h => by cases h; exact xd_146), List.forall_mem_cons.mpr ⟨(fun l h => by cases h; exact xd_147), List.forall_mem_cons.mpr ⟨(fun l h => by cases h; exact xd_148), List.forall_mem_cons.mpr ⟨(fun l h => by cases h; exact xd_149), List.forall_mem_cons.mpr ⟨(fun l h => by cases h; exact xd_150), List.forall_mem_cons.mpr ⟨(fun l h => by cases h; exact xd_151), List.forall_mem_cons.mpr ⟨(fun l h => by cases h; exact xd_152), List.forall_mem_cons.mpr ⟨(fun l h => by cases h; exact xd_153), List.forall_mem_cons.mpr ⟨(fun l h => by cases h; exact xd_154), List.forall_mem_cons.mpr ⟨(fun l h => by cases h; exact xd_155), List.forall_mem_cons.mpr ⟨(fun l h => by cases h; exact xd_156), List.forall_mem_cons.mpr ⟨(fun l h => by cases h; exact xd_157), List.forall_mem_cons.mpr ⟨(fun l h => by cases h; exact xd_158), List.forall_mem_cons.mpr ⟨(fun l h => by cases h; exact xd_159), fun _ h => absurd h List.not_mem_nil⟩⟩⟩⟩⟩⟩⟩⟩⟩⟩⟩⟩⟩⟩⟩⟩
def xDs_l160 : List (Nat) := [160, 161, 162, 163, 164, 165, 166, 167, 168, 169, 170, 171, 172, 173, 174, 175]
theorem xDs_b160 : ∀ q ∈ xDs_l160, xDok q := List.forall_mem_cons.mpr ⟨(fun l h => by cases h; exact xd_160), List.forall_mem_cons.mpr ⟨(fun l h => by cases h; exact xd_161), List.forall_mem_cons.mpr ⟨(fun l h => by cases h; exact xd_162), List.forall_mem_cons.mpr ⟨(fun l h => by cases h; exact xd_163), List.forall_mem_cons.mpr ⟨(fun l h => by cases h; exact xd_164), List.forall_mem_cons.mpr ⟨(fun l h => by cases h; exact xd_165), List.forall_mem_cons.mpr ⟨(fun l h => by cases h; exact xd_166), List.forall_mem_cons.mpr ⟨(fun l h => by cases h; exact xd_167), List.forall_mem_cons.mpr ⟨(fun l h => by cases h; exact xd_168), List.forall_mem_cons.mpr ⟨(fun l h => by cases h; exact xd_169), List.forall_mem_cons.mpr ⟨(fun l h => by cases h; exact xd_170), List.forall_mem_cons.mpr ⟨(fun l h => by cases h; exact xd_171), List.forall_mem_cons.mpr ⟨(fun l h => by cases h; exact xd_172), List.forall_mem_cons.mpr ⟨(fun l h => by cases h; exact xd_173), List.forall_mem_cons.mpr ⟨(fun l h => by cases h; exact xd_174), List.forall_mem_cons.mpr ⟨(fun l h => by cases h; exact xd_175), fun _ h => absurd h List.not_mem_nil⟩⟩⟩⟩⟩⟩⟩⟩⟩⟩⟩⟩⟩⟩⟩⟩
def xDs_l176 : List (Nat) := [176, 177, 178, 179, 180, 181, 182, 183, 184, 185, 186, 187, 188, 189, 190, 191]
theorem xDs_b176 : ∀ q ∈ xDs_l176, xDok q := List.forall_mem_cons.mpr ⟨(fun l h => by cases h; exact xd_176), List.forall_mem_cons.mpr ⟨(fun l h => by cases h; exact xd_177), List.forall_mem_cons.mpr ⟨(fun l h => by cases h; exact xd_178), List.forall_mem_cons.mpr ⟨(fun l h => by cases h; exact xd_179), List.forall_mem_cons.mpr ⟨(fun l h => by cases h; exact xd_180), List.forall_mem_cons.mpr ⟨(fun l h => by cases h; exact xd_181), List.forall_mem_cons.mpr ⟨(fun l h => by cases h; exact xd_182), List.forall_mem_cons.mpr ⟨(fun l h => by cases h; exact xd_183), List.forall_mem_cons.mpr ⟨(fun l h => by cases h; exact xd_184), List.forall_mem_cons.mpr ⟨(fun l h => by cases h; exact xd_185), List.forall_mem_cons.mpr ⟨(fun l h => by cases h; exact xd_186), List.forall_mem_cons.mpr ⟨(fun l h => by cases h; exact xd_187), List.forall_mem_cons.mpr ⟨(fun l h => by cases h; exact xd_188), List.forall_mem_cons.mpr ⟨(fun l h => by cases h; exact xd_189), List.forall_mem_cons.mpr ⟨(fun l h => by cases h; exact xd_190), List.forall_mem_cons.mpr ⟨(fun l h => by cases h; exact xd_191), fun _ h => absurd h List.not_mem_nil⟩⟩⟩⟩⟩⟩⟩⟩⟩⟩⟩⟩⟩⟩⟩⟩
def xDs_l192 : List (Nat) := [192, 193, 194, 195, 196, 197, 198, 199, 200, 201, 202, 203, 204, 205, 206, 207]
theorem xDs_b192 : ∀ q ∈ xDs_l192, xDok q := List.forall_mem_cons.mpr ⟨(fun l h => by cases h; exact xd_192), List.forall_mem_cons.mpr ⟨(fun l h => by cases h; exact xd_193), List.forall_mem_cons.mpr ⟨(fun l h => by cases h; exact xd_194), List.forall_mem_cons.mpr ⟨(fun l h => by cases h; exact xd_195), List.forall_mem_cons.mpr ⟨(fun l h => by cases h; exact xd_196), List.forall_mem_cons.mpr ⟨(fun l h => by cases h; exact xd_197), List.forall_mem_cons.mpr ⟨(fun l h => by cases h; exact xd_198), List.forall_mem_cons.mpr ⟨(fun l h => by cases h; exact xd_199), List.forall_mem_cons.mpr ⟨(fun l h => by cases h; exact xd_200), List.forall_mem_cons.mpr ⟨(fun l h => by cases h; exact xd_201), List.forall_mem_cons.mpr ⟨(fun l h => by cases h; exact xd_202), List.forall_mem_cons.mpr ⟨(fun l h => by cases h; exact xd_203), List.forall_mem_cons.mpr ⟨(fun l h => by cases h; exact xd_204), List.forall_mem_cons.mpr ⟨(fun l h => by cases h; exact xd_205), List.forall_mem_cons.mpr ⟨(fun l h => by cases h; exact xd_206), List.forall_mem_cons.mpr ⟨(fun l h => by cases h; exact xd_207), fun _ h => absurd h List.not_mem_nil⟩⟩⟩⟩⟩⟩⟩⟩⟩⟩⟩⟩⟩⟩⟩⟩
def xDs_l208 : List (Nat) := [208, 209, 210, 211, 212, 213, 214, 215, 216, 217, 218, 219, 220, 221, 222, 223]
theorem xDs_b208 : ∀ q ∈ xDs_l208, xDok q := List.forall_mem_cons.mpr ⟨(fun l h => by cases h; exact xd_208), List.forall_mem_cons.mpr ⟨(fun l h => by cases h; exact xd_209), List.forall_mem_cons.mpr ⟨(fun l h => by cases h; exact xd_210), List.forall_mem_cons.mpr ⟨(fun l h => by cases h; exact xd_211), List.forall_mem_cons.mpr ⟨(fun l h => by cases h; exact xd_212), List.forall_mem_cons.mpr ⟨(fun l h => by cases h; exact xd_213), List.forall_mem_cons.mpr ⟨(fun l h => by cases h; exact xd_214), List.forall_mem_cons.mpr ⟨(fun l h => by cases h; exact xd_215), List.forall_mem_cons.mpr ⟨(fun l h => by cases h; exact xd_216), List.forall_mem_cons.mpr ⟨(fun l h => by cases h; exact xd_217), List.forall_mem_cons.mpr ⟨(fun l h => by cases h; exact xd_218), List.forall_mem_cons.mpr ⟨(fun l h => by cases h; exact xd_219), List.forall_mem_cons.mpr ⟨(fun l h => by cases h; exact xd_220), List.forall_mem_cons.mpr ⟨(fun l h => by cases h; exact xd_221), List.forall_mem_cons.mpr ⟨(fun l h => by cases h; exact xd_222), List.forall_mem_cons.mpr ⟨(fun l h => by cases h; exact xd_223), fun _ h => absurd h List.not_mem_nil⟩⟩⟩⟩⟩⟩⟩⟩⟩⟩⟩⟩⟩⟩⟩⟩
def xDs_l224 : List (Nat) := [224, 225, 226, 227, 228, 229, 230, 231, 232, 233, 234, 235, 236, 237, 238, 239]
theorem xDs_b224 : ∀ q ∈ xDs_l224, xDok q := List.forall_mem_cons.mpr ⟨(fun l h => by cases h; exact xd_224), List.forall_mem_cons.mpr ⟨(fun l h => by cases h; exact xd_225), List.forall_mem_cons.mpr ⟨(fun l h => by cases h; exact xd_226), List.forall_mem_cons.mpr ⟨(fun l h => by cases h; exact xd_227), List.forall_mem_cons.mpr ⟨(fun l h => by cases h; exact xd_228), List.forall_mem_cons.mpr ⟨(fun l h => by cases h; exact xd_229), List.forall_mem_cons.mpr ⟨(fun l h => by cases h; exact xd_230), List.forall_mem_cons.mpr ⟨(fun l h => by cases h; exact xd_231), List.forall_mem_cons.mpr ⟨(fun l h => by cases h; exact xd_232), List.forall_mem_cons.mpr ⟨(fun l h => by cases h; exact xd_233), List.forall_mem_cons.mpr ⟨(fun l h => by cases h; exact xd_234), List.forall_mem_cons.mpr ⟨(fun l h => by cases h; exact xd_235), List.forall_mem_cons.mpr ⟨(fun l h => by cases h; exact xd_236), List.forall_mem_cons.mpr ⟨(fun l h => by cases h; exact xd_237), List.forall_mem_cons.mpr ⟨(fun l h => by cases h; exact xd_238), List.forall_mem_cons.mpr ⟨(fun l h => by cases h; exact xd_239), fun _ h => absurd h List.not_mem_nil⟩⟩⟩⟩⟩⟩⟩⟩⟩⟩⟩⟩⟩⟩⟩⟩
def xDs_l240 : List (Nat) := [240, 241, 242, 243, 244, 245, 246, 247, 248, 249, 250, 251, 252, 253, 254, 255]
theorem xDs_b240 : ∀ q ∈ xDs_l240, xDok q := List.forall_mem_cons.mpr ⟨(fun l h => by cases h; exact xd_240), List.forall_mem_cons.mpr ⟨(fun l h => by cases h; exact xd_241), List.forall_mem_cons.mpr ⟨(fun l h => by cases h; exact xd_242), List.forall_mem_cons.mpr ⟨(fun l h => by cases h; exact xd_243), List.forall_mem_cons.mpr ⟨(fun l h => by cases h; exact xd_244), List.forall_mem_cons.mpr ⟨(fun l h => by cases h; exact xd_245), List.forall_mem_cons.mpr ⟨(fun l h => by cases h; exact xd_246), List.forall_mem_cons.mpr ⟨(fun l h => by cases h; exact xd_247), List.forall_mem_cons.mpr ⟨(fun l h => by cases h; exact xd_248), List.forall_mem_cons.mpr ⟨(fun l h => by cases h; exact xd_249), List.forall_mem_cons.mpr ⟨(fun l h => by cases h; exact xd_250), List.forall_mem_cons.mpr ⟨(fun l h => by cases h; exact xd_251), List.forall_mem_cons.mpr ⟨(fun l h => by cases h; exact xd_252), List.forall_mem_cons.mpr ⟨(fun l h => by cases h; exact xd_253), List.forall_mem_cons.mpr ⟨(fun l h => by cases h; exact xd_254), List.forall_mem_cons.mpr ⟨(fun l h => by cases h; exact xd_255), fun _ h => absurd h List.not_mem_nil⟩⟩⟩⟩⟩⟩⟩⟩⟩⟩⟩⟩⟩⟩⟩⟩
def xDs_l256 : List (Nat) := [256, 257, 258, 259, 260, 261]
theorem xDs_b256 : ∀ q ∈ xDs_l256, xDok q := List.forall_mem_cons.mpr ⟨(fun l h => by cases h; exact xd_256), List.forall_mem_cons.mpr ⟨(fun l h => by cases h; exact xd_257), List.forall_mem_cons.mpr ⟨(fun l h => by cases h; exact xd_258), List.forall_mem_cons.mpr ⟨(fun l h => by cases h; exact xd_259), List.forall_mem_cons.mpr ⟨(fun l h => by cases h; exact xd_260), List.forall_mem_cons.mpr ⟨(fun l h => by cases h; exact xd_261), fun _ h => absurd h List.not_mem_nil⟩⟩⟩⟩⟩⟩
def xDs_l : List (Nat) := xDs_l0 ++ (xDs_l16 ++ (xDs_l32 ++ (xDs_l48 ++ (xDs_l64 ++ (xDs_l80 ++ (xDs_l96 ++ (xDs_l112 ++ (xDs_l128 ++ (xDs_l144 ++ (xDs_l160 ++ (xDs_l176 ++ (xDs_l192 ++ (xDs_l208 ++ (xDs_l224 ++ (xDs_l240 ++ (xDs_l256))))))))))))))))
theorem xDs_all : ∀ q ∈ xDs_l, xDok q := List.forall_mem_append.mpr ⟨xDs_b0, List.forall_mem_append.mpr ⟨xDs_b16, List.forall_mem_append.mpr ⟨xDs_b32, List.forall_mem_append.mpr ⟨xDs_b48, List.forall_mem_append.mpr ⟨xDs_b64, List.forall_mem_append.mpr ⟨xDs_b80, List.forall_mem_append.mpr ⟨xDs_b96, List.forall_mem_append.mpr ⟨xDs_b112, List.forall_mem_append.mpr ⟨xDs_b128, List.forall_mem_append.mpr ⟨xDs_b144, List.forall_mem_append.mpr ⟨xDs_b160, List.forall_mem_append.mpr ⟨xDs_b176, List.forall_mem_append.mpr ⟨xDs_b192, List.forall_mem_append.mpr ⟨xDs_b208, List.forall_mem_append.mpr ⟨xDs_b224, List.forall_mem_append.mpr ⟨xDs_b240, xDs_b256⟩⟩⟩⟩⟩⟩⟩⟩⟩⟩⟩⟩⟩⟩⟩⟩
theorem xDs_range : xDs_l = List.range 262 := by decide +kernel
theorem xdec {mi pc : Nat} {op : Instr} (h : xfetch mi pc = some op) : ∃ len, decode (xby mi) pc = .ok (op, len) ∧ (len = xlen op ∨ xsw op = true) ∧ xjmp pc op = true := by
  unfold xfetch at h
  cases hl : xcode[mi]? with
  | none => rw [hl] at h; cases h
  | some l =>
    rw [hl] at h
    have hlt : mi < xcode.length := (List.getElem?_eq_some_iff.mp hl).1
    have hlen : xcode.length = 262 := by decide +kernel
    have hm : mi ∈ xDs_l := by rw [xDs_range]; exact List.mem_range.mpr (by omega)
    have h1 := List.all_eq_true.mp (xDs_all mi hm l hl) _ (xfind_mem h)
    unfold xdchk at h1
    simp only at h1
    cases hd : decode (xby mi) pc with
    | error e => rw [hd] at h1; cases h1
    | ok q =>
      obtain ⟨o, len⟩ := q
      rw [hd] at h1
      simp only [Bool.and_eq_true, Bool.or_eq_true, decide_eq_true_eq] at h1
      obtain ⟨⟨rfl, h2⟩, h3⟩ := h1
      exact ⟨len, rfl, h2, h3⟩
def xRk : Nat → Option FieldType → Prop
  | 0, r => r = none
  | 1, r => r = some .int
  | 2, r => r = some .boolean
  | 3, r => r = some .long
  | 4, r => r = some .double
  | _, _ => False
def xMok (mi : Nat) : Prop := (xG (xcw mi) ∧ xG (.initialized (xy mi).cls)) ∧ ((xy mi).cls ≠ "java/lang/invoke/MethodHandle" ∧ (xy mi).cls ≠ "java/lang/invoke/VarHandle" ∧ (parseMethodDescriptor (xy mi).desc).map (fun d => d.parameters.length) = some (xnp mi) ∧ plainName (xy mi).cls = true ∧ (xy mi).cls = xRn (xown mi)) ∧ xRk (xrk mi) (xre mi) ∧ ((xsk mi = 0 ∧ xG (.instanceMethod (xy mi)) ∧ xG (.selects (xy mi).cls (xy mi) (xy mi))) ∨ (xsk mi = 1 ∧ xG (.static (xy mi))) ∨ (xsk mi = 2 ∧ xG (.instanceMethod (xy mi)) ∧ (xy mi).name = "<init>" ∧ xre mi = none))
theorem xm_0 : xMok 0 := ⟨⟨xg1 198 (by decide +kernel) rfl, xg1 8 (by decide +kernel) rfl⟩, ⟨by decide +kernel, by decide +kernel, by decide +kernel, by decide +kernel, by decide +kernel⟩, by show xre 0 = _; decide +kernel, Or.inr (Or.inr ⟨rfl, xg1 197 (by decide +kernel) rfl, by decide +kernel, by decide +kernel⟩)⟩
theorem xm_1 : xMok 1 := ⟨⟨xg3 209 (by decide +kernel) rfl, xg1 8 (by decide +kernel) rfl⟩, ⟨by decide +kernel, by decide +kernel, by decide +kernel, by decide +kernel, by decide +kernel⟩, by show xre 1 = _; decide +kernel, Or.inl ⟨rfl, xg3 208 (by decide +kernel) rfl, xg 13 (by decide +kernel) rfl⟩⟩
theorem xm_2 : xMok 2 := ⟨⟨xg3 213 (by decide +kernel) rfl, xg1 8 (by decide +kernel) rfl⟩, ⟨by decide +kernel, by decide +kernel, by decide +kernel, by decide +kernel, by decide +kernel⟩, by show xre 2 = _; decide +kernel, Or.inl ⟨rfl, xg3 212 (by decide +kernel) rfl, xg 14 (by decide +kernel) rfl⟩⟩
theorem xm_3 : xMok 3 := ⟨⟨xg4 6 (by decide +kernel) rfl, xg1 8 (by decide +kernel) rfl⟩, ⟨by decide +kernel, by decide +kernel, by decide +kernel, by decide +kernel, by decide +kernel⟩, by show xre 3 = _; decide +kernel, Or.inl ⟨rfl, xg4 5 (by decide +kernel) rfl, xg 15 (by decide +kernel) rfl⟩⟩
theorem xm_4 : xMok 4 := ⟨⟨xg4 35 (by decide +kernel) rfl, xg1 8 (by decide +kernel) rfl⟩, ⟨by decide +kernel, by decide +kernel, by decide +kernel, by decide +kernel, by decide +kernel⟩, by show xre 4 = _; decide +kernel, Or.inl ⟨rfl, xg4 34 (by decide +kernel) rfl, xg 16 (by decide +kernel) rfl⟩⟩
theorem xm_5 : xMok 5 := ⟨⟨xg4 47 (by decide +kernel) rfl, xg1 8 (by decide +kernel) rfl⟩, ⟨by decide +kernel, by decide +kernel, by decide +kernel, by decide +kernel, by decide +kernel⟩, by show xre 5 = _; decide +kernel, Or.inl ⟨rfl, xg4 46 (by decide +kernel) rfl, xg 17 (by decide +kernel) rfl⟩⟩
theorem xm_6 : xMok 6 := ⟨⟨xg4 55 (by decide +kernel) rfl, xg1 8 (by decide +kernel) rfl⟩, ⟨by decide +kernel, by decide +kernel, by decide +kernel, by decide +kernel, by decide +kernel⟩, by show xre 6 = _; decide +kernel, Or.inl ⟨rfl, xg4 54 (by decide +kernel) rfl, xg 18 (by decide +kernel) rfl⟩⟩
theorem xm_7 : xMok 7 := ⟨⟨xg4 63 (by decide +kernel) rfl, xg1 8 (by decide +kernel) rfl⟩, ⟨by decide +kernel, by decide +kernel, by decide +kernel, by decide +kernel, by decide +kernel⟩, by show xre 7 = _; decide +kernel, Or.inl ⟨rfl, xg4 62 (by decide +kernel) rfl, xg 19 (by decide +kernel) rfl⟩⟩
theorem xm_8 : xMok 8 := ⟨⟨xg1 214 (by decide +kernel) rfl, xg1 9 (by decide +kernel) rfl⟩, ⟨by decide +kernel, by decide +kernel, by decide +kernel, by decide +kernel, by decide +kernel⟩, by show xre 8 = _; decide +kernel, Or.inr (Or.inr ⟨rfl, xg1 213 (by decide +kernel) rfl, by decide +kernel, by decide +kernel⟩)⟩
theorem xm_9 : xMok 9 := ⟨⟨xg4 135 (by decide +kernel) rfl, xg1 9 (by decide +kernel) rfl⟩, ⟨by decide +kernel, by decide +kernel, by decide +kernel, by decide +kernel, by decide +kernel⟩, by show xre 9 = _; decide +kernel, Or.inl ⟨rfl, xg4 133 (by decide +kernel) rfl, xg4 134 (by decide +kernel) rfl⟩⟩
theorem xm_10 : xMok 10 := ⟨⟨xg4 142 (by decide +kernel) rfl, xg1 9 (by decide +kernel) rfl⟩, ⟨by decide +kernel, by decide +kernel, by decide +kernel, by decide +kernel, by decide +kernel⟩, by show xre 10 = _; decide +kernel, Or.inl ⟨rfl, xg4 141 (by decide +kernel) rfl, xg 21 (by decide +kernel) rfl⟩⟩
theorem xm_11 : xMok 11 := ⟨⟨xg4 147 (by decide +kernel) rfl, xg1 9 (by decide +kernel) rfl⟩, ⟨by decide +kernel, by decide +kernel, by decide +kernel, by decide +kernel, by decide +kernel⟩, by show xre 11 = _; decide +kernel, Or.inl ⟨rfl, xg4 146 (by decide +kernel) rfl, xg 22 (by decide +kernel) rfl⟩⟩
theorem xm_12 : xMok 12 := ⟨⟨xg4 152 (by decide +kernel) rfl, xg1 9 (by decide +kernel) rfl⟩, ⟨by decide +kernel, by decide +kernel, by decide +kernel, by decide +kernel, by decide +kernel⟩, by show xre 12 = _; decide +kernel, Or.inl ⟨rfl, xg4 151 (by decide +kernel) rfl, xg 23 (by decide +kernel) rfl⟩⟩
theorem xm_13 : xMok 13 := ⟨⟨xg4 156 (by decide +kernel) rfl, xg1 9 (by decide +kernel) rfl⟩, ⟨by decide +kernel, by decide +kernel, by decide +kernel, by decide +kernel, by decide +kernel⟩, by show xre 13 = _; decide +kernel, Or.inl ⟨rfl, xg4 155 (by decide +kernel) rfl, xg 24 (by decide +kernel) rfl⟩⟩
theorem xm_14 : xMok 14 := ⟨⟨xg4 162 (by decide +kernel) rfl, xg1 9 (by decide +kernel) rfl⟩, ⟨by decide +kernel, by decide +kernel, by decide +kernel, by decide +kernel, by decide +kernel⟩, by show xre 14 = _; decide +kernel, Or.inl ⟨rfl, xg4 161 (by decide +kernel) rfl, xg 25 (by decide +kernel) rfl⟩⟩
theorem xm_15 : xMok 15 := ⟨⟨xg4 170 (by decide +kernel) rfl, xg1 9 (by decide +kernel) rfl⟩, ⟨by decide +kernel, by decide +kernel, by decide +kernel, by decide +kernel, by decide +kernel⟩, by show xre 15 = _; decide +kernel, Or.inl ⟨rfl, xg4 169 (by decide +kernel) rfl, xg 26 (by decide +kernel) rfl⟩⟩
theorem xm_16 : xMok 16 := ⟨⟨xg4 177 (by decide +kernel) rfl, xg1 9 (by decide +kernel) rfl⟩, ⟨by decide +kernel, by decide +kernel, by decide +kernel, by decide +kernel, by decide +kernel⟩, by show xre 16 = _; decide +kernel, Or.inl ⟨rfl, xg4 176 (by decide +kernel) rfl, xg 27 (by decide +kernel) rfl⟩⟩
theorem xm_17 : xMok 17 := ⟨⟨xg4 182 (by decide +kernel) rfl, xg1 9 (by decide +kernel) rfl⟩, ⟨by decide +kernel, by decide +kernel, by decide +kernel, by decide +kernel, by decide +kernel⟩, by show xre 17 = _; decide +kernel, Or.inl ⟨rfl, xg4 181 (by decide +kernel) rfl, xg 28 (by decide +kernel) rfl⟩⟩
theorem xm_18 : xMok 18 := ⟨⟨xg4 186 (by decide +kernel) rfl, xg1 9 (by decide +kernel) rfl⟩, ⟨by decide +kernel, by decide +kernel, by decide +kernel, by decide +kernel, by decide +kernel⟩, by show xre 18 = _; decide +kernel, Or.inl ⟨rfl, xg4 185 (by decide +kernel) rfl, xg 29 (by decide +kernel) rfl⟩⟩
theorem xm_19 : xMok 19 := ⟨⟨xg4 190 (by decide +kernel) rfl, xg1 9 (by decide +kernel) rfl⟩, ⟨by decide +kernel, by decide +kernel, by decide +kernel, by decide +kernel, by decide +kernel⟩, by show xre 19 = _; decide +kernel, Or.inl ⟨rfl, xg4 189 (by decide +kernel) rfl, xg 30 (by decide +kernel) rfl⟩⟩
theorem xm_20 : xMok 20 := ⟨⟨xg4 195 (by decide +kernel) rfl, xg1 9 (by decide +kernel) rfl⟩, ⟨by decide +kernel, by decide +kernel, by decide +kernel, by decide +kernel, by decide +kernel⟩, by show xre 20 = _; decide +kernel, Or.inl ⟨rfl, xg4 194 (by decide +kernel) rfl, xg 31 (by decide +kernel) rfl⟩⟩
theorem xm_21 : xMok 21 := ⟨⟨xg2 52 (by decide +kernel) rfl, xg1 11 (by decide +kernel) rfl⟩, ⟨by decide +kernel, by decide +kernel, by decide +kernel, by decide +kernel, by decide +kernel⟩, by show xre 21 = _; decide +kernel, Or.inr (Or.inr ⟨rfl, xg2 51 (by decide +kernel) rfl, by decide +kernel, by decide +kernel⟩)⟩
theorem xm_22 : xMok 22 := ⟨⟨xg3 5 (by decide +kernel) rfl, xg1 11 (by decide +kernel) rfl⟩, ⟨by decide +kernel, by decide +kernel, by decide +kernel, by decide +kernel, by decide +kernel⟩, by show xre 22 = _; decide +kernel, Or.inl ⟨rfl, xg3 3 (by decide +kernel) rfl, xg3 4 (by decide +kernel) rfl⟩⟩
theorem xm_23 : xMok 23 := ⟨⟨xg5 30 (by decide +kernel) rfl, xg1 11 (by decide +kernel) rfl⟩, ⟨by decide +kernel, by decide +kernel, by decide +kernel, by decide +kernel, by decide +kernel⟩, by show xre 23 = _; decide +kernel, Or.inl ⟨rfl, xg5 28 (by decide +kernel) rfl, xg5 29 (by decide +kernel) rfl⟩⟩
theorem xm_24 : xMok 24 := ⟨⟨xg5 34 (by decide +kernel) rfl, xg1 11 (by decide +kernel) rfl⟩, ⟨by decide +kernel, by decide +kernel, by decide +kernel, by decide +kernel, by decide +kernel⟩, by show xre 24 = _; decide +kernel, Or.inl ⟨rfl, xg5 33 (by decide +kernel) rfl, xg 32 (by decide +kernel) rfl⟩⟩
theorem xm_25 : xMok 25 := ⟨⟨xg5 176 (by decide +kernel) rfl, xg1 11 (by decide +kernel) rfl⟩, ⟨by decide +kernel, by decide +kernel, by decide +kernel, by decide +kernel, by decide +kernel⟩, by show xre 25 = _; decide +kernel, Or.inl ⟨rfl, xg5 174 (by decide +kernel) rfl, xg5 175 (by decide +kernel) rfl⟩⟩
theorem xm_26 : xMok 26 := ⟨⟨xg1 113 (by decide +kernel) rfl, xg1 6 (by decide +kernel) rfl⟩, ⟨by decide +kernel, by decide +kernel, by decide +kernel, by decide +kernel, by decide +kernel⟩, by show xre 26 = _; decide +kernel, Or.inr (Or.inr ⟨rfl, xg1 112 (by decide +kernel) rfl, by decide +kernel, by decide +kernel⟩)⟩
theorem xm_27 : xMok 27 := ⟨⟨xg2 231 (by decide +kernel) rfl, xg1 6 (by decide +kernel) rfl⟩, ⟨by decide +kernel, by decide +kernel, by decide +kernel, by decide +kernel, by decide +kernel⟩, by show xre 27 = _; decide +kernel, Or.inl ⟨rfl, xg2 229 (by decide +kernel) rfl, xg2 230 (by decide +kernel) rfl⟩⟩
theorem xm_28 : xMok 28 := ⟨⟨xg2 236 (by decide +kernel) rfl, xg1 6 (by decide +kernel) rfl⟩, ⟨by decide +kernel, by decide +kernel, by decide +kernel, by decide +kernel, by decide +kernel⟩, by show xre 28 = _; decide +kernel, Or.inl ⟨rfl, xg2 234 (by decide +kernel) rfl, xg2 235 (by decide +kernel) rfl⟩⟩
theorem xm_29 : xMok 29 := ⟨⟨xg3 180 (by decide +kernel) rfl, xg1 6 (by decide +kernel) rfl⟩, ⟨by decide +kernel, by decide +kernel, by decide +kernel, by decide +kernel, by decide +kernel⟩, by show xre 29 = _; decide +kernel, Or.inl ⟨rfl, xg3 178 (by decide +kernel) rfl, xg3 179 (by decide +kernel) rfl⟩⟩
theorem xm_30 : xMok 30 := ⟨⟨xg4 16 (by decide +kernel) rfl, xg1 6 (by decide +kernel) rfl⟩, ⟨by decide +kernel, by decide +kernel, by decide +kernel, by decide +kernel, by decide +kernel⟩, by show xre 30 = _; decide +kernel, Or.inl ⟨rfl, xg4 14 (by decide +kernel) rfl, xg4 15 (by decide +kernel) rfl⟩⟩
theorem xm_31 : xMok 31 := ⟨⟨xg4 22 (by decide +kernel) rfl, xg1 6 (by decide +kernel) rfl⟩, ⟨by decide +kernel, by decide +kernel, by decide +kernel, by decide +kernel, by decide +kernel⟩, by show xre 31 = _; decide +kernel, Or.inl ⟨rfl, xg4 20 (by decide +kernel) rfl, xg4 21 (by decide +kernel) rfl⟩⟩
theorem xm_32 : xMok 32 := ⟨⟨xg1 107 (by decide +kernel) rfl, xg1 5 (by decide +kernel) rfl⟩, ⟨by decide +kernel, by decide +kernel, by decide +kernel, by decide +kernel, by decide +kernel⟩, by show xre 32 = _; decide +kernel, Or.inr (Or.inr ⟨rfl, xg1 106 (by decide +kernel) rfl, by decide +kernel, by decide +kernel⟩)⟩
theorem xm_33 : xMok 33 := ⟨⟨xg3 176 (by decide +kernel) rfl, xg1 5 (by decide +kernel) rfl⟩, ⟨by decide +kernel, by decide +kernel, by decide +kernel, by decide +kernel, by decide +kernel⟩, by show xre 33 = _; decide +kernel, Or.inl ⟨rfl, xg3 174 (by decide +kernel) rfl, xg3 175 (by decide +kernel) rfl⟩⟩
theorem xm_34 : xMok 34 := ⟨⟨xg3 217 (by decide +kernel) rfl, xg1 5 (by decide +kernel) rfl⟩, ⟨by decide +kernel, by decide +kernel, by decide +kernel, by decide +kernel, by decide +kernel⟩, by show xre 34 = _; decide +kernel, Or.inl ⟨rfl, xg3 215 (by decide +kernel) rfl, xg3 216 (by decide +kernel) rfl⟩⟩
theorem xm_35 : xMok 35 := ⟨⟨xg3 229 (by decide +kernel) rfl, xg1 5 (by decide +kernel) rfl⟩, ⟨by decide +kernel, by decide +kernel, by decide +kernel, by decide +kernel, by decide +kernel⟩, by show xre 35 = _; decide +kernel, Or.inl ⟨rfl, xg3 227 (by decide +kernel) rfl, xg3 228 (by decide +kernel) rfl⟩⟩
theorem xm_36 : xMok 36 := ⟨⟨xg4 1 (by decide +kernel) rfl, xg1 5 (by decide +kernel) rfl⟩, ⟨by decide +kernel, by decide +kernel, by decide +kernel, by decide +kernel, by decide +kernel⟩, by show xre 36 = _; decide +kernel, Or.inl ⟨rfl, xg3 239 (by decide +kernel) rfl, xg4 0 (by decide +kernel) rfl⟩⟩
theorem xm_37 : xMok 37 := ⟨⟨xg4 59 (by decide +kernel) rfl, xg1 5 (by decide +kernel) rfl⟩, ⟨by decide +kernel, by decide +kernel, by decide +kernel, by decide +kernel, by decide +kernel⟩, by show xre 37 = _; decide +kernel, Or.inl ⟨rfl, xg4 57 (by decide +kernel) rfl, xg4 58 (by decide +kernel) rfl⟩⟩
theorem xm_38 : xMok 38 := ⟨⟨xg4 67 (by decide +kernel) rfl, xg1 5 (by decide +kernel) rfl⟩, ⟨by decide +kernel, by decide +kernel, by decide +kernel, by decide +kernel, by decide +kernel⟩, by show xre 38 = _; decide +kernel, Or.inl ⟨rfl, xg4 65 (by decide +kernel) rfl, xg4 66 (by decide +kernel) rfl⟩⟩
theorem xm_39 : xMok 39 := ⟨⟨xg4 72 (by decide +kernel) rfl, xg1 5 (by decide +kernel) rfl⟩, ⟨by decide +kernel, by decide +kernel, by decide +kernel, by decide +kernel, by decide +kernel⟩, by show xre 39 = _; decide +kernel, Or.inl ⟨rfl, xg4 70 (by decide +kernel) rfl, xg4 71 (by decide +kernel) rfl⟩⟩
theorem xm_40 : xMok 40 := ⟨⟨xg1 161 (by decide +kernel) rfl, xg1 7 (by decide +kernel) rfl⟩, ⟨by decide +kernel, by decide +kernel, by decide +kernel, by decide +kernel, by decide +kernel⟩, by show xre 40 = _; decide +kernel, Or.inr (Or.inr ⟨rfl, xg1 160 (by decide +kernel) rfl, by decide +kernel, by decide +kernel⟩)⟩
theorem xm_41 : xMok 41 := ⟨⟨xg3 184 (by decide +kernel) rfl, xg1 7 (by decide +kernel) rfl⟩, ⟨by decide +kernel, by decide +kernel, by decide +kernel, by decide +kernel, by decide +kernel⟩, by show xre 41 = _; decide +kernel, Or.inl ⟨rfl, xg3 182 (by decide +kernel) rfl, xg3 183 (by decide +kernel) rfl⟩⟩
theorem xm_42 : xMok 42 := ⟨⟨xg3 188 (by decide +kernel) rfl, xg1 7 (by decide +kernel) rfl⟩, ⟨by decide +kernel, by decide +kernel, by decide +kernel, by decide +kernel, by decide +kernel⟩, by show xre 42 = _; decide +kernel, Or.inl ⟨rfl, xg3 186 (by decide +kernel) rfl, xg3 187 (by decide +kernel) rfl⟩⟩
theorem xm_43 : xMok 43 := ⟨⟨xg3 192 (by decide +kernel) rfl, xg1 7 (by decide +kernel) rfl⟩, ⟨by decide +kernel, by decide +kernel, by decide +kernel, by decide +kernel, by decide +kernel⟩, by show xre 43 = _; decide +kernel, Or.inl ⟨rfl, xg3 191 (by decide +kernel) rfl, xg 12 (by decide +kernel) rfl⟩⟩
theorem xm_44 : xMok 44 := ⟨⟨xg3 200 (by decide +kernel) rfl, xg1 7 (by decide +kernel) rfl⟩, ⟨by decide +kernel, by decide +kernel, by decide +kernel, by decide +kernel, by decide +kernel⟩, by show xre 44 = _; decide +kernel, Or.inl ⟨rfl, xg3 198 (by decide +kernel) rfl, xg3 199 (by decide +kernel) rfl⟩⟩
theorem xm_45 : xMok 45 := ⟨⟨xg3 233 (by decide +kernel) rfl, xg1 7 (by decide +kernel) rfl⟩, ⟨by decide +kernel, by decide +kernel, by decide +kernel, by decide +kernel, by decide +kernel⟩, by show xre 45 = _; decide +kernel, Or.inl ⟨rfl, xg3 231 (by decide +kernel) rfl, xg3 232 (by decide +kernel) rfl⟩⟩
theorem xm_46 : xMok 46 := ⟨⟨xg4 30 (by decide +kernel) rfl, xg1 7 (by decide +kernel) rfl⟩, ⟨by decide +kernel, by decide +kernel, by decide +kernel, by decide +kernel, by decide +kernel⟩, by show xre 46 = _; decide +kernel, Or.inl ⟨rfl, xg4 28 (by decide +kernel) rfl, xg4 29 (by decide +kernel) rfl⟩⟩
theorem xm_47 : xMok 47 := ⟨⟨xg4 40 (by decide +kernel) rfl, xg1 7 (by decide +kernel) rfl⟩, ⟨by decide +kernel, by decide +kernel, by decide +kernel, by decide +kernel, by decide +kernel⟩, by show xre 47 = _; decide +kernel, Or.inl ⟨rfl, xg4 38 (by decide +kernel) rfl, xg4 39 (by decide +kernel) rfl⟩⟩
theorem xm_48 : xMok 48 := ⟨⟨xg2 21 (by decide +kernel) rfl, xg1 10 (by decide +kernel) rfl⟩, ⟨by decide +kernel, by decide +kernel, by decide +kernel, by decide +kernel, by decide +kernel⟩, by show xre 48 = _; decide +kernel, Or.inr (Or.inr ⟨rfl, xg2 20 (by decide +kernel) rfl, by decide +kernel, by decide +kernel⟩)⟩
theorem xm_49 : xMok 49 := ⟨⟨xg2 214 (by decide +kernel) rfl, xg1 10 (by decide +kernel) rfl⟩, ⟨by decide +kernel, by decide +kernel, by decide +kernel, by decide +kernel, by decide +kernel⟩, by show xre 49 = _; decide +kernel, Or.inl ⟨rfl, xg2 212 (by decide +kernel) rfl, xg2 213 (by decide +kernel) rfl⟩⟩
theorem xm_50 : xMok 50 := ⟨⟨xg5 129 (by decide +kernel) rfl, xg1 10 (by decide +kernel) rfl⟩, ⟨by decide +kernel, by decide +kernel, by decide +kernel, by decide +kernel, by decide +kernel⟩, by show xre 50 = _; decide +kernel, Or.inl ⟨rfl, xg5 127 (by decide +kernel) rfl, xg5 128 (by decide +kernel) rfl⟩⟩
theorem xm_51 : xMok 51 := ⟨⟨xg1 56 (by decide +kernel) rfl, xg1 4 (by decide +kernel) rfl⟩, ⟨by decide +kernel, by decide +kernel, by decide +kernel, by decide +kernel, by decide +kernel⟩, by show xre 51 = _; decide +kernel, Or.inr (Or.inr ⟨rfl, xg1 55 (by decide +kernel) rfl, by decide +kernel, by decide +kernel⟩)⟩
theorem xm_52 : xMok 52 := ⟨⟨xg2 114 (by decide +kernel) rfl, xg1 4 (by decide +kernel) rfl⟩, ⟨by decide +kernel, by decide +kernel, by decide +kernel, by decide +kernel, by decide +kernel⟩, by show xre 52 = _; decide +kernel, Or.inl ⟨rfl, xg2 112 (by decide +kernel) rfl, xg2 113 (by decide +kernel) rfl⟩⟩
theorem xm_53 : xMok 53 := ⟨⟨xg2 123 (by decide +kernel) rfl, xg1 4 (by decide +kernel) rfl⟩, ⟨by decide +kernel, by decide +kernel, by decide +kernel, by decide +kernel, by decide +kernel⟩, by show xre 53 = _; decide +kernel, Or.inl ⟨rfl, xg2 122 (by decide +kernel) rfl, xg 0 (by decide +kernel) rfl⟩⟩
theorem xm_54 : xMok 54 := ⟨⟨xg2 127 (by decide +kernel) rfl, xg1 4 (by decide +kernel) rfl⟩, ⟨by decide +kernel, by decide +kernel, by decide +kernel, by decide +kernel, by decide +kernel⟩, by show xre 54 = _; decide +kernel, Or.inl ⟨rfl, xg2 126 (by decide +kernel) rfl, xg 1 (by decide +kernel) rfl⟩⟩
theorem xm_55 : xMok 55 := ⟨⟨xg2 130 (by decide +kernel) rfl, xg1 4 (by decide +kernel) rfl⟩, ⟨by decide +kernel, by decide +kernel, by decide +kernel, by decide +kernel, by decide +kernel⟩, by show xre 55 = _; decide +kernel, Or.inr (Or.inl ⟨rfl, xg2 129 (by decide +kernel) rfl⟩)⟩
theorem xm_56 : xMok 56 := ⟨⟨xg2 137 (by decide +kernel) rfl, xg1 4 (by decide +kernel) rfl⟩, ⟨by decide +kernel, by decide +kernel, by decide +kernel, by decide +kernel, by decide +kernel⟩, by show xre 56 = _; decide +kernel, Or.inl ⟨rfl, xg2 136 (by decide +kernel) rfl, xg 2 (by decide +kernel) rfl⟩⟩
theorem xm_57 : xMok 57 := ⟨⟨xg2 141 (by decide +kernel) rfl, xg1 4 (by decide +kernel) rfl⟩, ⟨by decide +kernel, by decide +kernel, by decide +kernel, by decide +kernel, by decide +kernel⟩, by show xre 57 = _; decide +kernel, Or.inl ⟨rfl, xg2 140 (by decide +kernel) rfl, xg 3 (by decide +kernel) rfl⟩⟩
theorem xm_58 : xMok 58 := ⟨⟨xg2 145 (by decide +kernel) rfl, xg1 4 (by decide +kernel) rfl⟩, ⟨by decide +kernel, by decide +kernel, by decide +kernel, by decide +kernel, by decide +kernel⟩, by show xre 58 = _; decide +kernel, Or.inl ⟨rfl, xg2 144 (by decide +kernel) rfl, xg 4 (by decide +kernel) rfl⟩⟩
theorem xm_59 : xMok 59 := ⟨⟨xg2 149 (by decide +kernel) rfl, xg1 4 (by decide +kernel) rfl⟩, ⟨by decide +kernel, by decide +kernel, by decide +kernel, by decide +kernel, by decide +kernel⟩, by show xre 59 = _; decide +kernel, Or.inl ⟨rfl, xg2 148 (by decide +kernel) rfl, xg 5 (by decide +kernel) rfl⟩⟩
theorem xm_60 : xMok 60 := ⟨⟨xg2 153 (by decide +kernel) rfl, xg1 4 (by decide +kernel) rfl⟩, ⟨by decide +kernel, by decide +kernel, by decide +kernel, by decide +kernel, by decide +kernel⟩, by show xre 60 = _; decide +kernel, Or.inl ⟨rfl, xg2 152 (by decide +kernel) rfl, xg 6 (by decide +kernel) rfl⟩⟩
theorem xm_61 : xMok 61 := ⟨⟨xg2 158 (by decide +kernel) rfl, xg1 4 (by decide +kernel) rfl⟩, ⟨by decide +kernel, by decide +kernel, by decide +kernel, by decide +kernel, by decide +kernel⟩, by show xre 61 = _; decide +kernel, Or.inl ⟨rfl, xg2 156 (by decide +kernel) rfl, xg2 157 (by decide +kernel) rfl⟩⟩
theorem xm_62 : xMok 62 := ⟨⟨xg2 166 (by decide +kernel) rfl, xg1 4 (by decide +kernel) rfl⟩, ⟨by decide +kernel, by decide +kernel, by decide +kernel, by decide +kernel, by decide +kernel⟩, by show xre 62 = _; decide +kernel, Or.inl ⟨rfl, xg2 164 (by decide +kernel) rfl, xg2 165 (by decide +kernel) rfl⟩⟩
theorem xm_63 : xMok 63 := ⟨⟨xg3 205 (by decide +kernel) rfl, xg1 4 (by decide +kernel) rfl⟩, ⟨by decide +kernel, by decide +kernel, by decide +kernel, by decide +kernel, by decide +kernel⟩, by show xre 63 = _; decide +kernel, Or.inl ⟨rfl, xg3 203 (by decide +kernel) rfl, xg3 204 (by decide +kernel) rfl⟩⟩
theorem xm_64 : xMok 64 := ⟨⟨xg3 221 (by decide +kernel) rfl, xg1 4 (by decide +kernel) rfl⟩, ⟨by decide +kernel, by decide +kernel, by decide +kernel, by decide +kernel, by decide +kernel⟩, by show xre 64 = _; decide +kernel, Or.inl ⟨rfl, xg3 219 (by decide +kernel) rfl, xg3 220 (by decide +kernel) rfl⟩⟩
theorem xm_65 : xMok 65 := ⟨⟨xg3 225 (by decide +kernel) rfl, xg1 4 (by decide +kernel) rfl⟩, ⟨by decide +kernel, by decide +kernel, by decide +kernel, by decide +kernel, by decide +kernel⟩, by show xre 65 = _; decide +kernel, Or.inl ⟨rfl, xg3 223 (by decide +kernel) rfl, xg3 224 (by decide +kernel) rfl⟩⟩
theorem xm_66 : xMok 66 := ⟨⟨xg4 12 (by decide +kernel) rfl, xg1 4 (by decide +kernel) rfl⟩, ⟨by decide +kernel, by decide +kernel, by decide +kernel, by decide +kernel, by decide +kernel⟩, by show xre 66 = _; decide +kernel, Or.inl ⟨rfl, xg4 10 (by decide +kernel) rfl, xg4 11 (by decide +kernel) rfl⟩⟩
theorem xm_67 : xMok 67 := ⟨⟨xg4 51 (by decide +kernel) rfl, xg1 4 (by decide +kernel) rfl⟩, ⟨by decide +kernel, by decide +kernel, by decide +kernel, by decide +kernel, by decide +kernel⟩, by show xre 67 = _; decide +kernel, Or.inl ⟨rfl, xg4 49 (by decide +kernel) rfl, xg4 50 (by decide +kernel) rfl⟩⟩
theorem xm_68 : xMok 68 := ⟨⟨xg4 78 (by decide +kernel) rfl, xg1 4 (by decide +kernel) rfl⟩, ⟨by decide +kernel, by decide +kernel, by decide +kernel, by decide +kernel, by decide +kernel⟩, by show xre 68 = _; decide +kernel, Or.inl ⟨rfl, xg4 76 (by decide +kernel) rfl, xg4 77 (by decide +kernel) rfl⟩⟩
theorem xm_69 : xMok 69 := ⟨⟨xg4 97 (by decide +kernel) rfl, xg1 4 (by decide +kernel) rfl⟩, ⟨by decide +kernel, by decide +kernel, by decide +kernel, by decide +kernel, by decide +kernel⟩, by show xre 69 = _; decide +kernel, Or.inl ⟨rfl, xg4 95 (by decide +kernel) rfl, xg4 96 (by decide +kernel) rfl⟩⟩
theorem xm_70 : xMok 70 := ⟨⟨xg4 105 (by decide +kernel) rfl, xg1 4 (by decide +kernel) rfl⟩, ⟨by decide +kernel, by decide +kernel, by decide +kernel, by decide +kernel, by decide +kernel⟩, by show xre 70 = _; decide +kernel, Or.inl ⟨rfl, xg4 103 (by decide +kernel) rfl, xg4 104 (by decide +kernel) rfl⟩⟩
theorem xm_71 : xMok 71 := ⟨⟨xg4 115 (by decide +kernel) rfl, xg1 4 (by decide +kernel) rfl⟩, ⟨by decide +kernel, by decide +kernel, by decide +kernel, by decide +kernel, by decide +kernel⟩, by show xre 71 = _; decide +kernel, Or.inl ⟨rfl, xg4 113 (by decide +kernel) rfl, xg4 114 (by decide +kernel) rfl⟩⟩
theorem xm_72 : xMok 72 := ⟨⟨xg4 123 (by decide +kernel) rfl, xg1 4 (by decide +kernel) rfl⟩, ⟨by decide +kernel, by decide +kernel, by decide +kernel, by decide +kernel, by decide +kernel⟩, by show xre 72 = _; decide +kernel, Or.inl ⟨rfl, xg4 121 (by decide +kernel) rfl, xg4 122 (by decide +kernel) rfl⟩⟩
theorem xm_73 : xMok 73 := ⟨⟨xg1 31 (by decide +kernel) rfl, xg1 2 (by decide +kernel) rfl⟩, ⟨by decide +kernel, by decide +kernel, by decide +kernel, by decide +kernel, by decide +kernel⟩, by show xre 73 = _; decide +kernel, Or.inr (Or.inr ⟨rfl, xg1 30 (by decide +kernel) rfl, by decide +kernel, by decide +kernel⟩)⟩
theorem xm_74 : xMok 74 := ⟨⟨xg1 51 (by decide +kernel) rfl, xg1 2 (by decide +kernel) rfl⟩, ⟨by decide +kernel, by decide +kernel, by decide +kernel, by decide +kernel, by decide +kernel⟩, by show xre 74 = _; decide +kernel, Or.inl ⟨rfl, xg1 49 (by decide +kernel) rfl, xg1 50 (by decide +kernel) rfl⟩⟩
theorem xm_75 : xMok 75 := ⟨⟨xg2 102 (by decide +kernel) rfl, xg1 2 (by decide +kernel) rfl⟩, ⟨by decide +kernel, by decide +kernel, by decide +kernel, by decide +kernel, by decide +kernel⟩, by show xre 75 = _; decide +kernel, Or.inl ⟨rfl, xg2 100 (by decide +kernel) rfl, xg2 101 (by decide +kernel) rfl⟩⟩
theorem xm_76 : xMok 76 := ⟨⟨xg2 119 (by decide +kernel) rfl, xg1 2 (by decide +kernel) rfl⟩, ⟨by decide +kernel, by decide +kernel, by decide +kernel, by decide +kernel, by decide +kernel⟩, by show xre 76 = _; decide +kernel, Or.inl ⟨rfl, xg2 117 (by decide +kernel) rfl, xg2 118 (by decide +kernel) rfl⟩⟩
theorem xm_77 : xMok 77 := ⟨⟨xg2 218 (by decide +kernel) rfl, xg1 2 (by decide +kernel) rfl⟩, ⟨by decide +kernel, by decide +kernel, by decide +kernel, by decide +kernel, by decide +kernel⟩, by show xre 77 = _; decide +kernel, Or.inl ⟨rfl, xg2 216 (by decide +kernel) rfl, xg2 217 (by decide +kernel) rfl⟩⟩
theorem xm_78 : xMok 78 := ⟨⟨xg2 222 (by decide +kernel) rfl, xg1 2 (by decide +kernel) rfl⟩, ⟨by decide +kernel, by decide +kernel, by decide +kernel, by decide +kernel, by decide +kernel⟩, by show xre 78 = _; decide +kernel, Or.inl ⟨rfl, xg2 220 (by decide +kernel) rfl, xg2 221 (by decide +kernel) rfl⟩⟩
theorem xm_79 : xMok 79 := ⟨⟨xg3 164 (by decide +kernel) rfl, xg1 2 (by decide +kernel) rfl⟩, ⟨by decide +kernel, by decide +kernel, by decide +kernel, by decide +kernel, by decide +kernel⟩, by show xre 79 = _; decide +kernel, Or.inl ⟨rfl, xg3 162 (by decide +kernel) rfl, xg3 163 (by decide +kernel) rfl⟩⟩
theorem xm_80 : xMok 80 := ⟨⟨xg3 196 (by decide +kernel) rfl, xg1 2 (by decide +kernel) rfl⟩, ⟨by decide +kernel, by decide +kernel, by decide +kernel, by decide +kernel, by decide +kernel⟩, by show xre 80 = _; decide +kernel, Or.inl ⟨rfl, xg3 194 (by decide +kernel) rfl, xg3 195 (by decide +kernel) rfl⟩⟩
theorem xm_81 : xMok 81 := ⟨⟨xg1 23 (by decide +kernel) rfl, xg1 1 (by decide +kernel) rfl⟩, ⟨by decide +kernel, by decide +kernel, by decide +kernel, by decide +kernel, by decide +kernel⟩, by show xre 81 = _; decide +kernel, Or.inr (Or.inr ⟨rfl, xg1 22 (by decide +kernel) rfl, by decide +kernel, by decide +kernel⟩)⟩
theorem xm_82 : xMok 82 := ⟨⟨xg2 98 (by decide +kernel) rfl, xg1 1 (by decide +kernel) rfl⟩, ⟨by decide +kernel, by decide +kernel, by decide +kernel, by decide +kernel, by decide +kernel⟩, by show xre 82 = _; decide +kernel, Or.inl ⟨rfl, xg2 96 (by decide +kernel) rfl, xg2 97 (by decide +kernel) rfl⟩⟩
theorem xm_83 : xMok 83 := ⟨⟨xg2 106 (by decide +kernel) rfl, xg1 1 (by decide +kernel) rfl⟩, ⟨by decide +kernel, by decide +kernel, by decide +kernel, by decide +kernel, by decide +kernel⟩, by show xre 83 = _; decide +kernel, Or.inl ⟨rfl, xg2 104 (by decide +kernel) rfl, xg2 105 (by decide +kernel) rfl⟩⟩
theorem xm_84 : xMok 84 := ⟨⟨xg2 110 (by decide +kernel) rfl, xg1 1 (by decide +kernel) rfl⟩, ⟨by decide +kernel, by decide +kernel, by decide +kernel, by decide +kernel, by decide +kernel⟩, by show xre 84 = _; decide +kernel, Or.inl ⟨rfl, xg2 108 (by decide +kernel) rfl, xg2 109 (by decide +kernel) rfl⟩⟩
theorem xm_85 : xMok 85 := ⟨⟨xg2 133 (by decide +kernel) rfl, xg1 1 (by decide +kernel) rfl⟩, ⟨by decide +kernel, by decide +kernel, by decide +kernel, by decide +kernel, by decide +kernel⟩, by show xre 85 = _; decide +kernel, Or.inr (Or.inl ⟨rfl, xg2 132 (by decide +kernel) rfl⟩)⟩
theorem xm_86 : xMok 86 := ⟨⟨xg2 162 (by decide +kernel) rfl, xg1 1 (by decide +kernel) rfl⟩, ⟨by decide +kernel, by decide +kernel, by decide +kernel, by decide +kernel, by decide +kernel⟩, by show xre 86 = _; decide +kernel, Or.inl ⟨rfl, xg2 160 (by decide +kernel) rfl, xg2 161 (by decide +kernel) rfl⟩⟩
theorem xm_87 : xMok 87 := ⟨⟨xg2 170 (by decide +kernel) rfl, xg1 1 (by decide +kernel) rfl⟩, ⟨by decide +kernel, by decide +kernel, by decide +kernel, by decide +kernel, by decide +kernel⟩, by show xre 87 = _; decide +kernel, Or.inl ⟨rfl, xg2 168 (by decide +kernel) rfl, xg2 169 (by decide +kernel) rfl⟩⟩
theorem xm_88 : xMok 88 := ⟨⟨xg2 174 (by decide +kernel) rfl, xg1 1 (by decide +kernel) rfl⟩, ⟨by decide +kernel, by decide +kernel, by decide +kernel, by decide +kernel, by decide +kernel⟩, by show xre 88 = _; decide +kernel, Or.inl ⟨rfl, xg2 172 (by decide +kernel) rfl, xg2 173 (by decide +kernel) rfl⟩⟩
theorem xm_89 : xMok 89 := ⟨⟨xg2 178 (by decide +kernel) rfl, xg1 1 (by decide +kernel) rfl⟩, ⟨by decide +kernel, by decide +kernel, by decide +kernel, by decide +kernel, by decide +kernel⟩, by show xre 89 = _; decide +kernel, Or.inl ⟨rfl, xg2 176 (by decide +kernel) rfl, xg2 177 (by decide +kernel) rfl⟩⟩
theorem xm_90 : xMok 90 := ⟨⟨xg2 182 (by decide +kernel) rfl, xg1 1 (by decide +kernel) rfl⟩, ⟨by decide +kernel, by decide +kernel, by decide +kernel, by decide +kernel, by decide +kernel⟩, by show xre 90 = _; decide +kernel, Or.inl ⟨rfl, xg2 180 (by decide +kernel) rfl, xg2 181 (by decide +kernel) rfl⟩⟩
theorem xm_91 : xMok 91 := ⟨⟨xg2 186 (by decide +kernel) rfl, xg1 1 (by decide +kernel) rfl⟩, ⟨by decide +kernel, by decide +kernel, by decide +kernel, by decide +kernel, by decide +kernel⟩, by show xre 91 = _; decide +kernel, Or.inl ⟨rfl, xg2 184 (by decide +kernel) rfl, xg2 185 (by decide +kernel) rfl⟩⟩
theorem xm_92 : xMok 92 := ⟨⟨xg2 190 (by decide +kernel) rfl, xg1 1 (by decide +kernel) rfl⟩, ⟨by decide +kernel, by decide +kernel, by decide +kernel, by decide +kernel, by decide +kernel⟩, by show xre 92 = _; decide +kernel, Or.inl ⟨rfl, xg2 188 (by decide +kernel) rfl, xg2 189 (by decide +kernel) rfl⟩⟩
theorem xm_93 : xMok 93 := ⟨⟨xg2 194 (by decide +kernel) rfl, xg1 1 (by decide +kernel) rfl⟩, ⟨by decide +kernel, by decide +kernel, by decide +kernel, by decide +kernel, by decide +kernel⟩, by show xre 93 = _; decide +kernel, Or.inl ⟨rfl, xg2 192 (by decide +kernel) rfl, xg2 193 (by decide +kernel) rfl⟩⟩
theorem xm_94 : xMok 94 := ⟨⟨xg2 198 (by decide +kernel) rfl, xg1 1 (by decide +kernel) rfl⟩, ⟨by decide +kernel, by decide +kernel, by decide +kernel, by decide +kernel, by decide +kernel⟩, by show xre 94 = _; decide +kernel, Or.inl ⟨rfl, xg2 196 (by decide +kernel) rfl, xg2 197 (by decide +kernel) rfl⟩⟩
theorem xm_95 : xMok 95 := ⟨⟨xg2 202 (by decide +kernel) rfl, xg1 1 (by decide +kernel) rfl⟩, ⟨by decide +kernel, by decide +kernel, by decide +kernel, by decide +kernel, by decide +kernel⟩, by show xre 95 = _; decide +kernel, Or.inl ⟨rfl, xg2 200 (by decide +kernel) rfl, xg2 201 (by decide +kernel) rfl⟩⟩
theorem xm_96 : xMok 96 := ⟨⟨xg2 206 (by decide +kernel) rfl, xg1 1 (by decide +kernel) rfl⟩, ⟨by decide +kernel, by decide +kernel, by decide +kernel, by decide +kernel, by decide +kernel⟩, by show xre 96 = _; decide +kernel, Or.inl ⟨rfl, xg2 204 (by decide +kernel) rfl, xg2 205 (by decide +kernel) rfl⟩⟩
theorem xm_97 : xMok 97 := ⟨⟨xg2 210 (by decide +kernel) rfl, xg1 1 (by decide +kernel) rfl⟩, ⟨by decide +kernel, by decide +kernel, by decide +kernel, by decide +kernel, by decide +kernel⟩, by show xre 97 = _; decide +kernel, Or.inl ⟨rfl, xg2 208 (by decide +kernel) rfl, xg2 209 (by decide +kernel) rfl⟩⟩
theorem xm_98 : xMok 98 := ⟨⟨xg3 1 (by decide +kernel) rfl, xg1 1 (by decide +kernel) rfl⟩, ⟨by decide +kernel, by decide +kernel, by decide +kernel, by decide +kernel, by decide +kernel⟩, by show xre 98 = _; decide +kernel, Or.inl ⟨rfl, xg2 239 (by decide +kernel) rfl, xg3 0 (by decide +kernel) rfl⟩⟩
theorem xm_99 : xMok 99 := ⟨⟨xg3 9 (by decide +kernel) rfl, xg1 1 (by decide +kernel) rfl⟩, ⟨by decide +kernel, by decide +kernel, by decide +kernel, by decide +kernel, by decide +kernel⟩, by show xre 99 = _; decide +kernel, Or.inl ⟨rfl, xg3 7 (by decide +kernel) rfl, xg3 8 (by decide +kernel) rfl⟩⟩
theorem xm_100 : xMok 100 := ⟨⟨xg3 14 (by decide +kernel) rfl, xg1 1 (by decide +kernel) rfl⟩, ⟨by decide +kernel, by decide +kernel, by decide +kernel, by decide +kernel, by decide +kernel⟩, by show xre 100 = _; decide +kernel, Or.inl ⟨rfl, xg3 12 (by decide +kernel) rfl, xg3 13 (by decide +kernel) rfl⟩⟩
theorem xm_101 : xMok 101 := ⟨⟨xg3 19 (by decide +kernel) rfl, xg1 1 (by decide +kernel) rfl⟩, ⟨by decide +kernel, by decide +kernel, by decide +kernel, by decide +kernel, by decide +kernel⟩, by show xre 101 = _; decide +kernel, Or.inl ⟨rfl, xg3 18 (by decide +kernel) rfl, xg 7 (by decide +kernel) rfl⟩⟩
theorem xm_102 : xMok 102 := ⟨⟨xg3 22 (by decide +kernel) rfl, xg1 1 (by decide +kernel) rfl⟩, ⟨by decide +kernel, by decide +kernel, by decide +kernel, by decide +kernel, by decide +kernel⟩, by show xre 102 = _; decide +kernel, Or.inr (Or.inl ⟨rfl, xg3 21 (by decide +kernel) rfl⟩)⟩
theorem xm_103 : xMok 103 := ⟨⟨xg3 25 (by decide +kernel) rfl, xg1 1 (by decide +kernel) rfl⟩, ⟨by decide +kernel, by decide +kernel, by decide +kernel, by decide +kernel, by decide +kernel⟩, by show xre 103 = _; decide +kernel, Or.inr (Or.inl ⟨rfl, xg3 24 (by decide +kernel) rfl⟩)⟩
theorem xm_104 : xMok 104 := ⟨⟨xg3 31 (by decide +kernel) rfl, xg1 1 (by decide +kernel) rfl⟩, ⟨by decide +kernel, by decide +kernel, by decide +kernel, by decide +kernel, by decide +kernel⟩, by show xre 104 = _; decide +kernel, Or.inr (Or.inl ⟨rfl, xg3 30 (by decide +kernel) rfl⟩)⟩
theorem xm_105 : xMok 105 := ⟨⟨xg3 35 (by decide +kernel) rfl, xg1 1 (by decide +kernel) rfl⟩, ⟨by decide +kernel, by decide +kernel, by decide +kernel, by decide +kernel, by decide +kernel⟩, by show xre 105 = _; decide +kernel, Or.inl ⟨rfl, xg3 33 (by decide +kernel) rfl, xg3 34 (by decide +kernel) rfl⟩⟩
theorem xm_106 : xMok 106 := ⟨⟨xg3 108 (by decide +kernel) rfl, xg1 1 (by decide +kernel) rfl⟩, ⟨by decide +kernel, by decide +kernel, by decide +kernel, by decide +kernel, by decide +kernel⟩, by show xre 106 = _; decide +kernel, Or.inl ⟨rfl, xg3 106 (by decide +kernel) rfl, xg3 107 (by decide +kernel) rfl⟩⟩
theorem xm_107 : xMok 107 := ⟨⟨xg3 136 (by decide +kernel) rfl, xg1 1 (by decide +kernel) rfl⟩, ⟨by decide +kernel, by decide +kernel, by decide +kernel, by decide +kernel, by decide +kernel⟩, by show xre 107 = _; decide +kernel, Or.inl ⟨rfl, xg3 134 (by decide +kernel) rfl, xg3 135 (by decide +kernel) rfl⟩⟩
theorem xm_108 : xMok 108 := ⟨⟨xg3 139 (by decide +kernel) rfl, xg1 1 (by decide +kernel) rfl⟩, ⟨by decide +kernel, by decide +kernel, by decide +kernel, by decide +kernel, by decide +kernel⟩, by show xre 108 = _; decide +kernel, Or.inr (Or.inl ⟨rfl, xg3 138 (by decide +kernel) rfl⟩)⟩
theorem xm_109 : xMok 109 := ⟨⟨xg3 144 (by decide +kernel) rfl, xg1 1 (by decide +kernel) rfl⟩, ⟨by decide +kernel, by decide +kernel, by decide +kernel, by decide +kernel, by decide +kernel⟩, by show xre 109 = _; decide +kernel, Or.inl ⟨rfl, xg3 142 (by decide +kernel) rfl, xg3 143 (by decide +kernel) rfl⟩⟩
theorem xm_110 : xMok 110 := ⟨⟨xg3 148 (by decide +kernel) rfl, xg1 1 (by decide +kernel) rfl⟩, ⟨by decide +kernel, by decide +kernel, by decide +kernel, by decide +kernel, by decide +kernel⟩, by show xre 110 = _; decide +kernel, Or.inl ⟨rfl, xg3 147 (by decide +kernel) rfl, xg 9 (by decide +kernel) rfl⟩⟩
theorem xm_111 : xMok 111 := ⟨⟨xg3 153 (by decide +kernel) rfl, xg1 1 (by decide +kernel) rfl⟩, ⟨by decide +kernel, by decide +kernel, by decide +kernel, by decide +kernel, by decide +kernel⟩, by show xre 111 = _; decide +kernel, Or.inl ⟨rfl, xg3 151 (by decide +kernel) rfl, xg3 152 (by decide +kernel) rfl⟩⟩
theorem xm_112 : xMok 112 := ⟨⟨xg3 157 (by decide +kernel) rfl, xg1 1 (by decide +kernel) rfl⟩, ⟨by decide +kernel, by decide +kernel, by decide +kernel, by decide +kernel, by decide +kernel⟩, by show xre 112 = _; decide +kernel, Or.inl ⟨rfl, xg3 156 (by decide +kernel) rfl, xg 10 (by decide +kernel) rfl⟩⟩
theorem xm_113 : xMok 113 := ⟨⟨xg3 160 (by decide +kernel) rfl, xg1 1 (by decide +kernel) rfl⟩, ⟨by decide +kernel, by decide +kernel, by decide +kernel, by decide +kernel, by decide +kernel⟩, by show xre 113 = _; decide +kernel, Or.inr (Or.inl ⟨rfl, xg3 159 (by decide +kernel) rfl⟩)⟩
theorem xm_114 : xMok 114 := ⟨⟨xg3 168 (by decide +kernel) rfl, xg1 1 (by decide +kernel) rfl⟩, ⟨by decide +kernel, by decide +kernel, by decide +kernel, by decide +kernel, by decide +kernel⟩, by show xre 114 = _; decide +kernel, Or.inl ⟨rfl, xg3 166 (by decide +kernel) rfl, xg3 167 (by decide +kernel) rfl⟩⟩
theorem xm_115 : xMok 115 := ⟨⟨xg3 172 (by decide +kernel) rfl, xg1 1 (by decide +kernel) rfl⟩, ⟨by decide +kernel, by decide +kernel, by decide +kernel, by decide +kernel, by decide +kernel⟩, by show xre 115 = _; decide +kernel, Or.inl ⟨rfl, xg3 171 (by decide +kernel) rfl, xg 11 (by decide +kernel) rfl⟩⟩
theorem xm_116 : xMok 116 := ⟨⟨xg4 84 (by decide +kernel) rfl, xg1 1 (by decide +kernel) rfl⟩, ⟨by decide +kernel, by decide +kernel, by decide +kernel, by decide +kernel, by decide +kernel⟩, by show xre 116 = _; decide +kernel, Or.inl ⟨rfl, xg4 82 (by decide +kernel) rfl, xg4 83 (by decide +kernel) rfl⟩⟩
theorem xm_117 : xMok 117 := ⟨⟨xg4 88 (by decide +kernel) rfl, xg1 1 (by decide +kernel) rfl⟩, ⟨by decide +kernel, by decide +kernel, by decide +kernel, by decide +kernel, by decide +kernel⟩, by show xre 117 = _; decide +kernel, Or.inl ⟨rfl, xg4 87 (by decide +kernel) rfl, xg 20 (by decide +kernel) rfl⟩⟩
theorem xm_118 : xMok 118 := ⟨⟨xg4 93 (by decide +kernel) rfl, xg1 1 (by decide +kernel) rfl⟩, ⟨by decide +kernel, by decide +kernel, by decide +kernel, by decide +kernel, by decide +kernel⟩, by show xre 118 = _; decide +kernel, Or.inl ⟨rfl, xg4 91 (by decide +kernel) rfl, xg4 92 (by decide +kernel) rfl⟩⟩
theorem xm_119 : xMok 119 := ⟨⟨xg4 101 (by decide +kernel) rfl, xg1 1 (by decide +kernel) rfl⟩, ⟨by decide +kernel, by decide +kernel, by decide +kernel, by decide +kernel, by decide +kernel⟩, by show xre 119 = _; decide +kernel, Or.inl ⟨rfl, xg4 99 (by decide +kernel) rfl, xg4 100 (by decide +kernel) rfl⟩⟩
theorem xm_120 : xMok 120 := ⟨⟨xg4 111 (by decide +kernel) rfl, xg1 1 (by decide +kernel) rfl⟩, ⟨by decide +kernel, by decide +kernel, by decide +kernel, by decide +kernel, by decide +kernel⟩, by show xre 120 = _; decide +kernel, Or.inl ⟨rfl, xg4 109 (by decide +kernel) rfl, xg4 110 (by decide +kernel) rfl⟩⟩
theorem xm_121 : xMok 121 := ⟨⟨xg4 119 (by decide +kernel) rfl, xg1 1 (by decide +kernel) rfl⟩, ⟨by decide +kernel, by decide +kernel, by decide +kernel, by decide +kernel, by decide +kernel⟩, by show xre 121 = _; decide +kernel, Or.inl ⟨rfl, xg4 117 (by decide +kernel) rfl, xg4 118 (by decide +kernel) rfl⟩⟩
theorem xm_122 : xMok 122 := ⟨⟨xg4 127 (by decide +kernel) rfl, xg1 1 (by decide +kernel) rfl⟩, ⟨by decide +kernel, by decide +kernel, by decide +kernel, by decide +kernel, by decide +kernel⟩, by show xre 122 = _; decide +kernel, Or.inl ⟨rfl, xg4 125 (by decide +kernel) rfl, xg4 126 (by decide +kernel) rfl⟩⟩
theorem xm_123 : xMok 123 := ⟨⟨xg4 131 (by decide +kernel) rfl, xg1 1 (by decide +kernel) rfl⟩, ⟨by decide +kernel, by decide +kernel, by decide +kernel, by decide +kernel, by decide +kernel⟩, by show xre 123 = _; decide +kernel, Or.inl ⟨rfl, xg4 129 (by decide +kernel) rfl, xg4 130 (by decide +kernel) rfl⟩⟩
theorem xm_124 : xMok 124 := ⟨⟨xg4 200 (by decide +kernel) rfl, xg1 1 (by decide +kernel) rfl⟩, ⟨by decide +kernel, by decide +kernel, by decide +kernel, by decide +kernel, by decide +kernel⟩, by show xre 124 = _; decide +kernel, Or.inl ⟨rfl, xg4 198 (by decide +kernel) rfl, xg4 199 (by decide +kernel) rfl⟩⟩
theorem xm_125 : xMok 125 := ⟨⟨xg4 205 (by decide +kernel) rfl, xg1 1 (by decide +kernel) rfl⟩, ⟨by decide +kernel, by decide +kernel, by decide +kernel, by decide +kernel, by decide +kernel⟩, by show xre 125 = _; decide +kernel, Or.inr (Or.inl ⟨rfl, xg4 204 (by decide +kernel) rfl⟩)⟩
theorem xm_126 : xMok 126 := ⟨⟨xg4 217 (by decide +kernel) rfl, xg1 1 (by decide +kernel) rfl⟩, ⟨by decide +kernel, by decide +kernel, by decide +kernel, by decide +kernel, by decide +kernel⟩, by show xre 126 = _; decide +kernel, Or.inl ⟨rfl, xg4 215 (by decide +kernel) rfl, xg4 216 (by decide +kernel) rfl⟩⟩
theorem xm_127 : xMok 127 := ⟨⟨xg4 220 (by decide +kernel) rfl, xg1 1 (by decide +kernel) rfl⟩, ⟨by decide +kernel, by decide +kernel, by decide +kernel, by decide +kernel, by decide +kernel⟩, by show xre 127 = _; decide +kernel, Or.inr (Or.inl ⟨rfl, xg4 219 (by decide +kernel) rfl⟩)⟩
theorem xm_128 : xMok 128 := ⟨⟨xg5 25 (by decide +kernel) rfl, xg1 1 (by decide +kernel) rfl⟩, ⟨by decide +kernel, by decide +kernel, by decide +kernel, by decide +kernel, by decide +kernel⟩, by show xre 128 = _; decide +kernel, Or.inl ⟨rfl, xg5 23 (by decide +kernel) rfl, xg5 24 (by decide +kernel) rfl⟩⟩
theorem xm_129 : xMok 129 := ⟨⟨xg5 43 (by decide +kernel) rfl, xg1 1 (by decide +kernel) rfl⟩, ⟨by decide +kernel, by decide +kernel, by decide +kernel, by decide +kernel, by decide +kernel⟩, by show xre 129 = _; decide +kernel, Or.inl ⟨rfl, xg5 41 (by decide +kernel) rfl, xg5 42 (by decide +kernel) rfl⟩⟩
theorem xm_130 : xMok 130 := ⟨⟨xg5 51 (by decide +kernel) rfl, xg1 1 (by decide +kernel) rfl⟩, ⟨by decide +kernel, by decide +kernel, by decide +kernel, by decide +kernel, by decide +kernel⟩, by show xre 130 = _; decide +kernel, Or.inl ⟨rfl, xg5 49 (by decide +kernel) rfl, xg5 50 (by decide +kernel) rfl⟩⟩
theorem xm_131 : xMok 131 := ⟨⟨xg5 59 (by decide +kernel) rfl, xg1 1 (by decide +kernel) rfl⟩, ⟨by decide +kernel, by decide +kernel, by decide +kernel, by decide +kernel, by decide +kernel⟩, by show xre 131 = _; decide +kernel, Or.inl ⟨rfl, xg5 57 (by decide +kernel) rfl, xg5 58 (by decide +kernel) rfl⟩⟩
theorem xm_132 : xMok 132 := ⟨⟨xg5 67 (by decide +kernel) rfl, xg1 1 (by decide +kernel) rfl⟩, ⟨by decide +kernel, by decide +kernel, by decide +kernel, by decide +kernel, by decide +kernel⟩, by show xre 132 = _; decide +kernel, Or.inl ⟨rfl, xg5 65 (by decide +kernel) rfl, xg5 66 (by decide +kernel) rfl⟩⟩
theorem xm_133 : xMok 133 := ⟨⟨xg5 75 (by decide +kernel) rfl, xg1 1 (by decide +kernel) rfl⟩, ⟨by decide +kernel, by decide +kernel, by decide +kernel, by decide +kernel, by decide +kernel⟩, by show xre 133 = _; decide +kernel, Or.inl ⟨rfl, xg5 73 (by decide +kernel) rfl, xg5 74 (by decide +kernel) rfl⟩⟩
theorem xm_134 : xMok 134 := ⟨⟨xg5 79 (by decide +kernel) rfl, xg1 1 (by decide +kernel) rfl⟩, ⟨by decide +kernel, by decide +kernel, by decide +kernel, by decide +kernel, by decide +kernel⟩, by show xre 134 = _; decide +kernel, Or.inl ⟨rfl, xg5 78 (by decide +kernel) rfl, xg 33 (by decide +kernel) rfl⟩⟩
theorem xm_135 : xMok 135 := ⟨⟨xg5 87 (by decide +kernel) rfl, xg1 1 (by decide +kernel) rfl⟩, ⟨by decide +kernel, by decide +kernel, by decide +kernel, by decide +kernel, by decide +kernel⟩, by show xre 135 = _; decide +kernel, Or.inl ⟨rfl, xg5 85 (by decide +kernel) rfl, xg5 86 (by decide +kernel) rfl⟩⟩
theorem xm_136 : xMok 136 := ⟨⟨xg5 98 (by decide +kernel) rfl, xg1 1 (by decide +kernel) rfl⟩, ⟨by decide +kernel, by decide +kernel, by decide +kernel, by decide +kernel, by decide +kernel⟩, by show xre 136 = _; decide +kernel, Or.inl ⟨rfl, xg5 96 (by decide +kernel) rfl, xg5 97 (by decide +kernel) rfl⟩⟩
theorem xm_137 : xMok 137 := ⟨⟨xg5 105 (by decide +kernel) rfl, xg1 1 (by decide +kernel) rfl⟩, ⟨by decide +kernel, by decide +kernel, by decide +kernel, by decide +kernel, by decide +kernel⟩, by show xre 137 = _; decide +kernel, Or.inl ⟨rfl, xg5 103 (by decide +kernel) rfl, xg5 104 (by decide +kernel) rfl⟩⟩
theorem xm_138 : xMok 138 := ⟨⟨xg5 125 (by decide +kernel) rfl, xg1 1 (by decide +kernel) rfl⟩, ⟨by decide +kernel, by decide +kernel, by decide +kernel, by decide +kernel, by decide +kernel⟩, by show xre 138 = _; decide +kernel, Or.inl ⟨rfl, xg5 123 (by decide +kernel) rfl, xg5 124 (by decide +kernel) rfl⟩⟩
theorem xm_139 : xMok 139 := ⟨⟨xg5 137 (by decide +kernel) rfl, xg1 1 (by decide +kernel) rfl⟩, ⟨by decide +kernel, by decide +kernel, by decide +kernel, by decide +kernel, by decide +kernel⟩, by show xre 139 = _; decide +kernel, Or.inl ⟨rfl, xg5 135 (by decide +kernel) rfl, xg5 136 (by decide +kernel) rfl⟩⟩
theorem xm_140 : xMok 140 := ⟨⟨xg5 165 (by decide +kernel) rfl, xg1 1 (by decide +kernel) rfl⟩, ⟨by decide +kernel, by decide +kernel, by decide +kernel, by decide +kernel, by decide +kernel⟩, by show xre 140 = _; decide +kernel, Or.inl ⟨rfl, xg5 163 (by decide +kernel) rfl, xg5 164 (by decide +kernel) rfl⟩⟩
theorem xm_141 : xMok 141 := ⟨⟨xg5 172 (by decide +kernel) rfl, xg1 1 (by decide +kernel) rfl⟩, ⟨by decide +kernel, by decide +kernel, by decide +kernel, by decide +kernel, by decide +kernel⟩, by show xre 141 = _; decide +kernel, Or.inl ⟨rfl, xg5 170 (by decide +kernel) rfl, xg5 171 (by decide +kernel) rfl⟩⟩
theorem xm_142 : xMok 142 := ⟨⟨xg5 184 (by decide +kernel) rfl, xg1 1 (by decide +kernel) rfl⟩, ⟨by decide +kernel, by decide +kernel, by decide +kernel, by decide +kernel, by decide +kernel⟩, by show xre 142 = _; decide +kernel, Or.inl ⟨rfl, xg5 182 (by decide +kernel) rfl, xg5 183 (by decide +kernel) rfl⟩⟩
theorem xm_143 : xMok 143 := ⟨⟨xg5 190 (by decide +kernel) rfl, xg1 12 (by decide +kernel) rfl⟩, ⟨by decide +kernel, by decide +kernel, by decide +kernel, by decide +kernel, by decide +kernel⟩, by show xre 143 = _; decide +kernel, Or.inr (Or.inr ⟨rfl, xg5 189 (by decide +kernel) rfl, by decide +kernel, by decide +kernel⟩)⟩
theorem xm_144 : xMok 144 := ⟨⟨xg6 91 (by decide +kernel) rfl, xg1 12 (by decide +kernel) rfl⟩, ⟨by decide +kernel, by decide +kernel, by decide +kernel, by decide +kernel, by decide +kernel⟩, by show xre 144 = _; decide +kernel, Or.inl ⟨rfl, xg6 89 (by decide +kernel) rfl, xg6 90 (by decide +kernel) rfl⟩⟩
theorem xm_145 : xMok 145 := ⟨⟨xg6 95 (by decide +kernel) rfl, xg1 12 (by decide +kernel) rfl⟩, ⟨by decide +kernel, by decide +kernel, by decide +kernel, by decide +kernel, by decide +kernel⟩, by show xre 145 = _; decide +kernel, Or.inl ⟨rfl, xg6 93 (by decide +kernel) rfl, xg6 94 (by decide +kernel) rfl⟩⟩
theorem xm_146 : xMok 146 := ⟨⟨xg6 98 (by decide +kernel) rfl, xg1 12 (by decide +kernel) rfl⟩, ⟨by decide +kernel, by decide +kernel, by decide +kernel, by decide +kernel, by decide +kernel⟩, by show xre 146 = _; decide +kernel, Or.inr (Or.inl ⟨rfl, xg6 97 (by decide +kernel) rfl⟩)⟩
theorem xm_147 : xMok 147 := ⟨⟨xg6 102 (by decide +kernel) rfl, xg1 12 (by decide +kernel) rfl⟩, ⟨by decide +kernel, by decide +kernel, by decide +kernel, by decide +kernel, by decide +kernel⟩, by show xre 147 = _; decide +kernel, Or.inl ⟨rfl, xg6 101 (by decide +kernel) rfl, xg 34 (by decide +kernel) rfl⟩⟩
theorem xm_148 : xMok 148 := ⟨⟨xg6 106 (by decide +kernel) rfl, xg1 12 (by decide +kernel) rfl⟩, ⟨by decide +kernel, by decide +kernel, by decide +kernel, by decide +kernel, by decide +kernel⟩, by show xre 148 = _; decide +kernel, Or.inl ⟨rfl, xg6 104 (by decide +kernel) rfl, xg6 105 (by decide +kernel) rfl⟩⟩
theorem xm_149 : xMok 149 := ⟨⟨xg6 110 (by decide +kernel) rfl, xg1 12 (by decide +kernel) rfl⟩, ⟨by decide +kernel, by decide +kernel, by decide +kernel, by decide +kernel, by decide +kernel⟩, by show xre 149 = _; decide +kernel, Or.inl ⟨rfl, xg6 108 (by decide +kernel) rfl, xg6 109 (by decide +kernel) rfl⟩⟩
theorem xm_150 : xMok 150 := ⟨⟨xg6 114 (by decide +kernel) rfl, xg1 12 (by decide +kernel) rfl⟩, ⟨by decide +kernel, by decide +kernel, by decide +kernel, by decide +kernel, by decide +kernel⟩, by show xre 150 = _; decide +kernel, Or.inl ⟨rfl, xg6 112 (by decide +kernel) rfl, xg6 113 (by decide +kernel) rfl⟩⟩
theorem xm_151 : xMok 151 := ⟨⟨xg6 118 (by decide +kernel) rfl, xg1 12 (by decide +kernel) rfl⟩, ⟨by decide +kernel, by decide +kernel, by decide +kernel, by decide +kernel, by decide +kernel⟩, by show xre 151 = _; decide +kernel, Or.inl ⟨rfl, xg6 117 (by decide +kernel) rfl, xg 35 (by decide +kernel) rfl⟩⟩
theorem xm_152 : xMok 152 := ⟨⟨xg6 122 (by decide +kernel) rfl, xg1 12 (by decide +kernel) rfl⟩, ⟨by decide +kernel, by decide +kernel, by decide +kernel, by decide +kernel, by decide +kernel⟩, by show xre 152 = _; decide +kernel, Or.inl ⟨rfl, xg6 121 (by decide +kernel) rfl, xg 36 (by decide +kernel) rfl⟩⟩
theorem xm_153 : xMok 153 := ⟨⟨xg6 126 (by decide +kernel) rfl, xg1 12 (by decide +kernel) rfl⟩, ⟨by decide +kernel, by decide +kernel, by decide +kernel, by decide +kernel, by decide +kernel⟩, by show xre 153 = _; decide +kernel, Or.inl ⟨rfl, xg6 125 (by decide +kernel) rfl, xg 37 (by decide +kernel) rfl⟩⟩
theorem xm_154 : xMok 154 := ⟨⟨xg6 129 (by decide +kernel) rfl, xg1 12 (by decide +kernel) rfl⟩, ⟨by decide +kernel, by decide +kernel, by decide +kernel, by decide +kernel, by decide +kernel⟩, by show xre 154 = _; decide +kernel, Or.inr (Or.inl ⟨rfl, xg6 128 (by decide +kernel) rfl⟩)⟩
theorem xm_155 : xMok 155 := ⟨⟨xg6 133 (by decide +kernel) rfl, xg1 12 (by decide +kernel) rfl⟩, ⟨by decide +kernel, by decide +kernel, by decide +kernel, by decide +kernel, by decide +kernel⟩, by show xre 155 = _; decide +kernel, Or.inl ⟨rfl, xg6 132 (by decide +kernel) rfl, xg 38 (by decide +kernel) rfl⟩⟩
theorem xm_156 : xMok 156 := ⟨⟨xg6 137 (by decide +kernel) rfl, xg1 12 (by decide +kernel) rfl⟩, ⟨by decide +kernel, by decide +kernel, by decide +kernel, by decide +kernel, by decide +kernel⟩, by show xre 156 = _; decide +kernel, Or.inl ⟨rfl, xg6 135 (by decide +kernel) rfl, xg6 136 (by decide +kernel) rfl⟩⟩
theorem xm_157 : xMok 157 := ⟨⟨xg6 141 (by decide +kernel) rfl, xg1 12 (by decide +kernel) rfl⟩, ⟨by decide +kernel, by decide +kernel, by decide +kernel, by decide +kernel, by decide +kernel⟩, by show xre 157 = _; decide +kernel, Or.inl ⟨rfl, xg6 140 (by decide +kernel) rfl, xg 39 (by decide +kernel) rfl⟩⟩
theorem xm_158 : xMok 158 := ⟨⟨xg6 145 (by decide +kernel) rfl, xg1 12 (by decide +kernel) rfl⟩, ⟨by decide +kernel, by decide +kernel, by decide +kernel, by decide +kernel, by decide +kernel⟩, by show xre 158 = _; decide +kernel, Or.inl ⟨rfl, xg6 143 (by decide +kernel) rfl, xg6 144 (by decide +kernel) rfl⟩⟩
theorem xm_159 : xMok 159 := ⟨⟨xg6 149 (by decide +kernel) rfl, xg1 12 (by decide +kernel) rfl⟩, ⟨by decide +kernel, by decide +kernel, by decide +kernel, by decide +kernel, by decide +kernel⟩, by show xre 159 = _; decide +kernel, Or.inl ⟨rfl, xg6 147 (by decide +kernel) rfl, xg6 148 (by decide +kernel) rfl⟩⟩
theorem xm_160 : xMok 160 := ⟨⟨xg6 153 (by decide +kernel) rfl, xg1 12 (by decide +kernel) rfl⟩, ⟨by decide +kernel, by decide +kernel, by decide +kernel, by decide +kernel, by decide +kernel⟩, by show xre 160 = _; decide +kernel, Or.inl ⟨rfl, xg6 151 (by decide +kernel) rfl, xg6 152 (by decide +kernel) rfl⟩⟩
theorem xm_161 : xMok 161 := ⟨⟨xg6 157 (by decide +kernel) rfl, xg1 12 (by decide +kernel) rfl⟩, ⟨by decide +kernel, by decide +kernel, by decide +kernel, by decide +kernel, by decide +kernel⟩, by show xre 161 = _; decide +kernel, Or.inl ⟨rfl, xg6 155 (by decide +kernel) rfl, xg6 156 (by decide +kernel) rfl⟩⟩
theorem xm_162 : xMok 162 := ⟨⟨xg6 161 (by decide +kernel) rfl, xg1 12 (by decide +kernel) rfl⟩, ⟨by decide +kernel, by decide +kernel, by decide +kernel, by decide +kernel, by decide +kernel⟩, by show xre 162 = _; decide +kernel, Or.inl ⟨rfl, xg6 159 (by decide +kernel) rfl, xg6 160 (by decide +kernel) rfl⟩⟩
theorem xm_163 : xMok 163 := ⟨⟨xg6 165 (by decide +kernel) rfl, xg1 12 (by decide +kernel) rfl⟩, ⟨by decide +kernel, by decide +kernel, by decide +kernel, by decide +kernel, by decide +kernel⟩, by show xre 163 = _; decide +kernel, Or.inl ⟨rfl, xg6 163 (by decide +kernel) rfl, xg6 164 (by decide +kernel) rfl⟩⟩
theorem xm_164 : xMok 164 := ⟨⟨xg6 168 (by decide +kernel) rfl, xg1 12 (by decide +kernel) rfl⟩, ⟨by decide +kernel, by decide +kernel, by decide +kernel, by decide +kernel, by decide +kernel⟩, by show xre 164 = _; decide +kernel, Or.inr (Or.inl ⟨rfl, xg6 167 (by decide +kernel) rfl⟩)⟩
theorem xm_165 : xMok 165 := ⟨⟨xg6 172 (by decide +kernel) rfl, xg1 12 (by decide +kernel) rfl⟩, ⟨by decide +kernel, by decide +kernel, by decide +kernel, by decide +kernel, by decide +kernel⟩, by show xre 165 = _; decide +kernel, Or.inl ⟨rfl, xg6 171 (by decide +kernel) rfl, xg 40 (by decide +kernel) rfl⟩⟩
theorem xm_166 : xMok 166 := ⟨⟨xg6 176 (by decide +kernel) rfl, xg1 12 (by decide +kernel) rfl⟩, ⟨by decide +kernel, by decide +kernel, by decide +kernel, by decide +kernel, by decide +kernel⟩, by show xre 166 = _; decide +kernel, Or.inl ⟨rfl, xg6 175 (by decide +kernel) rfl, xg 41 (by decide +kernel) rfl⟩⟩
theorem xm_167 : xMok 167 := ⟨⟨xg6 180 (by decide +kernel) rfl, xg1 12 (by decide +kernel) rfl⟩, ⟨by decide +kernel, by decide +kernel, by decide +kernel, by decide +kernel, by decide +kernel⟩, by show xre 167 = _; decide +kernel, Or.inl ⟨rfl, xg6 179 (by decide +kernel) rfl, xg 42 (by decide +kernel) rfl⟩⟩
theorem xm_168 : xMok 168 := ⟨⟨xg6 184 (by decide +kernel) rfl, xg1 12 (by decide +kernel) rfl⟩, ⟨by decide +kernel, by decide +kernel, by decide +kernel, by decide +kernel, by decide +kernel⟩, by show xre 168 = _; decide +kernel, Or.inl ⟨rfl, xg6 182 (by decide +kernel) rfl, xg6 183 (by decide +kernel) rfl⟩⟩
theorem xm_169 : xMok 169 := ⟨⟨xg6 188 (by decide +kernel) rfl, xg1 12 (by decide +kernel) rfl⟩, ⟨by decide +kernel, by decide +kernel, by decide +kernel, by decide +kernel, by decide +kernel⟩, by show xre 169 = _; decide +kernel, Or.inl ⟨rfl, xg6 187 (by decide +kernel) rfl, xg 43 (by decide +kernel) rfl⟩⟩
theorem xm_170 : xMok 170 := ⟨⟨xg6 192 (by decide +kernel) rfl, xg1 12 (by decide +kernel) rfl⟩, ⟨by decide +kernel, by decide +kernel, by decide +kernel, by decide +kernel, by decide +kernel⟩, by show xre 170 = _; decide +kernel, Or.inl ⟨rfl, xg6 190 (by decide +kernel) rfl, xg6 191 (by decide +kernel) rfl⟩⟩
theorem xm_171 : xMok 171 := ⟨⟨xg6 196 (by decide +kernel) rfl, xg1 12 (by decide +kernel) rfl⟩, ⟨by decide +kernel, by decide +kernel, by decide +kernel, by decide +kernel, by decide +kernel⟩, by show xre 171 = _; decide +kernel, Or.inl ⟨rfl, xg6 194 (by decide +kernel) rfl, xg6 195 (by decide +kernel) rfl⟩⟩
theorem xm_172 : xMok 172 := ⟨⟨xg6 200 (by decide +kernel) rfl, xg1 12 (by decide +kernel) rfl⟩, ⟨by decide +kernel, by decide +kernel, by decide +kernel, by decide +kernel, by decide +kernel⟩, by show xre 172 = _; decide +kernel, Or.inl ⟨rfl, xg6 198 (by decide +kernel) rfl, xg6 199 (by decide +kernel) rfl⟩⟩
theorem xm_173 : xMok 173 := ⟨⟨xg6 204 (by decide +kernel) rfl, xg1 12 (by decide +kernel) rfl⟩, ⟨by decide +kernel, by decide +kernel, by decide +kernel, by decide +kernel, by decide +kernel⟩, by show xre 173 = _; decide +kernel, Or.inl ⟨rfl, xg6 203 (by decide +kernel) rfl, xg 44 (by decide +kernel) rfl⟩⟩
theorem xm_174 : xMok 174 := ⟨⟨xg6 207 (by decide +kernel) rfl, xg1 12 (by decide +kernel) rfl⟩, ⟨by decide +kernel, by decide +kernel, by decide +kernel, by decide +kernel, by decide +kernel⟩, by show xre 174 = _; decide +kernel, Or.inr (Or.inl ⟨rfl, xg6 206 (by decide +kernel) rfl⟩)⟩
theorem xm_175 : xMok 175 := ⟨⟨xg6 211 (by decide +kernel) rfl, xg1 12 (by decide +kernel) rfl⟩, ⟨by decide +kernel, by decide +kernel, by decide +kernel, by decide +kernel, by decide +kernel⟩, by show xre 175 = _; decide +kernel, Or.inl ⟨rfl, xg6 209 (by decide +kernel) rfl, xg6 210 (by decide +kernel) rfl⟩⟩
theorem xm_176 : xMok 176 := ⟨⟨xg6 215 (by decide +kernel) rfl, xg1 12 (by decide +kernel) rfl⟩, ⟨by decide +kernel, by decide +kernel, by decide +kernel, by decide +kernel, by decide +kernel⟩, by show xre 176 = _; decide +kernel, Or.inl ⟨rfl, xg6 213 (by decide +kernel) rfl, xg6 214 (by decide +kernel) rfl⟩⟩
theorem xm_177 : xMok 177 := ⟨⟨xg6 219 (by decide +kernel) rfl, xg1 12 (by decide +kernel) rfl⟩, ⟨by decide +kernel, by decide +kernel, by decide +kernel, by decide +kernel, by decide +kernel⟩, by show xre 177 = _; decide +kernel, Or.inl ⟨rfl, xg6 217 (by decide +kernel) rfl, xg6 218 (by decide +kernel) rfl⟩⟩
theorem xm_178 : xMok 178 := ⟨⟨xg6 223 (by decide +kernel) rfl, xg1 12 (by decide +kernel) rfl⟩, ⟨by decide +kernel, by decide +kernel, by decide +kernel, by decide +kernel, by decide +kernel⟩, by show xre 178 = _; decide +kernel, Or.inl ⟨rfl, xg6 221 (by decide +kernel) rfl, xg6 222 (by decide +kernel) rfl⟩⟩
theorem xm_179 : xMok 179 := ⟨⟨xg6 227 (by decide +kernel) rfl, xg1 12 (by decide +kernel) rfl⟩, ⟨by decide +kernel, by decide +kernel, by decide +kernel, by decide +kernel, by decide +kernel⟩, by show xre 179 = _; decide +kernel, Or.inl ⟨rfl, xg6 225 (by decide +kernel) rfl, xg6 226 (by decide +kernel) rfl⟩⟩
theorem xm_180 : xMok 180 := ⟨⟨xg6 231 (by decide +kernel) rfl, xg1 12 (by decide +kernel) rfl⟩, ⟨by decide +kernel, by decide +kernel, by decide +kernel, by decide +kernel, by decide +kernel⟩, by show xre 180 = _; decide +kernel, Or.inl ⟨rfl, xg6 229 (by decide +kernel) rfl, xg6 230 (by decide +kernel) rfl⟩⟩
theorem xm_181 : xMok 181 := ⟨⟨xg6 235 (by decide +kernel) rfl, xg1 12 (by decide +kernel) rfl⟩, ⟨by decide +kernel, by decide +kernel, by decide +kernel, by decide +kernel, by decide +kernel⟩, by show xre 181 = _; decide +kernel, Or.inl ⟨rfl, xg6 234 (by decide +kernel) rfl, xg 45 (by decide +kernel) rfl⟩⟩
theorem xm_182 : xMok 182 := ⟨⟨xg6 239 (by decide +kernel) rfl, xg1 12 (by decide +kernel) rfl⟩, ⟨by decide +kernel, by decide +kernel, by decide +kernel, by decide +kernel, by decide +kernel⟩, by show xre 182 = _; decide +kernel, Or.inl ⟨rfl, xg6 238 (by decide +kernel) rfl, xg 46 (by decide +kernel) rfl⟩⟩
theorem xm_183 : xMok 183 := ⟨⟨xg7 3 (by decide +kernel) rfl, xg1 12 (by decide +kernel) rfl⟩, ⟨by decide +kernel, by decide +kernel, by decide +kernel, by decide +kernel, by decide +kernel⟩, by show xre 183 = _; decide +kernel, Or.inl ⟨rfl, xg7 1 (by decide +kernel) rfl, xg7 2 (by decide +kernel) rfl⟩⟩
theorem xm_184 : xMok 184 := ⟨⟨xg7 7 (by decide +kernel) rfl, xg1 12 (by decide +kernel) rfl⟩, ⟨by decide +kernel, by decide +kernel, by decide +kernel, by decide +kernel, by decide +kernel⟩, by show xre 184 = _; decide +kernel, Or.inl ⟨rfl, xg7 5 (by decide +kernel) rfl, xg7 6 (by decide +kernel) rfl⟩⟩
theorem xm_185 : xMok 185 := ⟨⟨xg7 11 (by decide +kernel) rfl, xg1 12 (by decide +kernel) rfl⟩, ⟨by decide +kernel, by decide +kernel, by decide +kernel, by decide +kernel, by decide +kernel⟩, by show xre 185 = _; decide +kernel, Or.inl ⟨rfl, xg7 9 (by decide +kernel) rfl, xg7 10 (by decide +kernel) rfl⟩⟩
theorem xm_186 : xMok 186 := ⟨⟨xg7 15 (by decide +kernel) rfl, xg1 12 (by decide +kernel) rfl⟩, ⟨by decide +kernel, by decide +kernel, by decide +kernel, by decide +kernel, by decide +kernel⟩, by show xre 186 = _; decide +kernel, Or.inl ⟨rfl, xg7 14 (by decide +kernel) rfl, xg 47 (by decide +kernel) rfl⟩⟩
theorem xm_187 : xMok 187 := ⟨⟨xg7 19 (by decide +kernel) rfl, xg1 12 (by decide +kernel) rfl⟩, ⟨by decide +kernel, by decide +kernel, by decide +kernel, by decide +kernel, by decide +kernel⟩, by show xre 187 = _; decide +kernel, Or.inl ⟨rfl, xg7 18 (by decide +kernel) rfl, xg 48 (by decide +kernel) rfl⟩⟩
theorem xm_188 : xMok 188 := ⟨⟨xg7 22 (by decide +kernel) rfl, xg1 12 (by decide +kernel) rfl⟩, ⟨by decide +kernel, by decide +kernel, by decide +kernel, by decide +kernel, by decide +kernel⟩, by show xre 188 = _; decide +kernel, Or.inr (Or.inl ⟨rfl, xg7 21 (by decide +kernel) rfl⟩)⟩
theorem xm_189 : xMok 189 := ⟨⟨xg7 26 (by decide +kernel) rfl, xg1 12 (by decide +kernel) rfl⟩, ⟨by decide +kernel, by decide +kernel, by decide +kernel, by decide +kernel, by decide +kernel⟩, by show xre 189 = _; decide +kernel, Or.inl ⟨rfl, xg7 25 (by decide +kernel) rfl, xg 49 (by decide +kernel) rfl⟩⟩
theorem xm_190 : xMok 190 := ⟨⟨xg7 30 (by decide +kernel) rfl, xg1 12 (by decide +kernel) rfl⟩, ⟨by decide +kernel, by decide +kernel, by decide +kernel, by decide +kernel, by decide +kernel⟩, by show xre 190 = _; decide +kernel, Or.inl ⟨rfl, xg7 29 (by decide +kernel) rfl, xg 50 (by decide +kernel) rfl⟩⟩
theorem xm_191 : xMok 191 := ⟨⟨xg7 34 (by decide +kernel) rfl, xg1 12 (by decide +kernel) rfl⟩, ⟨by decide +kernel, by decide +kernel, by decide +kernel, by decide +kernel, by decide +kernel⟩, by show xre 191 = _; decide +kernel, Or.inl ⟨rfl, xg7 33 (by decide +kernel) rfl, xg 51 (by decide +kernel) rfl⟩⟩
theorem xm_192 : xMok 192 := ⟨⟨xg7 38 (by decide +kernel) rfl, xg1 12 (by decide +kernel) rfl⟩, ⟨by decide +kernel, by decide +kernel, by decide +kernel, by decide +kernel, by decide +kernel⟩, by show xre 192 = _; decide +kernel, Or.inl ⟨rfl, xg7 37 (by decide +kernel) rfl, xg 52 (by decide +kernel) rfl⟩⟩
theorem xm_193 : xMok 193 := ⟨⟨xg7 42 (by decide +kernel) rfl, xg1 12 (by decide +kernel) rfl⟩, ⟨by decide +kernel, by decide +kernel, by decide +kernel, by decide +kernel, by decide +kernel⟩, by show xre 193 = _; decide +kernel, Or.inl ⟨rfl, xg7 41 (by decide +kernel) rfl, xg 53 (by decide +kernel) rfl⟩⟩
theorem xm_194 : xMok 194 := ⟨⟨xg7 46 (by decide +kernel) rfl, xg1 12 (by decide +kernel) rfl⟩, ⟨by decide +kernel, by decide +kernel, by decide +kernel, by decide +kernel, by decide +kernel⟩, by show xre 194 = _; decide +kernel, Or.inl ⟨rfl, xg7 45 (by decide +kernel) rfl, xg 54 (by decide +kernel) rfl⟩⟩
theorem xm_195 : xMok 195 := ⟨⟨xg7 50 (by decide +kernel) rfl, xg1 12 (by decide +kernel) rfl⟩, ⟨by decide +kernel, by decide +kernel, by decide +kernel, by decide +kernel, by decide +kernel⟩, by show xre 195 = _; decide +kernel, Or.inl ⟨rfl, xg7 49 (by decide +kernel) rfl, xg 55 (by decide +kernel) rfl⟩⟩
theorem xm_196 : xMok 196 := ⟨⟨xg7 54 (by decide +kernel) rfl, xg1 12 (by decide +kernel) rfl⟩, ⟨by decide +kernel, by decide +kernel, by decide +kernel, by decide +kernel, by decide +kernel⟩, by show xre 196 = _; decide +kernel, Or.inl ⟨rfl, xg7 53 (by decide +kernel) rfl, xg 56 (by decide +kernel) rfl⟩⟩
theorem xm_197 : xMok 197 := ⟨⟨xg7 58 (by decide +kernel) rfl, xg1 12 (by decide +kernel) rfl⟩, ⟨by decide +kernel, by decide +kernel, by decide +kernel, by decide +kernel, by decide +kernel⟩, by show xre 197 = _; decide +kernel, Or.inl ⟨rfl, xg7 57 (by decide +kernel) rfl, xg 57 (by decide +kernel) rfl⟩⟩
theorem xm_198 : xMok 198 := ⟨⟨xg7 62 (by decide +kernel) rfl, xg1 12 (by decide +kernel) rfl⟩, ⟨by decide +kernel, by decide +kernel, by decide +kernel, by decide +kernel, by decide +kernel⟩, by show xre 198 = _; decide +kernel, Or.inl ⟨rfl, xg7 61 (by decide +kernel) rfl, xg 58 (by decide +kernel) rfl⟩⟩
theorem xm_199 : xMok 199 := ⟨⟨xg7 66 (by decide +kernel) rfl, xg1 12 (by decide +kernel) rfl⟩, ⟨by decide +kernel, by decide +kernel, by decide +kernel, by decide +kernel, by decide +kernel⟩, by show xre 199 = _; decide +kernel, Or.inl ⟨rfl, xg7 65 (by decide +kernel) rfl, xg 59 (by decide +kernel) rfl⟩⟩
theorem xm_200 : xMok 200 := ⟨⟨xg7 70 (by decide +kernel) rfl, xg1 12 (by decide +kernel) rfl⟩, ⟨by decide +kernel, by decide +kernel, by decide +kernel, by decide +kernel, by decide +kernel⟩, by show xre 200 = _; decide +kernel, Or.inl ⟨rfl, xg7 69 (by decide +kernel) rfl, xg 60 (by decide +kernel) rfl⟩⟩
theorem xm_201 : xMok 201 := ⟨⟨xg7 74 (by decide +kernel) rfl, xg1 12 (by decide +kernel) rfl⟩, ⟨by decide +kernel, by decide +kernel, by decide +kernel, by decide +kernel, by decide +kernel⟩, by show xre 201 = _; decide +kernel, Or.inl ⟨rfl, xg7 73 (by decide +kernel) rfl, xg 61 (by decide +kernel) rfl⟩⟩
theorem xm_202 : xMok 202 := ⟨⟨xg7 78 (by decide +kernel) rfl, xg1 12 (by decide +kernel) rfl⟩, ⟨by decide +kernel, by decide +kernel, by decide +kernel, by decide +kernel, by decide +kernel⟩, by show xre 202 = _; decide +kernel, Or.inl ⟨rfl, xg7 76 (by decide +kernel) rfl, xg7 77 (by decide +kernel) rfl⟩⟩
theorem xm_203 : xMok 203 := ⟨⟨xg7 82 (by decide +kernel) rfl, xg1 12 (by decide +kernel) rfl⟩, ⟨by decide +kernel, by decide +kernel, by decide +kernel, by decide +kernel, by decide +kernel⟩, by show xre 203 = _; decide +kernel, Or.inl ⟨rfl, xg7 80 (by decide +kernel) rfl, xg7 81 (by decide +kernel) rfl⟩⟩
theorem xm_204 : xMok 204 := ⟨⟨xg7 86 (by decide +kernel) rfl, xg1 12 (by decide +kernel) rfl⟩, ⟨by decide +kernel, by decide +kernel, by decide +kernel, by decide +kernel, by decide +kernel⟩, by show xre 204 = _; decide +kernel, Or.inl ⟨rfl, xg7 84 (by decide +kernel) rfl, xg7 85 (by decide +kernel) rfl⟩⟩
theorem xm_205 : xMok 205 := ⟨⟨xg7 90 (by decide +kernel) rfl, xg1 12 (by decide +kernel) rfl⟩, ⟨by decide +kernel, by decide +kernel, by decide +kernel, by decide +kernel, by decide +kernel⟩, by show xre 205 = _; decide +kernel, Or.inl ⟨rfl, xg7 88 (by decide +kernel) rfl, xg7 89 (by decide +kernel) rfl⟩⟩
theorem xm_206 : xMok 206 := ⟨⟨xg7 94 (by decide +kernel) rfl, xg1 12 (by decide +kernel) rfl⟩, ⟨by decide +kernel, by decide +kernel, by decide +kernel, by decide +kernel, by decide +kernel⟩, by show xre 206 = _; decide +kernel, Or.inl ⟨rfl, xg7 92 (by decide +kernel) rfl, xg7 93 (by decide +kernel) rfl⟩⟩
theorem xm_207 : xMok 207 := ⟨⟨xg7 98 (by decide +kernel) rfl, xg1 12 (by decide +kernel) rfl⟩, ⟨by decide +kernel, by decide +kernel, by decide +kernel, by decide +kernel, by decide +kernel⟩, by show xre 207 = _; decide +kernel, Or.inl ⟨rfl, xg7 96 (by decide +kernel) rfl, xg7 97 (by decide +kernel) rfl⟩⟩
theorem xm_208 : xMok 208 := ⟨⟨xg7 102 (by decide +kernel) rfl, xg1 12 (by decide +kernel) rfl⟩, ⟨by decide +kernel, by decide +kernel, by decide +kernel, by decide +kernel, by decide +kernel⟩, by show xre 208 = _; decide +kernel, Or.inl ⟨rfl, xg7 100 (by decide +kernel) rfl, xg7 101 (by decide +kernel) rfl⟩⟩
theorem xm_209 : xMok 209 := ⟨⟨xg7 106 (by decide +kernel) rfl, xg1 12 (by decide +kernel) rfl⟩, ⟨by decide +kernel, by decide +kernel, by decide +kernel, by decide +kernel, by decide +kernel⟩, by show xre 209 = _; decide +kernel, Or.inl ⟨rfl, xg7 104 (by decide +kernel) rfl, xg7 105 (by decide +kernel) rfl⟩⟩
theorem xm_210 : xMok 210 := ⟨⟨xg7 110 (by decide +kernel) rfl, xg1 12 (by decide +kernel) rfl⟩, ⟨by decide +kernel, by decide +kernel, by decide +kernel, by decide +kernel, by decide +kernel⟩, by show xre 210 = _; decide +kernel, Or.inl ⟨rfl, xg7 108 (by decide +kernel) rfl, xg7 109 (by decide +kernel) rfl⟩⟩
theorem xm_211 : xMok 211 := ⟨⟨xg7 114 (by decide +kernel) rfl, xg1 12 (by decide +kernel) rfl⟩, ⟨by decide +kernel, by decide +kernel, by decide +kernel, by decide +kernel, by decide +kernel⟩, by show xre 211 = _; decide +kernel, Or.inl ⟨rfl, xg7 112 (by decide +kernel) rfl, xg7 113 (by decide +kernel) rfl⟩⟩
theorem xm_212 : xMok 212 := ⟨⟨xg7 118 (by decide +kernel) rfl, xg1 12 (by decide +kernel) rfl⟩, ⟨by decide +kernel, by decide +kernel, by decide +kernel, by decide +kernel, by decide +kernel⟩, by show xre 212 = _; decide +kernel, Or.inl ⟨rfl, xg7 116 (by decide +kernel) rfl, xg7 117 (by decide +kernel) rfl⟩⟩
theorem xm_213 : xMok 213 := ⟨⟨xg7 122 (by decide +kernel) rfl, xg1 12 (by decide +kernel) rfl⟩, ⟨by decide +kernel, by decide +kernel, by decide +kernel, by decide +kernel, by decide +kernel⟩, by show xre 213 = _; decide +kernel, Or.inl ⟨rfl, xg7 120 (by decide +kernel) rfl, xg7 121 (by decide +kernel) rfl⟩⟩
theorem xm_214 : xMok 214 := ⟨⟨xg7 126 (by decide +kernel) rfl, xg1 12 (by decide +kernel) rfl⟩, ⟨by decide +kernel, by decide +kernel, by decide +kernel, by decide +kernel, by decide +kernel⟩, by show xre 214 = _; decide +kernel, Or.inl ⟨rfl, xg7 124 (by decide +kernel) rfl, xg7 125 (by decide +kernel) rfl⟩⟩
theorem xm_215 : xMok 215 := ⟨⟨xg7 130 (by decide +kernel) rfl, xg1 12 (by decide +kernel) rfl⟩, ⟨by decide +kernel, by decide +kernel, by decide +kernel, by decide +kernel, by decide +kernel⟩, by show xre 215 = _; decide +kernel, Or.inl ⟨rfl, xg7 128 (by decide +kernel) rfl, xg7 129 (by decide +kernel) rfl⟩⟩
theorem xm_216 : xMok 216 := ⟨⟨xg7 134 (by decide +kernel) rfl, xg1 12 (by decide +kernel) rfl⟩, ⟨by decide +kernel, by decide +kernel, by decide +kernel, by decide +kernel, by decide +kernel⟩, by show xre 216 = _; decide +kernel, Or.inl ⟨rfl, xg7 133 (by decide +kernel) rfl, xg 62 (by decide +kernel) rfl⟩⟩
theorem xm_217 : xMok 217 := ⟨⟨xg7 138 (by decide +kernel) rfl, xg1 12 (by decide +kernel) rfl⟩, ⟨by decide +kernel, by decide +kernel, by decide +kernel, by decide +kernel, by decide +kernel⟩, by show xre 217 = _; decide +kernel, Or.inl ⟨rfl, xg7 136 (by decide +kernel) rfl, xg7 137 (by decide +kernel) rfl⟩⟩
theorem xm_218 : xMok 218 := ⟨⟨xg7 143 (by decide +kernel) rfl, xg1 12 (by decide +kernel) rfl⟩, ⟨by decide +kernel, by decide +kernel, by decide +kernel, by decide +kernel, by decide +kernel⟩, by show xre 218 = _; decide +kernel, Or.inl ⟨rfl, xg7 141 (by decide +kernel) rfl, xg7 142 (by decide +kernel) rfl⟩⟩
theorem xm_219 : xMok 219 := ⟨⟨xg7 147 (by decide +kernel) rfl, xg1 12 (by decide +kernel) rfl⟩, ⟨by decide +kernel, by decide +kernel, by decide +kernel, by decide +kernel, by decide +kernel⟩, by show xre 219 = _; decide +kernel, Or.inl ⟨rfl, xg7 146 (by decide +kernel) rfl, xg 63 (by decide +kernel) rfl⟩⟩
theorem xm_220 : xMok 220 := ⟨⟨xg7 151 (by decide +kernel) rfl, xg1 12 (by decide +kernel) rfl⟩, ⟨by decide +kernel, by decide +kernel, by decide +kernel, by decide +kernel, by decide +kernel⟩, by show xre 220 = _; decide +kernel, Or.inl ⟨rfl, xg7 149 (by decide +kernel) rfl, xg7 150 (by decide +kernel) rfl⟩⟩
theorem xm_221 : xMok 221 := ⟨⟨xg7 155 (by decide +kernel) rfl, xg1 12 (by decide +kernel) rfl⟩, ⟨by decide +kernel, by decide +kernel, by decide +kernel, by decide +kernel, by decide +kernel⟩, by show xre 221 = _; decide +kernel, Or.inl ⟨rfl, xg7 153 (by decide +kernel) rfl, xg7 154 (by decide +kernel) rfl⟩⟩
theorem xm_222 : xMok 222 := ⟨⟨xg7 159 (by decide +kernel) rfl, xg1 12 (by decide +kernel) rfl⟩, ⟨by decide +kernel, by decide +kernel, by decide +kernel, by decide +kernel, by decide +kernel⟩, by show xre 222 = _; decide +kernel, Or.inl ⟨rfl, xg7 157 (by decide +kernel) rfl, xg7 158 (by decide +kernel) rfl⟩⟩
theorem xm_223 : xMok 223 := ⟨⟨xg7 163 (by decide +kernel) rfl, xg1 12 (by decide +kernel) rfl⟩, ⟨by decide +kernel, by decide +kernel, by decide +kernel, by decide +kernel, by decide +kernel⟩, by show xre 223 = _; decide +kernel, Or.inl ⟨rfl, xg7 161 (by decide +kernel) rfl, xg7 162 (by decide +kernel) rfl⟩⟩
theorem xm_224 : xMok 224 := ⟨⟨xg7 167 (by decide +kernel) rfl, xg1 12 (by decide +kernel) rfl⟩, ⟨by decide +kernel, by decide +kernel, by decide +kernel, by decide +kernel, by decide +kernel⟩, by show xre 224 = _; decide +kernel, Or.inl ⟨rfl, xg7 165 (by decide +kernel) rfl, xg7 166 (by decide +kernel) rfl⟩⟩
theorem xm_225 : xMok 225 := ⟨⟨xg7 171 (by decide +kernel) rfl, xg1 12 (by decide +kernel) rfl⟩, ⟨by decide +kernel, by decide +kernel, by decide +kernel, by decide +kernel, by decide +kernel⟩, by show xre 225 = _; decide +kernel, Or.inl ⟨rfl, xg7 169 (by decide +kernel) rfl, xg7 170 (by decide +kernel) rfl⟩⟩
theorem xm_226 : xMok 226 := ⟨⟨xg7 175 (by decide +kernel) rfl, xg1 12 (by decide +kernel) rfl⟩, ⟨by decide +kernel, by decide +kernel, by decide +kernel, by decide +kernel, by decide +kernel⟩, by show xre 226 = _; decide +kernel, Or.inl ⟨rfl, xg7 174 (by decide +kernel) rfl, xg 64 (by decide +kernel) rfl⟩⟩
theorem xm_227 : xMok 227 := ⟨⟨xg7 179 (by decide +kernel) rfl, xg1 12 (by decide +kernel) rfl⟩, ⟨by decide +kernel, by decide +kernel, by decide +kernel, by decide +kernel, by decide +kernel⟩, by show xre 227 = _; decide +kernel, Or.inl ⟨rfl, xg7 177 (by decide +kernel) rfl, xg7 178 (by decide +kernel) rfl⟩⟩
theorem xm_228 : xMok 228 := ⟨⟨xg7 184 (by decide +kernel) rfl, xg1 12 (by decide +kernel) rfl⟩, ⟨by decide +kernel, by decide +kernel, by decide +kernel, by decide +kernel, by decide +kernel⟩, by show xre 228 = _; decide +kernel, Or.inl ⟨rfl, xg7 183 (by decide +kernel) rfl, xg 65 (by decide +kernel) rfl⟩⟩
theorem xm_229 : xMok 229 := ⟨⟨xg7 189 (by decide +kernel) rfl, xg1 12 (by decide +kernel) rfl⟩, ⟨by decide +kernel, by decide +kernel, by decide +kernel, by decide +kernel, by decide +kernel⟩, by show xre 229 = _; decide +kernel, Or.inl ⟨rfl, xg7 188 (by decide +kernel) rfl, xg 66 (by decide +kernel) rfl⟩⟩
theorem xm_230 : xMok 230 := ⟨⟨xg7 193 (by decide +kernel) rfl, xg1 12 (by decide +kernel) rfl⟩, ⟨by decide +kernel, by decide +kernel, by decide +kernel, by decide +kernel, by decide +kernel⟩, by show xre 230 = _; decide +kernel, Or.inl ⟨rfl, xg7 192 (by decide +kernel) rfl, xg 67 (by decide +kernel) rfl⟩⟩
theorem xm_231 : xMok 231 := ⟨⟨xg7 196 (by decide +kernel) rfl, xg1 12 (by decide +kernel) rfl⟩, ⟨by decide +kernel, by decide +kernel, by decide +kernel, by decide +kernel, by decide +kernel⟩, by show xre 231 = _; decide +kernel, Or.inr (Or.inl ⟨rfl, xg7 195 (by decide +kernel) rfl⟩)⟩
theorem xm_232 : xMok 232 := ⟨⟨xg4 211 (by decide +kernel) rfl, xg1 0 (by decide +kernel) rfl⟩, ⟨by decide +kernel, by decide +kernel, by decide +kernel, by decide +kernel, by decide +kernel⟩, by show xre 232 = _; decide +kernel, Or.inr (Or.inl ⟨rfl, xg4 210 (by decide +kernel) rfl⟩)⟩
theorem xm_233 : xMok 233 := ⟨⟨xg5 0 (by decide +kernel) rfl, xg1 0 (by decide +kernel) rfl⟩, ⟨by decide +kernel, by decide +kernel, by decide +kernel, by decide +kernel, by decide +kernel⟩, by show xre 233 = _; decide +kernel, Or.inr (Or.inl ⟨rfl, xg4 239 (by decide +kernel) rfl⟩)⟩
theorem xm_234 : xMok 234 := ⟨⟨xg5 4 (by decide +kernel) rfl, xg1 0 (by decide +kernel) rfl⟩, ⟨by decide +kernel, by decide +kernel, by decide +kernel, by decide +kernel, by decide +kernel⟩, by show xre 234 = _; decide +kernel, Or.inr (Or.inl ⟨rfl, xg5 3 (by decide +kernel) rfl⟩)⟩
theorem xm_235 : xMok 235 := ⟨⟨xg5 8 (by decide +kernel) rfl, xg1 0 (by decide +kernel) rfl⟩, ⟨by decide +kernel, by decide +kernel, by decide +kernel, by decide +kernel, by decide +kernel⟩, by show xre 235 = _; decide +kernel, Or.inr (Or.inl ⟨rfl, xg5 7 (by decide +kernel) rfl⟩)⟩
theorem xm_236 : xMok 236 := ⟨⟨xg5 12 (by decide +kernel) rfl, xg1 0 (by decide +kernel) rfl⟩, ⟨by decide +kernel, by decide +kernel, by decide +kernel, by decide +kernel, by decide +kernel⟩, by show xre 236 = _; decide +kernel, Or.inr (Or.inl ⟨rfl, xg5 11 (by decide +kernel) rfl⟩)⟩
theorem xm_237 : xMok 237 := ⟨⟨xg5 16 (by decide +kernel) rfl, xg1 0 (by decide +kernel) rfl⟩, ⟨by decide +kernel, by decide +kernel, by decide +kernel, by decide +kernel, by decide +kernel⟩, by show xre 237 = _; decide +kernel, Or.inr (Or.inl ⟨rfl, xg5 15 (by decide +kernel) rfl⟩)⟩
theorem xm_238 : xMok 238 := ⟨⟨xg5 20 (by decide +kernel) rfl, xg1 0 (by decide +kernel) rfl⟩, ⟨by decide +kernel, by decide +kernel, by decide +kernel, by decide +kernel, by decide +kernel⟩, by show xre 238 = _; decide +kernel, Or.inr (Or.inl ⟨rfl, xg5 19 (by decide +kernel) rfl⟩)⟩
theorem xm_239 : xMok 239 := ⟨⟨xg5 39 (by decide +kernel) rfl, xg1 0 (by decide +kernel) rfl⟩, ⟨by decide +kernel, by decide +kernel, by decide +kernel, by decide +kernel, by decide +kernel⟩, by show xre 239 = _; decide +kernel, Or.inr (Or.inl ⟨rfl, xg5 38 (by decide +kernel) rfl⟩)⟩
theorem xm_240 : xMok 240 := ⟨⟨xg5 47 (by decide +kernel) rfl, xg1 0 (by decide +kernel) rfl⟩, ⟨by decide +kernel, by decide +kernel, by decide +kernel, by decide +kernel, by decide +kernel⟩, by show xre 240 = _; decide +kernel, Or.inr (Or.inl ⟨rfl, xg5 46 (by decide +kernel) rfl⟩)⟩
theorem xm_241 : xMok 241 := ⟨⟨xg5 55 (by decide +kernel) rfl, xg1 0 (by decide +kernel) rfl⟩, ⟨by decide +kernel, by decide +kernel, by decide +kernel, by decide +kernel, by decide +kernel⟩, by show xre 241 = _; decide +kernel, Or.inr (Or.inl ⟨rfl, xg5 54 (by decide +kernel) rfl⟩)⟩
theorem xm_242 : xMok 242 := ⟨⟨xg5 63 (by decide +kernel) rfl, xg1 0 (by decide +kernel) rfl⟩, ⟨by decide +kernel, by decide +kernel, by decide +kernel, by decide +kernel, by decide +kernel⟩, by show xre 242 = _; decide +kernel, Or.inr (Or.inl ⟨rfl, xg5 62 (by decide +kernel) rfl⟩)⟩
theorem xm_243 : xMok 243 := ⟨⟨xg5 71 (by decide +kernel) rfl, xg1 0 (by decide +kernel) rfl⟩, ⟨by decide +kernel, by decide +kernel, by decide +kernel, by decide +kernel, by decide +kernel⟩, by show xre 243 = _; decide +kernel, Or.inr (Or.inl ⟨rfl, xg5 70 (by decide +kernel) rfl⟩)⟩
theorem xm_244 : xMok 244 := ⟨⟨xg5 83 (by decide +kernel) rfl, xg1 0 (by decide +kernel) rfl⟩, ⟨by decide +kernel, by decide +kernel, by decide +kernel, by decide +kernel, by decide +kernel⟩, by show xre 244 = _; decide +kernel, Or.inr (Or.inl ⟨rfl, xg5 82 (by decide +kernel) rfl⟩)⟩
theorem xm_245 : xMok 245 := ⟨⟨xg5 90 (by decide +kernel) rfl, xg1 0 (by decide +kernel) rfl⟩, ⟨by decide +kernel, by decide +kernel, by decide +kernel, by decide +kernel, by decide +kernel⟩, by show xre 245 = _; decide +kernel, Or.inr (Or.inl ⟨rfl, xg5 89 (by decide +kernel) rfl⟩)⟩
theorem xm_246 : xMok 246 := ⟨⟨xg5 94 (by decide +kernel) rfl, xg1 0 (by decide +kernel) rfl⟩, ⟨by decide +kernel, by decide +kernel, by decide +kernel, by decide +kernel, by decide +kernel⟩, by show xre 246 = _; decide +kernel, Or.inr (Or.inl ⟨rfl, xg5 93 (by decide +kernel) rfl⟩)⟩
theorem xm_247 : xMok 247 := ⟨⟨xg5 101 (by decide +kernel) rfl, xg1 0 (by decide +kernel) rfl⟩, ⟨by decide +kernel, by decide +kernel, by decide +kernel, by decide +kernel, by decide +kernel⟩, by show xre 247 = _; decide +kernel, Or.inr (Or.inl ⟨rfl, xg5 100 (by decide +kernel) rfl⟩)⟩
theorem xm_248 : xMok 248 := ⟨⟨xg5 109 (by decide +kernel) rfl, xg1 0 (by decide +kernel) rfl⟩, ⟨by decide +kernel, by decide +kernel, by decide +kernel, by decide +kernel, by decide +kernel⟩, by show xre 248 = _; decide +kernel, Or.inr (Or.inl ⟨rfl, xg5 108 (by decide +kernel) rfl⟩)⟩
theorem xm_249 : xMok 249 := ⟨⟨xg5 113 (by decide +kernel) rfl, xg1 0 (by decide +kernel) rfl⟩, ⟨by decide +kernel, by decide +kernel, by decide +kernel, by decide +kernel, by decide +kernel⟩, by show xre 249 = _; decide +kernel, Or.inr (Or.inl ⟨rfl, xg5 112 (by decide +kernel) rfl⟩)⟩
theorem xm_250 : xMok 250 := ⟨⟨xg5 117 (by decide +kernel) rfl, xg1 0 (by decide +kernel) rfl⟩, ⟨by decide +kernel, by decide +kernel, by decide +kernel, by decide +kernel, by decide +kernel⟩, by show xre 250 = _; decide +kernel, Or.inr (Or.inl ⟨rfl, xg5 116 (by decide +kernel) rfl⟩)⟩
theorem xm_251 : xMok 251 := ⟨⟨xg5 121 (by decide +kernel) rfl, xg1 0 (by decide +kernel) rfl⟩, ⟨by decide +kernel, by decide +kernel, by decide +kernel, by decide +kernel, by decide +kernel⟩, by show xre 251 = _; decide +kernel, Or.inr (Or.inl ⟨rfl, xg5 120 (by decide +kernel) rfl⟩)⟩
theorem xm_252 : xMok 252 := ⟨⟨xg5 133 (by decide +kernel) rfl, xg1 0 (by decide +kernel) rfl⟩, ⟨by decide +kernel, by decide +kernel, by decide +kernel, by decide +kernel, by decide +kernel⟩, by show xre 252 = _; decide +kernel, Or.inr (Or.inl ⟨rfl, xg5 132 (by decide +kernel) rfl⟩)⟩
theorem xm_253 : xMok 253 := ⟨⟨xg5 141 (by decide +kernel) rfl, xg1 0 (by decide +kernel) rfl⟩, ⟨by decide +kernel, by decide +kernel, by decide +kernel, by decide +kernel, by decide +kernel⟩, by show xre 253 = _; decide +kernel, Or.inr (Or.inl ⟨rfl, xg5 140 (by decide +kernel) rfl⟩)⟩
theorem xm_254 : xMok 254 := ⟨⟨xg5 145 (by decide +kernel) rfl, xg1 0 (by decide +kernel) rfl⟩, ⟨by decide +kernel, by decide +kernel, by decide +kernel, by decide +kernel, by decide +kernel⟩, by show xre 254 = _; decide +kernel, Or.inr (Or.inl ⟨rfl, xg5 144 (by decide +kernel) rfl⟩)⟩
theorem xm_255 : xMok 255 := ⟨⟨xg5 149 (by decide +kernel) rfl, xg1 0 (by decide +kernel) rfl⟩, ⟨by decide +kernel, by decide +kernel, by decide +kernel, by decide +kernel, by decide +kernel⟩, by show xre 255 = _; decide +kernel, Or.inr (Or.inl ⟨rfl, xg5 148 (by decide +kernel) rfl⟩)⟩
theorem xm_256 : xMok 256 := ⟨⟨xg5 153 (by decide +kernel) rfl, xg1 0 (by decide +kernel) rfl⟩, ⟨by decide +kernel, by decide +kernel, by decide +kernel, by decide +kernel, by decide +kernel⟩, by show xre 256 = _; decide +kernel, Or.inr (Or.inl ⟨rfl, xg5 152 (by decide +kernel) rfl⟩)⟩
theorem xm_257 : xMok 257 := ⟨⟨xg5 157 (by decide +kernel) rfl, xg1 0 (by decide +kernel) rfl⟩, ⟨by decide +kernel, by decide +kernel, by decide +kernel, by decide +kernel, by decide +kernel⟩, by show xre 257 = _; decide +kernel, Or.inr (Or.inl ⟨rfl, xg5 156 (by decide +kernel) rfl⟩)⟩
theorem xm_258 : xMok 258 := ⟨⟨xg5 161 (by decide +kernel) rfl, xg1 0 (by decide +kernel) rfl⟩, ⟨by decide +kernel, by decide +kernel, by decide +kernel, by decide +kernel, by decide +kernel⟩, by show xre 258 = _; decide +kernel, Or.inr (Or.inl ⟨rfl, xg5 160 (by decide +kernel) rfl⟩)⟩
theorem xm_259 : xMok 259 := ⟨⟨xg5 168 (by decide +kernel) rfl, xg1 0 (by decide +kernel) rfl⟩, ⟨by decide +kernel, by decide +kernel, by decide +kernel, by decide +kernel, by decide +kernel⟩, by show xre 259 = _; decide +kernel, Or.inr (Or.inl ⟨rfl, xg5 167 (by decide +kernel) rfl⟩)⟩
theorem xm_260 : xMok 260 := ⟨⟨xg5 180 (by decide +kernel) rfl, xg1 0 (by decide +kernel) rfl⟩, ⟨by decide +kernel, by decide +kernel, by decide +kernel, by decide +kernel, by decide +kernel⟩, by show xre 260 = _; decide +kernel, Or.inr (Or.inl ⟨rfl, xg5 179 (by decide +kernel) rfl⟩)⟩
def xMs_l0 : List (Nat) := [0, 1, 2, 3, 4, 5, 6, 7, 8, 9, 10, 11, 12, 13, 14, 15]
theorem xMs_b0 : ∀ q ∈ xMs_l0, xMok q := List.forall_mem_cons.mpr ⟨xm_0, List.forall_mem_cons.mpr ⟨xm_1, List.forall_mem_cons.mpr ⟨xm_2, List.forall_mem_cons.mpr ⟨xm_3, List.forall_mem_cons.mpr ⟨xm_4, List.forall_mem_cons.mpr ⟨xm_5, List.forall_mem_cons.mpr ⟨xm_6, List.forall_mem_cons.mpr ⟨xm_7, List.forall_mem_cons.mpr ⟨xm_8, List.forall_mem_cons.mpr ⟨xm_9, List.forall_mem_cons.mpr ⟨xm_10, List.forall_mem_cons.mpr ⟨xm_11, List.forall_mem_cons.mpr ⟨xm_12, List.forall_mem_cons.mpr ⟨xm_13, List.forall_mem_cons.mpr ⟨xm_14, List.forall_mem_cons.mpr ⟨xm_15, fun _ h => absurd h List.not_mem_nil⟩⟩⟩⟩⟩⟩⟩⟩⟩⟩⟩⟩⟩⟩⟩⟩
def xMs_l16 : List (Nat) := [16, 17, 18, 19, 20, 21, 22, 23, 24, 25, 26, 27, 28, 29, 30, 31]
theorem xMs_b16 : ∀ q ∈ xMs_l16, xMok q := List.forall_mem_cons.mpr ⟨xm_16, List.forall_mem_cons.mpr ⟨xm_17, List.forall_mem_cons.mpr ⟨xm_18, List.forall_mem_cons.mpr ⟨xm_19, List.forall_mem_cons.mpr ⟨xm_20, List.forall_mem_cons.mpr ⟨xm_21, List.forall_mem_cons.mpr ⟨xm_22, List.forall_mem_cons.mpr ⟨xm_23, List.forall_mem_cons.mpr ⟨xm_24, List.forall_mem_cons.mpr ⟨xm_25, List.forall_mem_cons.mpr ⟨xm_26, List.forall_mem_cons.mpr ⟨xm_27, List.forall_mem_cons.mpr ⟨xm_28, List.forall_mem_cons.mpr ⟨xm_29, List.forall_mem_cons.mpr ⟨xm_30, List.forall_mem_cons.mpr ⟨xm_31, fun _ h => absurd h List.not_mem_nil⟩⟩⟩⟩⟩⟩⟩⟩⟩⟩⟩⟩⟩⟩⟩⟩
def xMs_l32 : List (Nat) := [32, 33, 34, 35, 36, 37, 38, 39, 40, 41, 42, 43, 44, 45, 46, 47]
theorem xMs_b32 : ∀ q ∈ xMs_l32, xMok q := List.forall_mem_cons.mpr ⟨xm_32, List.forall_mem_cons.mpr ⟨xm_33, List.forall_mem_cons.mpr ⟨xm_34, List.forall_mem_cons.mpr ⟨xm_35, List.forall_mem_cons.mpr ⟨xm_36, List.forall_mem_cons.mpr ⟨xm_37, List.forall_mem_cons.mpr ⟨xm_38, List.forall_mem_cons.mpr ⟨xm_39, List.forall_mem_cons.mpr ⟨xm_40, List.forall_mem_cons.mpr ⟨xm_41, List.forall_mem_cons.mpr ⟨xm_42, List.forall_mem_cons.mpr ⟨xm_43, List.forall_mem_cons.mpr ⟨xm_44, List.forall_mem_cons.mpr ⟨xm_45, List.forall_mem_cons.mpr ⟨xm_46, List.forall_mem_cons.mpr ⟨xm_47, fun _ h => absurd h List.not_mem_nil⟩⟩⟩⟩⟩⟩⟩⟩⟩⟩⟩⟩⟩⟩⟩⟩
def xMs_l48 : List (Nat) := [48, 49, 50, 51, 52, 53, 54, 55, 56, 57, 58, 59, 60, 61, 62, 63]
theorem xMs_b48 : ∀ q ∈ xMs_l48, xMok q := List.forall_mem_cons.mpr ⟨xm_48, List.forall_mem_cons.mpr ⟨xm_49, List.forall_mem_cons.mpr ⟨xm_50, List.forall_mem_cons.mpr ⟨xm_51, List.forall_mem_cons.mpr ⟨xm_52, List.forall_mem_cons.mpr ⟨xm_53, List.forall_mem_cons.mpr ⟨xm_54, List.forall_mem_cons.mpr ⟨xm_55, List.forall_mem_cons.mpr ⟨xm_56, List.forall_mem_cons.mpr ⟨xm_57, List.forall_mem_cons.mpr ⟨xm_58, List.forall_mem_cons.mpr ⟨xm_59, List.forall_mem_cons.mpr ⟨xm_60, List.forall_mem_cons.mpr ⟨xm_61, List.forall_mem_cons.mpr ⟨xm_62, List.forall_mem_cons.mpr ⟨xm_63, fun _ h => absurd h List.not_mem_nil⟩⟩⟩⟩⟩⟩⟩⟩⟩⟩⟩⟩⟩⟩⟩⟩
def xMs_l64 : List (Nat) := [64, 65, 66, 67, 68, 69, 70, 71, 72, 73, 74, 75, 76, 77, 78, 79]
theorem xMs_b64 : ∀ q ∈ xMs_l64, xMok q := List.forall_mem_cons.mpr ⟨xm_64, List.forall_mem_cons.mpr ⟨xm_65, List.forall_mem_cons.mpr ⟨xm_66, List.forall_mem_cons.mpr ⟨xm_67, List.forall_mem_cons.mpr ⟨xm_68, List.forall_mem_cons.mpr ⟨xm_69, List.forall_mem_cons.mpr ⟨xm_70, List.forall_mem_cons.mpr ⟨xm_71, List.forall_mem_cons.mpr ⟨xm_72, List.forall_mem_cons.mpr ⟨xm_73, List.forall_mem_cons.mpr ⟨xm_74, List.forall_mem_cons.mpr ⟨xm_75, List.forall_mem_cons.mpr ⟨xm_76, List.forall_mem_cons.mpr ⟨xm_77, List.forall_mem_cons.mpr ⟨xm_78, List.forall_mem_cons.mpr ⟨xm_79, fun _ h => absurd h List.not_mem_nil⟩⟩⟩⟩⟩⟩⟩⟩⟩⟩⟩⟩⟩⟩⟩⟩
def xMs_l80 : List (Nat) := [80, 81, 82, 83, 84, 85, 86, 87, 88, 89, 90, 91, 92, 93, 94, 95]
theorem xMs_b80 : ∀ q ∈ xMs_l80, xMok q := List.forall_mem_cons.mpr ⟨xm_80, List.forall_mem_cons.mpr ⟨xm_81, List.forall_mem_cons.mpr ⟨xm_82, List.forall_mem_cons.mpr ⟨xm_83, List.forall_mem_cons.mpr ⟨xm_84, List.forall_mem_cons.mpr ⟨xm_85, List.forall_mem_cons.mpr ⟨xm_86, List.forall_mem_cons.mpr ⟨xm_87, List.forall_mem_cons.mpr ⟨xm_88, List.forall_mem_cons.mpr ⟨xm_89, List.forall_mem_cons.mpr ⟨xm_90, List.forall_mem_cons.mpr ⟨xm_91, List.forall_mem_cons.mpr ⟨xm_92, List.forall_mem_cons.mpr ⟨xm_93, List.forall_mem_cons.mpr ⟨xm_94, List.forall_mem_cons.mpr ⟨xm_95, fun _ h => absurd h List.not_mem_nil⟩⟩⟩⟩⟩⟩⟩⟩⟩⟩⟩⟩⟩⟩⟩⟩
def xMs_l96 : List (Nat) := [96, 97, 98, 99, 100, 101, 102, 103, 104, 105, 106, 107, 108, 109, 110, 111]
theorem xMs_b96 : ∀ q ∈ xMs_l96, xMok q := List.forall_mem_cons.mpr ⟨xm_96, List.forall_mem_cons.mpr ⟨xm_97, List.forall_mem_cons.mpr ⟨xm_98, List.forall_mem_cons.mpr ⟨xm_99, List.forall_mem_cons.mpr ⟨xm_100, List.forall_mem_cons.mpr ⟨xm_101, List.forall_mem_cons.mpr ⟨xm_102, List.forall_mem_cons.mpr ⟨xm_103, List.forall_mem_cons.mpr ⟨xm_104, List.forall_mem_cons.mpr ⟨xm_105, List.forall_mem_cons.mpr ⟨xm_106, List.forall_mem_cons.mpr ⟨xm_107, List.forall_mem_cons.mpr ⟨xm_108, List.forall_mem_cons.mpr ⟨xm_109, List.forall_mem_cons.mpr ⟨xm_110, List.forall_mem_cons.mpr ⟨xm_111, fun _ h => absurd h List.not_mem_nil⟩⟩⟩⟩⟩⟩⟩⟩⟩⟩⟩⟩⟩⟩⟩⟩
def xMs_l112 : List (Nat) := [112, 113, 114, 115, 116, 117, 118, 119, 120, 121, 122, 123, 124, 125, 126, 127]
theorem xMs_b112 : ∀ q ∈ xMs_l112, xMok q := List.forall_mem_cons.mpr ⟨xm_112, List.forall_mem_cons.mpr ⟨xm_113, List.forall_mem_cons.mpr ⟨xm_114, List.forall_mem_cons.mpr ⟨xm_115, List.forall_mem_cons.mpr ⟨xm_116, List.forall_mem_cons.mpr ⟨xm_117, List.forall_mem_cons.mpr ⟨xm_118, List.forall_mem_cons.mpr ⟨xm_119, List.forall_mem_cons.mpr ⟨xm_120, List.forall_mem_cons.mpr ⟨xm_121, List.forall_mem_cons.mpr ⟨xm_122, List.forall_mem_cons.mpr ⟨xm_123, List.forall_mem_cons.mpr ⟨xm_124, List.forall_mem_cons.mpr ⟨xm_125, List.forall_mem_cons.mpr ⟨xm_126, List.forall_mem_cons.mpr ⟨xm_127, fun _ h => absurd h List.not_mem_nil⟩⟩⟩⟩⟩⟩⟩⟩⟩⟩⟩⟩⟩⟩⟩⟩
def xMs_l128 : List (Nat) := [128, 129, 130, 131, 132, 133, 134, 135, 136, 137, 138, 139, 140, 141, 142, 143]
theorem xMs_b128 : ∀ q ∈ xMs_l128, xMok q := List.forall_mem_cons.mpr ⟨xm_128, List.forall_mem_cons.mpr ⟨xm_129, List.forall_mem_cons.mpr ⟨xm_130, List.forall_mem_cons.mpr ⟨xm_131, List.forall_mem_cons.mpr ⟨xm_132, List.forall_mem_cons.mpr ⟨xm_133, List.forall_mem_cons.mpr ⟨xm_134, List.forall_mem_cons.mpr ⟨xm_135, List.forall_mem_cons.mpr ⟨xm_136, List.forall_mem_cons.mpr ⟨xm_137, List.forall_mem_cons.mpr ⟨xm_138, List.forall_mem_cons.mpr ⟨xm_139, List.forall_mem_cons.mpr ⟨xm_140, List.forall_mem_cons.mpr ⟨xm_141, List.forall_mem_cons.mpr ⟨xm_142, List.forall_mem_cons.mpr ⟨xm_143, fun _ h => absurd h List.not_mem_nil⟩⟩⟩⟩⟩⟩⟩⟩⟩⟩⟩⟩⟩⟩⟩⟩
def xMs_l144 : List (Nat) := [144, 145, 146, 147, 148, 149, 150, 151, 152, 153, 154, 155, 156, 157, 158, 159]
theorem xMs_b144 : ∀ q ∈ xMs_l144, xMok q := List.forall_mem_cons.mpr ⟨xm_144, List.forall_mem_cons.mpr ⟨xm_145, List.forall_mem_cons.mpr ⟨xm_146, List.forall_mem_cons.mpr ⟨xm_147, List.forall_mem_cons.mpr ⟨xm_148, List.forall_mem_cons.mpr ⟨xm_149, List.forall_mem_cons.mpr ⟨xm_150, List.forall_mem_cons.mpr ⟨xm_151, List.forall_mem_cons.mpr ⟨xm_152, List.forall_mem_cons.mpr ⟨xm_153, List.forall_mem_cons.mpr ⟨xm_154, List.forall_mem_cons.mpr ⟨xm_155, List.forall_mem_cons.mpr ⟨xm_156, List.forall_mem_cons.mpr ⟨xm_157, List.forall_mem_cons.mpr ⟨xm_158, List.forall_mem_cons.mpr ⟨xm_159, fun _ h => absurd h List.not_mem_nil⟩⟩⟩⟩⟩⟩⟩⟩⟩⟩⟩⟩⟩⟩⟩⟩
def xMs_l160 : List (Nat) := [160, 161, 162, 163, 164, 165, 166, 167, 168, 169, 170, 171, 172, 173, 174, 175]
theorem xMs_b160 : ∀ q ∈ xMs_l160, xMok q := List.forall_mem_cons.mpr ⟨xm_160, List.forall_mem_cons.mpr ⟨xm_161, List.forall_mem_cons.mpr ⟨xm_162, List.forall_mem_cons.mpr ⟨xm_163, List.forall_mem_cons.mpr ⟨xm_164, List.forall_mem_cons.mpr ⟨xm_165, List.forall_mem_cons.mpr ⟨xm_166, List.forall_mem_cons.mpr ⟨xm_167, List.forall_mem_cons.mpr ⟨xm_168, List.forall_mem_cons.mpr ⟨xm_169, List.forall_mem_cons.mpr ⟨xm_170, List.forall_mem_cons.mpr ⟨xm_171, List.forall_mem_cons.mpr ⟨xm_172, List.forall_mem_cons.mpr ⟨xm_173, List.forall_mem_cons.mpr ⟨xm_174, List.forall_mem_cons.mpr ⟨xm_175, fun _ h => absurd h List.not_mem_nil⟩⟩⟩⟩⟩⟩⟩⟩⟩⟩⟩⟩⟩⟩⟩⟩
def xMs_l176 : List (Nat) := [176, 177, 178, 179, 180, 181, 182, 183, 184, 185, 186, 187, 188, 189, 190, 191]
theorem xMs_b176 : ∀ q ∈ xMs_l176, xMok q := List.forall_mem_cons.mpr ⟨xm_176, List.forall_mem_cons.mpr ⟨xm_177, List.forall_mem_cons.mpr ⟨xm_178, List.forall_mem_cons.mpr ⟨xm_179, List.forall_mem_cons.mpr ⟨xm_180, List.forall_mem_cons.mpr ⟨xm_181, List.forall_mem_cons.mpr ⟨xm_182, List.forall_mem_cons.mpr ⟨xm_183, List.forall_mem_cons.mpr ⟨xm_184, List.forall_mem_cons.mpr ⟨xm_185, List.forall_mem_cons.mpr ⟨xm_186, List.forall_mem_cons.mpr ⟨xm_187, List.forall_mem_cons.mpr ⟨xm_188, List.forall_mem_cons.mpr ⟨xm_189, List.forall_mem_cons.mpr ⟨xm_190, List.forall_mem_cons.mpr ⟨xm_191, fun _ h => absurd h List.not_mem_nil⟩⟩⟩⟩⟩⟩⟩⟩⟩⟩⟩⟩⟩⟩⟩⟩
def xMs_l192 : List (Nat) := [192, 193, 194, 195, 196, 197, 198, 199, 200, 201, 202, 203, 204, 205, 206, 207]
theorem xMs_b192 : ∀ q ∈ xMs_l192, xMok q := List.forall_mem_cons.mpr ⟨xm_192, List.forall_mem_cons.mpr ⟨xm_193, List.forall_mem_cons.mpr ⟨xm_194, List.forall_mem_cons.mpr ⟨xm_195, List.forall_mem_cons.mpr ⟨xm_196, List.forall_mem_cons.mpr ⟨xm_197, List.forall_mem_cons.mpr ⟨xm_198, List.forall_mem_cons.mpr ⟨xm_199, List.forall_mem_cons.mpr ⟨xm_200, List.forall_mem_cons.mpr ⟨xm_201, List.forall_mem_cons.mpr ⟨xm_202, List.forall_mem_cons.mpr ⟨xm_203, List.forall_mem_cons.mpr ⟨xm_204, List.forall_mem_cons.mpr ⟨xm_205, List.forall_mem_cons.mpr ⟨xm_206, List.forall_mem_cons.mpr ⟨xm_207, fun _ h => absurd h List.not_mem_nil⟩⟩⟩⟩⟩⟩⟩⟩⟩⟩⟩⟩⟩⟩⟩⟩
def xMs_l208 : List (Nat) := [208, 209, 210, 211, 212, 213, 214, 215, 216, 217, 218, 219, 220, 221, 222, 223]
theorem xMs_b208 : ∀ q ∈ xMs_l208, xMok q := List.forall_mem_cons.mpr ⟨xm_208, List.forall_mem_cons.mpr ⟨xm_209, List.forall_mem_cons.mpr ⟨xm_210, List.forall_mem_cons.mpr ⟨xm_211, List.forall_mem_cons.mpr ⟨xm_212, List.forall_mem_cons.mpr ⟨xm_213, List.forall_mem_cons.mpr ⟨xm_214, List.forall_mem_cons.mpr ⟨xm_215, List.forall_mem_cons.mpr ⟨xm_216, List.forall_mem_cons.mpr ⟨xm_217, List.forall_mem_cons.mpr ⟨xm_218, List.forall_mem_cons.mpr ⟨xm_219, List.forall_mem_cons.mpr ⟨xm_220, List.forall_mem_cons.mpr ⟨xm_221, List.forall_mem_cons.mpr ⟨xm_222, List.forall_mem_cons.mpr ⟨xm_223, fun _ h => absurd h List.not_mem_nil⟩⟩⟩⟩⟩⟩⟩⟩⟩⟩⟩⟩⟩⟩⟩⟩
def xMs_l224 : List (Nat) := [224, 225, 226, 227, 228, 229, 230, 231, 232, 233, 234, 235, 236, 237, 238, 239]
theorem xMs_b224 : ∀ q ∈ xMs_l224, xMok q := List.forall_mem_cons.mpr ⟨xm_224, List.forall_mem_cons.mpr ⟨xm_225, List.forall_mem_cons.mpr ⟨xm_226, List.forall_mem_cons.mpr ⟨xm_227, List.forall_mem_cons.mpr ⟨xm_228, List.forall_mem_cons.mpr ⟨xm_229, List.forall_mem_cons.mpr ⟨xm_230, List.forall_mem_cons.mpr ⟨xm_231, List.forall_mem_cons.mpr ⟨xm_232, List.forall_mem_cons.mpr ⟨xm_233, List.forall_mem_cons.mpr ⟨xm_234, List.forall_mem_cons.mpr ⟨xm_235, List.forall_mem_cons.mpr ⟨xm_236, List.forall_mem_cons.mpr ⟨xm_237, List.forall_mem_cons.mpr ⟨xm_238, List.forall_mem_cons.mpr ⟨xm_239, fun _ h => absurd h List.not_mem_nil⟩⟩⟩⟩⟩⟩⟩⟩⟩⟩⟩⟩⟩⟩⟩⟩
def xMs_l240 : List (Nat) := [240, 241, 242, 243, 244, 245, 246, 247, 248, 249, 250, 251, 252, 253, 254, 255]
theorem xMs_b240 : ∀ q ∈ xMs_l240, xMok q := List.forall_mem_cons.mpr ⟨xm_240, List.forall_mem_cons.mpr ⟨xm_241, List.forall_mem_cons.mpr ⟨xm_242, List.forall_mem_cons.mpr ⟨xm_243, List.forall_mem_cons.mpr ⟨xm_244, List.forall_mem_cons.mpr ⟨xm_245, List.forall_mem_cons.mpr ⟨xm_246, List.forall_mem_cons.mpr ⟨xm_247, List.forall_mem_cons.mpr ⟨xm_248, List.forall_mem_cons.mpr ⟨xm_249, List.forall_mem_cons.mpr ⟨xm_250, List.forall_mem_cons.mpr ⟨xm_251, List.forall_mem_cons.mpr ⟨xm_252, List.forall_mem_cons.mpr ⟨xm_253, List.forall_mem_cons.mpr ⟨xm_254, List.forall_mem_cons.mpr ⟨xm_255, fun _ h => absurd h List.not_mem_nil⟩⟩⟩⟩⟩⟩⟩⟩⟩⟩⟩⟩⟩⟩⟩⟩
def xMs_l256 : List (Nat) := [256, 257, 258, 259, 260]
theorem xMs_b256 : ∀ q ∈ xMs_l256, xMok q := List.forall_mem_cons.mpr ⟨xm_256, List.forall_mem_cons.mpr ⟨xm_257, List.forall_mem_cons.mpr ⟨xm_258, List.forall_mem_cons.mpr ⟨xm_259, List.forall_mem_cons.mpr ⟨xm_260, fun _ h => absurd h List.not_mem_nil⟩⟩⟩⟩⟩
def xMs_l : List (Nat) := xMs_l0 ++ (xMs_l16 ++ (xMs_l32 ++ (xMs_l48 ++ (xMs_l64 ++ (xMs_l80 ++ (xMs_l96 ++ (xMs_l112 ++ (xMs_l128 ++ (xMs_l144 ++ (xMs_l160 ++ (xMs_l176 ++ (xMs_l192 ++ (xMs_l208 ++ (xMs_l224 ++ (xMs_l240 ++ (xMs_l256))))))))))))))))
theorem xMs_all : ∀ q ∈ xMs_l, xMok q := List.forall_mem_append.mpr ⟨xMs_b0, List.forall_mem_append.mpr ⟨xMs_b16, List.forall_mem_append.mpr ⟨xMs_b32, List.forall_mem_append.mpr ⟨xMs_b48, List.forall_mem_append.mpr ⟨xMs_b64, List.forall_mem_append.mpr ⟨xMs_b80, List.forall_mem_append.mpr ⟨xMs_b96, List.forall_mem_append.mpr ⟨xMs_b112, List.forall_mem_append.mpr ⟨xMs_b128, List.forall_mem_append.mpr ⟨xMs_b144, List.forall_mem_append.mpr ⟨xMs_b160, List.forall_mem_append.mpr ⟨xMs_b176, List.forall_mem_append.mpr ⟨xMs_b192, List.forall_mem_append.mpr ⟨xMs_b208, List.forall_mem_append.mpr ⟨xMs_b224, List.forall_mem_append.mpr ⟨xMs_b240, xMs_b256⟩⟩⟩⟩⟩⟩⟩⟩⟩⟩⟩⟩⟩⟩⟩⟩
theorem xMs_range : ∀ mi, mi < 262 → mi ≠ 261 → mi ∈ xMs_l := by decide +kernel
theorem xMall {mi : Nat} (h : mi < 262) (h2 : mi ≠ 261) : xMok mi := xMs_all mi (xMs_range mi h h2)
def xLok (q : Nat × Nat × Nat) : Prop := q.2.2 < 262 ∧ q.2.2 ≠ 261 ∧ (xG (.methodLink (xRn q.1) q.2.1 (xy q.2.2)) ∨ Cond.methodLinkNest (xRn q.1) q.2.1 (xy q.2.2) "TemplateScopes" ∈ lw_tbl)
theorem xl_0_27 : xLok (0, 27, 2) := ⟨by decide, by decide, Or.inl (xg3 210 (by decide +kernel) rfl)⟩
theorem xl_0_50 : xLok (0, 50, 34) := ⟨by decide, by decide, Or.inl (xg3 214 (by decide +kernel) rfl)⟩
theorem xl_0_54 : xLok (0, 54, 64) := ⟨by decide, by decide, Or.inl (xg3 218 (by decide +kernel) rfl)⟩
theorem xl_0_57 : xLok (0, 57, 65) := ⟨by decide, by decide, Or.inl (xg3 222 (by decide +kernel) rfl)⟩
theorem xl_0_60 : xLok (0, 60, 35) := ⟨by decide, by decide, Or.inl (xg3 226 (by decide +kernel) rfl)⟩
theorem xl_0_64 : xLok (0, 64, 3) := ⟨by decide, by decide, Or.inl (xg4 3 (by decide +kernel) rfl)⟩
theorem xl_0_86 : xLok (0, 86, 45) := ⟨by decide, by decide, Or.inl (xg4 7 (by decide +kernel) rfl)⟩
theorem xl_0_99 : xLok (0, 99, 52) := ⟨by decide, by decide, Or.inl (xg4 8 (by decide +kernel) rfl)⟩
theorem xl_0_37 : xLok (0, 37, 66) := ⟨by decide, by decide, Or.inl (xg4 9 (by decide +kernel) rfl)⟩
theorem xl_0_103 : xLok (0, 103, 30) := ⟨by decide, by decide, Or.inl (xg4 13 (by decide +kernel) rfl)⟩
theorem xl_0_107 : xLok (0, 107, 62) := ⟨by decide, by decide, Or.inl (xg4 17 (by decide +kernel) rfl)⟩
theorem xl_0_111 : xLok (0, 111, 61) := ⟨by decide, by decide, Or.inl (xg4 18 (by decide +kernel) rfl)⟩
theorem xl_0_41 : xLok (0, 41, 31) := ⟨by decide, by decide, Or.inl (xg4 19 (by decide +kernel) rfl)⟩
theorem xl_0_114 : xLok (0, 114, 42) := ⟨by decide, by decide, Or.inl (xg4 24 (by decide +kernel) rfl)⟩
theorem xl_0_117 : xLok (0, 117, 63) := ⟨by decide, by decide, Or.inl (xg4 25 (by decide +kernel) rfl)⟩
theorem xl_0_82 : xLok (0, 82, 1) := ⟨by decide, by decide, Or.inl (xg4 26 (by decide +kernel) rfl)⟩
theorem xl_0_120 : xLok (0, 120, 46) := ⟨by decide, by decide, Or.inl (xg4 27 (by decide +kernel) rfl)⟩
theorem xl_0_67 : xLok (0, 67, 4) := ⟨by decide, by decide, Or.inl (xg4 32 (by decide +kernel) rfl)⟩
theorem xl_0_123 : xLok (0, 123, 75) := ⟨by decide, by decide, Or.inl (xg4 36 (by decide +kernel) rfl)⟩
theorem xl_0_128 : xLok (0, 128, 47) := ⟨by decide, by decide, Or.inl (xg4 37 (by decide +kernel) rfl)⟩
theorem xl_0_132 : xLok (0, 132, 5) := ⟨by decide, by decide, Or.inl (xg4 44 (by decide +kernel) rfl)⟩
theorem xl_0_47 : xLok (0, 47, 67) := ⟨by decide, by decide, Or.inl (xg4 48 (by decide +kernel) rfl)⟩
theorem xl_0_70 : xLok (0, 70, 6) := ⟨by decide, by decide, Or.inl (xg4 52 (by decide +kernel) rfl)⟩
theorem xl_0_135 : xLok (0, 135, 37) := ⟨by decide, by decide, Or.inl (xg4 56 (by decide +kernel) rfl)⟩
theorem xl_0_73 : xLok (0, 73, 7) := ⟨by decide, by decide, Or.inl (xg4 60 (by decide +kernel) rfl)⟩
theorem xl_0_139 : xLok (0, 139, 38) := ⟨by decide, by decide, Or.inl (xg4 64 (by decide +kernel) rfl)⟩
theorem xl_0_142 : xLok (0, 142, 39) := ⟨by decide, by decide, Or.inl (xg4 69 (by decide +kernel) rfl)⟩
theorem xl_0_76 : xLok (0, 76, 68) := ⟨by decide, by decide, Or.inl (xg4 75 (by decide +kernel) rfl)⟩
theorem xl_0_79 : xLok (0, 79, 36) := ⟨by decide, by decide, Or.inl (xg4 79 (by decide +kernel) rfl)⟩
theorem xl_1_24 : xLok (1, 24, 51) := ⟨by decide, by decide, Or.inl (xg1 217 (by decide +kernel) rfl)⟩
theorem xl_1_33 : xLok (1, 33, 73) := ⟨by decide, by decide, Or.inl (xg1 219 (by decide +kernel) rfl)⟩
theorem xl_1_56 : xLok (1, 56, 78) := ⟨by decide, by decide, Or.inl (xg4 136 (by decide +kernel) rfl)⟩
theorem xl_1_71 : xLok (1, 71, 75) := ⟨by decide, by decide, Or.inl (xg4 138 (by decide +kernel) rfl)⟩
theorem xl_1_75 : xLok (1, 75, 10) := ⟨by decide, by decide, Or.inl (xg4 139 (by decide +kernel) rfl)⟩
theorem xl_1_137 : xLok (1, 137, 46) := ⟨by decide, by decide, Or.inl (xg4 143 (by decide +kernel) rfl)⟩
theorem xl_1_79 : xLok (1, 79, 11) := ⟨by decide, by decide, Or.inl (xg4 144 (by decide +kernel) rfl)⟩
theorem xl_1_89 : xLok (1, 89, 76) := ⟨by decide, by decide, Or.inl (xg4 148 (by decide +kernel) rfl)⟩
theorem xl_1_82 : xLok (1, 82, 12) := ⟨by decide, by decide, Or.inl (xg4 149 (by decide +kernel) rfl)⟩
theorem xl_1_153 : xLok (1, 153, 13) := ⟨by decide, by decide, Or.inl (xg4 153 (by decide +kernel) rfl)⟩
theorem xl_1_143 : xLok (1, 143, 47) := ⟨by decide, by decide, Or.inl (xg4 157 (by decide +kernel) rfl)⟩
theorem xl_1_156 : xLok (1, 156, 39) := ⟨by decide, by decide, Or.inl (xg4 158 (by decide +kernel) rfl)⟩
theorem xl_1_85 : xLok (1, 85, 14) := ⟨by decide, by decide, Or.inl (xg4 159 (by decide +kernel) rfl)⟩
theorem xl_1_93 : xLok (1, 93, 34) := ⟨by decide, by decide, Or.inl (xg4 163 (by decide +kernel) rfl)⟩
theorem xl_1_96 : xLok (1, 96, 36) := ⟨by decide, by decide, Or.inl (xg4 164 (by decide +kernel) rfl)⟩
theorem xl_1_99 : xLok (1, 99, 85) := ⟨by decide, by decide, Or.inr (xh4 165 (by decide +kernel))⟩
theorem xl_1_102 : xLok (1, 102, 35) := ⟨by decide, by decide, Or.inl (xg4 166 (by decide +kernel) rfl)⟩
theorem xl_1_105 : xLok (1, 105, 15) := ⟨by decide, by decide, Or.inl (xg4 167 (by decide +kernel) rfl)⟩
theorem xl_1_117 : xLok (1, 117, 45) := ⟨by decide, by decide, Or.inl (xg4 171 (by decide +kernel) rfl)⟩
theorem xl_1_123 : xLok (1, 123, 52) := ⟨by decide, by decide, Or.inl (xg4 172 (by decide +kernel) rfl)⟩
theorem xl_1_127 : xLok (1, 127, 62) := ⟨by decide, by decide, Or.inl (xg4 173 (by decide +kernel) rfl)⟩
theorem xl_1_130 : xLok (1, 130, 16) := ⟨by decide, by decide, Or.inl (xg4 174 (by decide +kernel) rfl)⟩
theorem xl_1_134 : xLok (1, 134, 42) := ⟨by decide, by decide, Or.inl (xg4 178 (by decide +kernel) rfl)⟩
theorem xl_1_108 : xLok (1, 108, 17) := ⟨by decide, by decide, Or.inl (xg4 179 (by decide +kernel) rfl)⟩
theorem xl_1_140 : xLok (1, 140, 18) := ⟨by decide, by decide, Or.inl (xg4 183 (by decide +kernel) rfl)⟩
theorem xl_1_111 : xLok (1, 111, 19) := ⟨by decide, by decide, Or.inl (xg4 187 (by decide +kernel) rfl)⟩
theorem xl_1_147 : xLok (1, 147, 37) := ⟨by decide, by decide, Or.inl (xg4 191 (by decide +kernel) rfl)⟩
theorem xl_1_114 : xLok (1, 114, 20) := ⟨by decide, by decide, Or.inl (xg4 192 (by decide +kernel) rfl)⟩
theorem xl_1_151 : xLok (1, 151, 38) := ⟨by decide, by decide, Or.inl (xg4 196 (by decide +kernel) rfl)⟩
theorem xl_2_17 : xLok (2, 17, 48) := ⟨by decide, by decide, Or.inl (xg2 56 (by decide +kernel) rfl)⟩
theorem xl_2_22 : xLok (2, 22, 24) := ⟨by decide, by decide, Or.inl (xg5 31 (by decide +kernel) rfl)⟩
theorem xl_2_25 : xLok (2, 25, 49) := ⟨by decide, by decide, Or.inl (xg5 36 (by decide +kernel) rfl)⟩
theorem xl_3_11 : xLok (3, 11, 73) := ⟨by decide, by decide, Or.inl (xg1 116 (by decide +kernel) rfl)⟩
theorem xl_3_20 : xLok (3, 20, 74) := ⟨by decide, by decide, Or.inl (xg1 117 (by decide +kernel) rfl)⟩
theorem xl_3_47 : xLok (3, 47, 77) := ⟨by decide, by decide, Or.inl (xg2 232 (by decide +kernel) rfl)⟩
theorem xl_3_51 : xLok (3, 51, 28) := ⟨by decide, by decide, Or.inl (xg2 233 (by decide +kernel) rfl)⟩
theorem xl_3_55 : xLok (3, 55, 30) := ⟨by decide, by decide, Or.inl (xg4 23 (by decide +kernel) rfl)⟩
theorem xl_4_11 : xLok (4, 11, 26) := ⟨by decide, by decide, Or.inl (xg1 111 (by decide +kernel) rfl)⟩
theorem xl_4_20 : xLok (4, 20, 40) := ⟨by decide, by decide, Or.inl (xg1 159 (by decide +kernel) rfl)⟩
theorem xl_4_27 : xLok (4, 27, 73) := ⟨by decide, by decide, Or.inl (xg1 176 (by decide +kernel) rfl)⟩
theorem xl_4_34 : xLok (4, 34, 29) := ⟨by decide, by decide, Or.inl (xg3 177 (by decide +kernel) rfl)⟩
theorem xl_4_37 : xLok (4, 37, 41) := ⟨by decide, by decide, Or.inl (xg3 181 (by decide +kernel) rfl)⟩
theorem xl_4_63 : xLok (4, 63, 45) := ⟨by decide, by decide, Or.inl (xg3 230 (by decide +kernel) rfl)⟩
theorem xl_4_70 : xLok (4, 70, 75) := ⟨by decide, by decide, Or.inl (xg3 235 (by decide +kernel) rfl)⟩
theorem xl_4_73 : xLok (4, 73, 76) := ⟨by decide, by decide, Or.inl (xg3 236 (by decide +kernel) rfl)⟩
theorem xl_4_77 : xLok (4, 77, 113) := ⟨by decide, by decide, Or.inr (xh3 237 (by decide +kernel))⟩
theorem xl_4_81 : xLok (4, 81, 36) := ⟨by decide, by decide, Or.inl (xg3 238 (by decide +kernel) rfl)⟩
theorem xl_4_47 : xLok (4, 47, 79) := ⟨by decide, by decide, Or.inl (xg4 2 (by decide +kernel) rfl)⟩
theorem xl_4_84 : xLok (4, 84, 74) := ⟨by decide, by decide, Or.inl (xg4 68 (by decide +kernel) rfl)⟩
theorem xl_4_93 : xLok (4, 93, 44) := ⟨by decide, by decide, Or.inl (xg4 74 (by decide +kernel) rfl)⟩
theorem xl_5_11 : xLok (5, 11, 73) := ⟨by decide, by decide, Or.inl (xg1 164 (by decide +kernel) rfl)⟩
theorem xl_5_24 : xLok (5, 24, 42) := ⟨by decide, by decide, Or.inl (xg3 185 (by decide +kernel) rfl)⟩
theorem xl_5_32 : xLok (5, 32, 43) := ⟨by decide, by decide, Or.inl (xg3 189 (by decide +kernel) rfl)⟩
theorem xl_5_36 : xLok (5, 36, 80) := ⟨by decide, by decide, Or.inl (xg3 193 (by decide +kernel) rfl)⟩
theorem xl_5_28 : xLok (5, 28, 44) := ⟨by decide, by decide, Or.inl (xg3 197 (by decide +kernel) rfl)⟩
theorem xl_5_49 : xLok (5, 49, 78) := ⟨by decide, by decide, Or.inl (xg3 201 (by decide +kernel) rfl)⟩
theorem xl_5_46 : xLok (5, 46, 75) := ⟨by decide, by decide, Or.inl (xg3 234 (by decide +kernel) rfl)⟩
theorem xl_5_52 : xLok (5, 52, 74) := ⟨by decide, by decide, Or.inl (xg4 41 (by decide +kernel) rfl)⟩
theorem xl_5_55 : xLok (5, 55, 79) := ⟨by decide, by decide, Or.inl (xg4 42 (by decide +kernel) rfl)⟩
theorem xl_5_59 : xLok (5, 59, 76) := ⟨by decide, by decide, Or.inl (xg4 43 (by decide +kernel) rfl)⟩
theorem xl_6_11 : xLok (6, 11, 73) := ⟨by decide, by decide, Or.inl (xg2 24 (by decide +kernel) rfl)⟩
theorem xl_6_22 : xLok (6, 22, 26) := ⟨by decide, by decide, Or.inl (xg2 26 (by decide +kernel) rfl)⟩
theorem xl_6_27 : xLok (6, 27, 77) := ⟨by decide, by decide, Or.inl (xg2 215 (by decide +kernel) rfl)⟩
theorem xl_6_31 : xLok (6, 31, 27) := ⟨by decide, by decide, Or.inl (xg2 228 (by decide +kernel) rfl)⟩
theorem xl_6_51 : xLok (6, 51, 75) := ⟨by decide, by decide, Or.inl (xg5 130 (by decide +kernel) rfl)⟩
theorem xl_7_50 : xLok (7, 50, 75) := ⟨by decide, by decide, Or.inl (xg2 115 (by decide +kernel) rfl)⟩
theorem xl_7_62 : xLok (7, 62, 76) := ⟨by decide, by decide, Or.inl (xg2 116 (by decide +kernel) rfl)⟩
theorem xl_7_66 : xLok (7, 66, 53) := ⟨by decide, by decide, Or.inl (xg2 120 (by decide +kernel) rfl)⟩
theorem xl_7_76 : xLok (7, 76, 54) := ⟨by decide, by decide, Or.inl (xg2 124 (by decide +kernel) rfl)⟩
theorem xl_7_80 : xLok (7, 80, 55) := ⟨by decide, by decide, Or.inl (xg2 128 (by decide +kernel) rfl)⟩
theorem xl_7_83 : xLok (7, 83, 85) := ⟨by decide, by decide, Or.inr (xh2 131 (by decide +kernel))⟩
theorem xl_7_86 : xLok (7, 86, 56) := ⟨by decide, by decide, Or.inl (xg2 134 (by decide +kernel) rfl)⟩
theorem xl_7_90 : xLok (7, 90, 57) := ⟨by decide, by decide, Or.inl (xg2 138 (by decide +kernel) rfl)⟩
theorem xl_7_93 : xLok (7, 93, 58) := ⟨by decide, by decide, Or.inl (xg2 142 (by decide +kernel) rfl)⟩
theorem xl_7_97 : xLok (7, 97, 59) := ⟨by decide, by decide, Or.inl (xg2 146 (by decide +kernel) rfl)⟩
theorem xl_7_100 : xLok (7, 100, 60) := ⟨by decide, by decide, Or.inl (xg2 150 (by decide +kernel) rfl)⟩
theorem xl_7_70 : xLok (7, 70, 64) := ⟨by decide, by decide, Or.inl (xg4 106 (by decide +kernel) rfl)⟩
theorem xl_7_73 : xLok (7, 73, 65) := ⟨by decide, by decide, Or.inl (xg4 107 (by decide +kernel) rfl)⟩
theorem xl_8_39 : xLok (8, 39, 78) := ⟨by decide, by decide, Or.inl (xg2 219 (by decide +kernel) rfl)⟩
theorem xl_8_29 : xLok (8, 29, 75) := ⟨by decide, by decide, Or.inl (xg2 223 (by decide +kernel) rfl)⟩
theorem xl_8_36 : xLok (8, 36, 76) := ⟨by decide, by decide, Or.inl (xg2 227 (by decide +kernel) rfl)⟩
theorem xl_9_11 : xLok (9, 11, 73) := ⟨by decide, by decide, Or.inl (xg1 29 (by decide +kernel) rfl)⟩
theorem xl_9_18 : xLok (9, 18, 74) := ⟨by decide, by decide, Or.inl (xg1 48 (by decide +kernel) rfl)⟩
theorem xl_9_27 : xLok (9, 27, 51) := ⟨by decide, by decide, Or.inl (xg1 54 (by decide +kernel) rfl)⟩
theorem xl_9_36 : xLok (9, 36, 32) := ⟨by decide, by decide, Or.inl (xg1 105 (by decide +kernel) rfl)⟩
theorem xl_9_43 : xLok (9, 43, 0) := ⟨by decide, by decide, Or.inl (xg1 196 (by decide +kernel) rfl)⟩
theorem xl_9_52 : xLok (9, 52, 8) := ⟨by decide, by decide, Or.inl (xg1 212 (by decide +kernel) rfl)⟩
theorem xl_9_59 : xLok (9, 59, 48) := ⟨by decide, by decide, Or.inl (xg2 19 (by decide +kernel) rfl)⟩
theorem xl_9_69 : xLok (9, 69, 21) := ⟨by decide, by decide, Or.inl (xg2 50 (by decide +kernel) rfl)⟩
theorem xl_9_92 : xLok (9, 92, 75) := ⟨by decide, by decide, Or.inl (xg2 99 (by decide +kernel) rfl)⟩
theorem xl_9_96 : xLok (9, 96, 52) := ⟨by decide, by decide, Or.inl (xg2 111 (by decide +kernel) rfl)⟩
theorem xl_9_100 : xLok (9, 100, 61) := ⟨by decide, by decide, Or.inl (xg2 155 (by decide +kernel) rfl)⟩
theorem xl_9_104 : xLok (9, 104, 62) := ⟨by decide, by decide, Or.inl (xg2 163 (by decide +kernel) rfl)⟩
theorem xl_9_250 : xLok (9, 250, 49) := ⟨by decide, by decide, Or.inl (xg2 211 (by decide +kernel) rfl)⟩
theorem xl_9_188 : xLok (9, 188, 87) := ⟨by decide, by decide, Or.inl (xg2 237 (by decide +kernel) rfl)⟩
theorem xl_9_247 : xLok (9, 247, 22) := ⟨by decide, by decide, Or.inl (xg3 2 (by decide +kernel) rfl)⟩
theorem xl_9_255 : xLok (9, 255, 93) := ⟨by decide, by decide, Or.inl (xg3 10 (by decide +kernel) rfl)⟩
theorem xl_9_260 : xLok (9, 260, 101) := ⟨by decide, by decide, Or.inl (xg3 16 (by decide +kernel) rfl)⟩
theorem xl_9_272 : xLok (9, 272, 102) := ⟨by decide, by decide, Or.inl (xg3 20 (by decide +kernel) rfl)⟩
theorem xl_9_282 : xLok (9, 282, 103) := ⟨by decide, by decide, Or.inl (xg3 23 (by decide +kernel) rfl)⟩
theorem xl_9_177 : xLok (9, 177, 76) := ⟨by decide, by decide, Or.inl (xg3 27 (by decide +kernel) rfl)⟩
theorem xl_9_197 : xLok (9, 197, 88) := ⟨by decide, by decide, Or.inl (xg3 28 (by decide +kernel) rfl)⟩
theorem xl_9_268 : xLok (9, 268, 104) := ⟨by decide, by decide, Or.inl (xg3 29 (by decide +kernel) rfl)⟩
theorem xl_9_349 : xLok (9, 349, 105) := ⟨by decide, by decide, Or.inl (xg3 32 (by decide +kernel) rfl)⟩
theorem xl_9_205 : xLok (9, 205, 89) := ⟨by decide, by decide, Or.inl (xg3 104 (by decide +kernel) rfl)⟩
theorem xl_9_352 : xLok (9, 352, 106) := ⟨by decide, by decide, Or.inl (xg3 105 (by decide +kernel) rfl)⟩
theorem xl_9_210 : xLok (9, 210, 28) := ⟨by decide, by decide, Or.inl (xg3 125 (by decide +kernel) rfl)⟩
theorem xl_9_355 : xLok (9, 355, 90) := ⟨by decide, by decide, Or.inl (xg3 126 (by decide +kernel) rfl)⟩
theorem xl_9_358 : xLok (9, 358, 91) := ⟨by decide, by decide, Or.inl (xg3 127 (by decide +kernel) rfl)⟩
theorem xl_9_361 : xLok (9, 361, 92) := ⟨by decide, by decide, Or.inl (xg3 128 (by decide +kernel) rfl)⟩
theorem xl_9_364 : xLok (9, 364, 94) := ⟨by decide, by decide, Or.inl (xg3 129 (by decide +kernel) rfl)⟩
theorem xl_9_367 : xLok (9, 367, 95) := ⟨by decide, by decide, Or.inl (xg3 130 (by decide +kernel) rfl)⟩
theorem xl_9_370 : xLok (9, 370, 96) := ⟨by decide, by decide, Or.inl (xg3 131 (by decide +kernel) rfl)⟩
theorem xl_9_373 : xLok (9, 373, 98) := ⟨by decide, by decide, Or.inl (xg3 132 (by decide +kernel) rfl)⟩
theorem xl_9_264 : xLok (9, 264, 107) := ⟨by decide, by decide, Or.inl (xg3 133 (by decide +kernel) rfl)⟩
theorem xl_9_126 : xLok (9, 126, 108) := ⟨by decide, by decide, Or.inl (xg3 137 (by decide +kernel) rfl)⟩
theorem xl_9_276 : xLok (9, 276, 109) := ⟨by decide, by decide, Or.inl (xg3 141 (by decide +kernel) rfl)⟩
theorem xl_9_138 : xLok (9, 138, 110) := ⟨by decide, by decide, Or.inl (xg3 145 (by decide +kernel) rfl)⟩
theorem xl_9_279 : xLok (9, 279, 111) := ⟨by decide, by decide, Or.inl (xg3 150 (by decide +kernel) rfl)⟩
theorem xl_9_154 : xLok (9, 154, 112) := ⟨by decide, by decide, Or.inl (xg3 154 (by decide +kernel) rfl)⟩
theorem xl_9_340 : xLok (9, 340, 113) := ⟨by decide, by decide, Or.inl (xg3 158 (by decide +kernel) rfl)⟩
theorem xl_9_81 : xLok (9, 81, 79) := ⟨by decide, by decide, Or.inl (xg3 161 (by decide +kernel) rfl)⟩
theorem xl_9_286 : xLok (9, 286, 114) := ⟨by decide, by decide, Or.inl (xg3 165 (by decide +kernel) rfl)⟩
theorem xl_9_180 : xLok (9, 180, 115) := ⟨by decide, by decide, Or.inl (xg3 169 (by decide +kernel) rfl)⟩
theorem xl_9_234 : xLok (9, 234, 33) := ⟨by decide, by decide, Or.inl (xg3 173 (by decide +kernel) rfl)⟩
theorem xl_9_111 : xLok (9, 111, 63) := ⟨by decide, by decide, Or.inl (xg3 202 (by decide +kernel) rfl)⟩
theorem xl_9_343 : xLok (9, 343, 1) := ⟨by decide, by decide, Or.inr (xh3 206 (by decide +kernel))⟩
theorem xl_9_289 : xLok (9, 289, 86) := ⟨by decide, by decide, Or.inl (xg4 80 (by decide +kernel) rfl)⟩
theorem xl_9_292 : xLok (9, 292, 116) := ⟨by decide, by decide, Or.inl (xg4 81 (by decide +kernel) rfl)⟩
theorem xl_9_108 : xLok (9, 108, 117) := ⟨by decide, by decide, Or.inl (xg4 85 (by decide +kernel) rfl)⟩
theorem xl_9_295 : xLok (9, 295, 118) := ⟨by decide, by decide, Or.inl (xg4 90 (by decide +kernel) rfl)⟩
theorem xl_9_114 : xLok (9, 114, 69) := ⟨by decide, by decide, Or.inl (xg4 94 (by decide +kernel) rfl)⟩
theorem xl_9_298 : xLok (9, 298, 119) := ⟨by decide, by decide, Or.inl (xg4 98 (by decide +kernel) rfl)⟩
theorem xl_9_117 : xLok (9, 117, 70) := ⟨by decide, by decide, Or.inl (xg4 102 (by decide +kernel) rfl)⟩
theorem xl_9_301 : xLok (9, 301, 120) := ⟨by decide, by decide, Or.inl (xg4 108 (by decide +kernel) rfl)⟩
theorem xl_9_120 : xLok (9, 120, 71) := ⟨by decide, by decide, Or.inl (xg4 112 (by decide +kernel) rfl)⟩
theorem xl_9_304 : xLok (9, 304, 121) := ⟨by decide, by decide, Or.inl (xg4 116 (by decide +kernel) rfl)⟩
theorem xl_9_123 : xLok (9, 123, 72) := ⟨by decide, by decide, Or.inl (xg4 120 (by decide +kernel) rfl)⟩
theorem xl_9_307 : xLok (9, 307, 122) := ⟨by decide, by decide, Or.inl (xg4 124 (by decide +kernel) rfl)⟩
theorem xl_9_310 : xLok (9, 310, 123) := ⟨by decide, by decide, Or.inl (xg4 128 (by decide +kernel) rfl)⟩
theorem xl_9_237 : xLok (9, 237, 9) := ⟨by decide, by decide, Or.inl (xg4 132 (by decide +kernel) rfl)⟩
theorem xl_9_313 : xLok (9, 313, 124) := ⟨by decide, by decide, Or.inl (xg4 197 (by decide +kernel) rfl)⟩
theorem xl_9_316 : xLok (9, 316, 84) := ⟨by decide, by decide, Or.inl (xg4 201 (by decide +kernel) rfl)⟩
theorem xl_9_319 : xLok (9, 319, 99) := ⟨by decide, by decide, Or.inl (xg4 202 (by decide +kernel) rfl)⟩
theorem xl_9_323 : xLok (9, 323, 125) := ⟨by decide, by decide, Or.inl (xg4 203 (by decide +kernel) rfl)⟩
theorem xl_9_78 : xLok (9, 78, 127) := ⟨by decide, by decide, Or.inl (xg4 218 (by decide +kernel) rfl)⟩
theorem xl_9_134 : xLok (9, 134, 23) := ⟨by decide, by decide, Or.inl (xg5 27 (by decide +kernel) rfl)⟩
theorem xl_9_141 : xLok (9, 141, 80) := ⟨by decide, by decide, Or.inl (xg5 44 (by decide +kernel) rfl)⟩
theorem xl_9_150 : xLok (9, 150, 78) := ⟨by decide, by decide, Or.inl (xg5 60 (by decide +kernel) rfl)⟩
theorem xl_9_168 : xLok (9, 168, 134) := ⟨by decide, by decide, Or.inl (xg5 76 (by decide +kernel) rfl)⟩
theorem xl_9_184 : xLok (9, 184, 50) := ⟨by decide, by decide, Or.inl (xg5 126 (by decide +kernel) rfl)⟩
theorem xl_9_241 : xLok (9, 241, 25) := ⟨by decide, by decide, Or.inl (xg5 173 (by decide +kernel) rfl)⟩
theorem xl_10_74 : xLok (10, 74, 146) := ⟨by decide, by decide, Or.inl (xg6 96 (by decide +kernel) rfl)⟩
theorem xl_10_221 : xLok (10, 221, 147) := ⟨by decide, by decide, Or.inl (xg6 99 (by decide +kernel) rfl)⟩
theorem xl_10_217 : xLok (10, 217, 151) := ⟨by decide, by decide, Or.inl (xg6 115 (by decide +kernel) rfl)⟩
theorem xl_10_126 : xLok (10, 126, 152) := ⟨by decide, by decide, Or.inl (xg6 119 (by decide +kernel) rfl)⟩
theorem xl_10_112 : xLok (10, 112, 153) := ⟨by decide, by decide, Or.inl (xg6 123 (by decide +kernel) rfl)⟩
theorem xl_10_94 : xLok (10, 94, 154) := ⟨by decide, by decide, Or.inl (xg6 127 (by decide +kernel) rfl)⟩
theorem xl_10_97 : xLok (10, 97, 155) := ⟨by decide, by decide, Or.inl (xg6 130 (by decide +kernel) rfl)⟩
theorem xl_10_224 : xLok (10, 224, 157) := ⟨by decide, by decide, Or.inl (xg6 138 (by decide +kernel) rfl)⟩
theorem xl_10_227 : xLok (10, 227, 164) := ⟨by decide, by decide, Or.inl (xg6 166 (by decide +kernel) rfl)⟩
theorem xl_10_78 : xLok (10, 78, 165) := ⟨by decide, by decide, Or.inl (xg6 169 (by decide +kernel) rfl)⟩
theorem xl_10_230 : xLok (10, 230, 166) := ⟨by decide, by decide, Or.inl (xg6 173 (by decide +kernel) rfl)⟩
theorem xl_10_233 : xLok (10, 233, 167) := ⟨by decide, by decide, Or.inl (xg6 177 (by decide +kernel) rfl)⟩
theorem xl_10_236 : xLok (10, 236, 169) := ⟨by decide, by decide, Or.inl (xg6 185 (by decide +kernel) rfl)⟩
theorem xl_10_239 : xLok (10, 239, 173) := ⟨by decide, by decide, Or.inl (xg6 201 (by decide +kernel) rfl)⟩
theorem xl_10_173 : xLok (10, 173, 174) := ⟨by decide, by decide, Or.inl (xg6 205 (by decide +kernel) rfl)⟩
theorem xl_10_245 : xLok (10, 245, 181) := ⟨by decide, by decide, Or.inl (xg6 232 (by decide +kernel) rfl)⟩
theorem xl_10_242 : xLok (10, 242, 182) := ⟨by decide, by decide, Or.inl (xg6 236 (by decide +kernel) rfl)⟩
theorem xl_10_248 : xLok (10, 248, 186) := ⟨by decide, by decide, Or.inl (xg7 12 (by decide +kernel) rfl)⟩
theorem xl_10_166 : xLok (10, 166, 187) := ⟨by decide, by decide, Or.inl (xg7 16 (by decide +kernel) rfl)⟩
theorem xl_10_132 : xLok (10, 132, 188) := ⟨by decide, by decide, Or.inl (xg7 20 (by decide +kernel) rfl)⟩
theorem xl_10_181 : xLok (10, 181, 189) := ⟨by decide, by decide, Or.inl (xg7 23 (by decide +kernel) rfl)⟩
theorem xl_10_207 : xLok (10, 207, 190) := ⟨by decide, by decide, Or.inl (xg7 27 (by decide +kernel) rfl)⟩
theorem xl_10_211 : xLok (10, 211, 191) := ⟨by decide, by decide, Or.inl (xg7 31 (by decide +kernel) rfl)⟩
theorem xl_10_169 : xLok (10, 169, 192) := ⟨by decide, by decide, Or.inl (xg7 35 (by decide +kernel) rfl)⟩
theorem xl_10_214 : xLok (10, 214, 193) := ⟨by decide, by decide, Or.inl (xg7 39 (by decide +kernel) rfl)⟩
theorem xl_10_147 : xLok (10, 147, 194) := ⟨by decide, by decide, Or.inl (xg7 43 (by decide +kernel) rfl)⟩
theorem xl_10_204 : xLok (10, 204, 195) := ⟨by decide, by decide, Or.inl (xg7 47 (by decide +kernel) rfl)⟩
theorem xl_10_188 : xLok (10, 188, 196) := ⟨by decide, by decide, Or.inl (xg7 51 (by decide +kernel) rfl)⟩
theorem xl_10_191 : xLok (10, 191, 197) := ⟨by decide, by decide, Or.inl (xg7 55 (by decide +kernel) rfl)⟩
theorem xl_10_177 : xLok (10, 177, 198) := ⟨by decide, by decide, Or.inl (xg7 59 (by decide +kernel) rfl)⟩
theorem xl_10_195 : xLok (10, 195, 199) := ⟨by decide, by decide, Or.inl (xg7 63 (by decide +kernel) rfl)⟩
theorem xl_10_198 : xLok (10, 198, 200) := ⟨by decide, by decide, Or.inl (xg7 67 (by decide +kernel) rfl)⟩
theorem xl_10_185 : xLok (10, 185, 201) := ⟨by decide, by decide, Or.inl (xg7 71 (by decide +kernel) rfl)⟩
theorem xl_10_251 : xLok (10, 251, 216) := ⟨by decide, by decide, Or.inl (xg7 131 (by decide +kernel) rfl)⟩
theorem xl_10_254 : xLok (10, 254, 215) := ⟨by decide, by decide, Or.inl (xg7 139 (by decide +kernel) rfl)⟩
theorem xl_10_257 : xLok (10, 257, 219) := ⟨by decide, by decide, Or.inl (xg7 144 (by decide +kernel) rfl)⟩
theorem xl_10_263 : xLok (10, 263, 226) := ⟨by decide, by decide, Or.inl (xg7 172 (by decide +kernel) rfl)⟩
theorem xl_10_279 : xLok (10, 279, 228) := ⟨by decide, by decide, Or.inl (xg7 181 (by decide +kernel) rfl)⟩
theorem xl_10_285 : xLok (10, 285, 229) := ⟨by decide, by decide, Or.inl (xg7 186 (by decide +kernel) rfl)⟩
theorem xl_10_288 : xLok (10, 288, 230) := ⟨by decide, by decide, Or.inl (xg7 190 (by decide +kernel) rfl)⟩
theorem xl_10_291 : xLok (10, 291, 231) := ⟨by decide, by decide, Or.inl (xg7 194 (by decide +kernel) rfl)⟩
theorem xl_11_106 : xLok (11, 106, 81) := ⟨by decide, by decide, Or.inl (xg1 21 (by decide +kernel) rfl)⟩
theorem xl_11_119 : xLok (11, 119, 82) := ⟨by decide, by decide, Or.inl (xg2 95 (by decide +kernel) rfl)⟩
theorem xl_11_123 : xLok (11, 123, 83) := ⟨by decide, by decide, Or.inl (xg2 103 (by decide +kernel) rfl)⟩
theorem xl_11_127 : xLok (11, 127, 84) := ⟨by decide, by decide, Or.inl (xg2 107 (by decide +kernel) rfl)⟩
theorem xl_11_131 : xLok (11, 131, 86) := ⟨by decide, by decide, Or.inl (xg2 159 (by decide +kernel) rfl)⟩
theorem xl_11_195 : xLok (11, 195, 87) := ⟨by decide, by decide, Or.inl (xg2 167 (by decide +kernel) rfl)⟩
theorem xl_11_202 : xLok (11, 202, 88) := ⟨by decide, by decide, Or.inl (xg2 171 (by decide +kernel) rfl)⟩
theorem xl_11_209 : xLok (11, 209, 89) := ⟨by decide, by decide, Or.inl (xg2 175 (by decide +kernel) rfl)⟩
theorem xl_11_216 : xLok (11, 216, 90) := ⟨by decide, by decide, Or.inl (xg2 179 (by decide +kernel) rfl)⟩
theorem xl_11_220 : xLok (11, 220, 91) := ⟨by decide, by decide, Or.inl (xg2 183 (by decide +kernel) rfl)⟩
theorem xl_11_224 : xLok (11, 224, 92) := ⟨by decide, by decide, Or.inl (xg2 187 (by decide +kernel) rfl)⟩
theorem xl_11_228 : xLok (11, 228, 93) := ⟨by decide, by decide, Or.inl (xg2 191 (by decide +kernel) rfl)⟩
theorem xl_11_232 : xLok (11, 232, 94) := ⟨by decide, by decide, Or.inl (xg2 195 (by decide +kernel) rfl)⟩
theorem xl_11_236 : xLok (11, 236, 95) := ⟨by decide, by decide, Or.inl (xg2 199 (by decide +kernel) rfl)⟩
theorem xl_11_240 : xLok (11, 240, 96) := ⟨by decide, by decide, Or.inl (xg2 203 (by decide +kernel) rfl)⟩
theorem xl_11_259 : xLok (11, 259, 97) := ⟨by decide, by decide, Or.inl (xg2 207 (by decide +kernel) rfl)⟩
theorem xl_11_266 : xLok (11, 266, 98) := ⟨by decide, by decide, Or.inl (xg2 238 (by decide +kernel) rfl)⟩
theorem xl_11_270 : xLok (11, 270, 99) := ⟨by decide, by decide, Or.inl (xg3 6 (by decide +kernel) rfl)⟩
theorem xl_11_275 : xLok (11, 275, 100) := ⟨by decide, by decide, Or.inl (xg3 11 (by decide +kernel) rfl)⟩
theorem xl_11_110 : xLok (11, 110, 232) := ⟨by decide, by decide, Or.inl (xg4 209 (by decide +kernel) rfl)⟩
theorem xl_11_7 : xLok (11, 7, 126) := ⟨by decide, by decide, Or.inl (xg4 214 (by decide +kernel) rfl)⟩
theorem xl_11_136 : xLok (11, 136, 233) := ⟨by decide, by decide, Or.inl (xg4 238 (by decide +kernel) rfl)⟩
theorem xl_11_17 : xLok (11, 17, 116) := ⟨by decide, by decide, Or.inl (xg5 1 (by decide +kernel) rfl)⟩
theorem xl_11_140 : xLok (11, 140, 234) := ⟨by decide, by decide, Or.inl (xg5 2 (by decide +kernel) rfl)⟩
theorem xl_11_21 : xLok (11, 21, 118) := ⟨by decide, by decide, Or.inl (xg5 5 (by decide +kernel) rfl)⟩
theorem xl_11_143 : xLok (11, 143, 235) := ⟨by decide, by decide, Or.inl (xg5 6 (by decide +kernel) rfl)⟩
theorem xl_11_24 : xLok (11, 24, 119) := ⟨by decide, by decide, Or.inl (xg5 9 (by decide +kernel) rfl)⟩
theorem xl_11_146 : xLok (11, 146, 236) := ⟨by decide, by decide, Or.inl (xg5 10 (by decide +kernel) rfl)⟩
theorem xl_11_27 : xLok (11, 27, 120) := ⟨by decide, by decide, Or.inl (xg5 13 (by decide +kernel) rfl)⟩
theorem xl_11_149 : xLok (11, 149, 237) := ⟨by decide, by decide, Or.inl (xg5 14 (by decide +kernel) rfl)⟩
theorem xl_11_30 : xLok (11, 30, 121) := ⟨by decide, by decide, Or.inl (xg5 17 (by decide +kernel) rfl)⟩
theorem xl_11_152 : xLok (11, 152, 238) := ⟨by decide, by decide, Or.inl (xg5 18 (by decide +kernel) rfl)⟩
theorem xl_11_33 : xLok (11, 33, 128) := ⟨by decide, by decide, Or.inl (xg5 22 (by decide +kernel) rfl)⟩
theorem xl_11_156 : xLok (11, 156, 239) := ⟨by decide, by decide, Or.inl (xg5 37 (by decide +kernel) rfl)⟩
theorem xl_11_39 : xLok (11, 39, 129) := ⟨by decide, by decide, Or.inl (xg5 40 (by decide +kernel) rfl)⟩
theorem xl_11_159 : xLok (11, 159, 240) := ⟨by decide, by decide, Or.inl (xg5 45 (by decide +kernel) rfl)⟩
theorem xl_11_42 : xLok (11, 42, 130) := ⟨by decide, by decide, Or.inl (xg5 48 (by decide +kernel) rfl)⟩
theorem xl_11_162 : xLok (11, 162, 241) := ⟨by decide, by decide, Or.inl (xg5 53 (by decide +kernel) rfl)⟩
theorem xl_11_45 : xLok (11, 45, 131) := ⟨by decide, by decide, Or.inl (xg5 56 (by decide +kernel) rfl)⟩
theorem xl_11_165 : xLok (11, 165, 242) := ⟨by decide, by decide, Or.inl (xg5 61 (by decide +kernel) rfl)⟩
theorem xl_11_48 : xLok (11, 48, 132) := ⟨by decide, by decide, Or.inl (xg5 64 (by decide +kernel) rfl)⟩
theorem xl_11_168 : xLok (11, 168, 243) := ⟨by decide, by decide, Or.inl (xg5 69 (by decide +kernel) rfl)⟩
theorem xl_11_51 : xLok (11, 51, 133) := ⟨by decide, by decide, Or.inl (xg5 72 (by decide +kernel) rfl)⟩
theorem xl_11_171 : xLok (11, 171, 244) := ⟨by decide, by decide, Or.inl (xg5 81 (by decide +kernel) rfl)⟩
theorem xl_11_54 : xLok (11, 54, 135) := ⟨by decide, by decide, Or.inl (xg5 84 (by decide +kernel) rfl)⟩
theorem xl_11_174 : xLok (11, 174, 245) := ⟨by decide, by decide, Or.inl (xg5 88 (by decide +kernel) rfl)⟩
theorem xl_11_57 : xLok (11, 57, 107) := ⟨by decide, by decide, Or.inl (xg5 91 (by decide +kernel) rfl)⟩
theorem xl_11_177 : xLok (11, 177, 246) := ⟨by decide, by decide, Or.inl (xg5 92 (by decide +kernel) rfl)⟩
theorem xl_11_61 : xLok (11, 61, 136) := ⟨by decide, by decide, Or.inl (xg5 95 (by decide +kernel) rfl)⟩
theorem xl_11_180 : xLok (11, 180, 247) := ⟨by decide, by decide, Or.inl (xg5 99 (by decide +kernel) rfl)⟩
theorem xl_11_64 : xLok (11, 64, 137) := ⟨by decide, by decide, Or.inl (xg5 102 (by decide +kernel) rfl)⟩
theorem xl_11_183 : xLok (11, 183, 248) := ⟨by decide, by decide, Or.inl (xg5 107 (by decide +kernel) rfl)⟩
theorem xl_11_67 : xLok (11, 67, 109) := ⟨by decide, by decide, Or.inl (xg5 110 (by decide +kernel) rfl)⟩
theorem xl_11_186 : xLok (11, 186, 249) := ⟨by decide, by decide, Or.inl (xg5 111 (by decide +kernel) rfl)⟩
theorem xl_11_70 : xLok (11, 70, 111) := ⟨by decide, by decide, Or.inl (xg5 114 (by decide +kernel) rfl)⟩
theorem xl_11_189 : xLok (11, 189, 250) := ⟨by decide, by decide, Or.inl (xg5 115 (by decide +kernel) rfl)⟩
theorem xl_11_73 : xLok (11, 73, 114) := ⟨by decide, by decide, Or.inl (xg5 118 (by decide +kernel) rfl)⟩
theorem xl_11_192 : xLok (11, 192, 251) := ⟨by decide, by decide, Or.inl (xg5 119 (by decide +kernel) rfl)⟩
theorem xl_11_76 : xLok (11, 76, 138) := ⟨by decide, by decide, Or.inl (xg5 122 (by decide +kernel) rfl)⟩
theorem xl_11_199 : xLok (11, 199, 252) := ⟨by decide, by decide, Or.inl (xg5 131 (by decide +kernel) rfl)⟩
theorem xl_11_79 : xLok (11, 79, 139) := ⟨by decide, by decide, Or.inl (xg5 134 (by decide +kernel) rfl)⟩
theorem xl_11_206 : xLok (11, 206, 253) := ⟨by decide, by decide, Or.inl (xg5 139 (by decide +kernel) rfl)⟩
theorem xl_11_82 : xLok (11, 82, 105) := ⟨by decide, by decide, Or.inl (xg5 142 (by decide +kernel) rfl)⟩
theorem xl_11_213 : xLok (11, 213, 254) := ⟨by decide, by decide, Or.inl (xg5 143 (by decide +kernel) rfl)⟩
theorem xl_11_85 : xLok (11, 85, 106) := ⟨by decide, by decide, Or.inl (xg5 146 (by decide +kernel) rfl)⟩
theorem xl_11_244 : xLok (11, 244, 255) := ⟨by decide, by decide, Or.inl (xg5 147 (by decide +kernel) rfl)⟩
theorem xl_11_88 : xLok (11, 88, 122) := ⟨by decide, by decide, Or.inl (xg5 150 (by decide +kernel) rfl)⟩
theorem xl_11_247 : xLok (11, 247, 256) := ⟨by decide, by decide, Or.inl (xg5 151 (by decide +kernel) rfl)⟩
theorem xl_11_91 : xLok (11, 91, 123) := ⟨by decide, by decide, Or.inl (xg5 154 (by decide +kernel) rfl)⟩
theorem xl_11_250 : xLok (11, 250, 257) := ⟨by decide, by decide, Or.inl (xg5 155 (by decide +kernel) rfl)⟩
theorem xl_11_94 : xLok (11, 94, 124) := ⟨by decide, by decide, Or.inl (xg5 158 (by decide +kernel) rfl)⟩
theorem xl_11_253 : xLok (11, 253, 258) := ⟨by decide, by decide, Or.inl (xg5 159 (by decide +kernel) rfl)⟩
theorem xl_11_97 : xLok (11, 97, 140) := ⟨by decide, by decide, Or.inl (xg5 162 (by decide +kernel) rfl)⟩
theorem xl_11_256 : xLok (11, 256, 259) := ⟨by decide, by decide, Or.inl (xg5 166 (by decide +kernel) rfl)⟩
theorem xl_11_100 : xLok (11, 100, 141) := ⟨by decide, by decide, Or.inl (xg5 169 (by decide +kernel) rfl)⟩
theorem xl_11_263 : xLok (11, 263, 260) := ⟨by decide, by decide, Or.inl (xg5 178 (by decide +kernel) rfl)⟩
theorem xl_11_103 : xLok (11, 103, 142) := ⟨by decide, by decide, Or.inl (xg5 181 (by decide +kernel) rfl)⟩
theorem xl_11_109 : xLok (11, 109, 143) := ⟨by decide, by decide, Or.inl (xg5 188 (by decide +kernel) rfl)⟩
theorem xl_11_116 : xLok (11, 116, 144) := ⟨by decide, by decide, Or.inl (xg6 88 (by decide +kernel) rfl)⟩
theorem xl_11_115 : xLok (11, 115, 145) := ⟨by decide, by decide, Or.inl (xg6 92 (by decide +kernel) rfl)⟩
theorem xl_11_122 : xLok (11, 122, 148) := ⟨by decide, by decide, Or.inl (xg6 103 (by decide +kernel) rfl)⟩
theorem xl_11_126 : xLok (11, 126, 149) := ⟨by decide, by decide, Or.inl (xg6 107 (by decide +kernel) rfl)⟩
theorem xl_11_130 : xLok (11, 130, 150) := ⟨by decide, by decide, Or.inl (xg6 111 (by decide +kernel) rfl)⟩
theorem xl_11_135 : xLok (11, 135, 156) := ⟨by decide, by decide, Or.inl (xg6 134 (by decide +kernel) rfl)⟩
theorem xl_11_139 : xLok (11, 139, 158) := ⟨by decide, by decide, Or.inl (xg6 142 (by decide +kernel) rfl)⟩
theorem xl_11_142 : xLok (11, 142, 159) := ⟨by decide, by decide, Or.inl (xg6 146 (by decide +kernel) rfl)⟩
theorem xl_11_145 : xLok (11, 145, 160) := ⟨by decide, by decide, Or.inl (xg6 150 (by decide +kernel) rfl)⟩
theorem xl_11_148 : xLok (11, 148, 161) := ⟨by decide, by decide, Or.inl (xg6 154 (by decide +kernel) rfl)⟩
theorem xl_11_151 : xLok (11, 151, 162) := ⟨by decide, by decide, Or.inl (xg6 158 (by decide +kernel) rfl)⟩
theorem xl_11_155 : xLok (11, 155, 163) := ⟨by decide, by decide, Or.inl (xg6 162 (by decide +kernel) rfl)⟩
theorem xl_11_158 : xLok (11, 158, 168) := ⟨by decide, by decide, Or.inl (xg6 181 (by decide +kernel) rfl)⟩
theorem xl_11_161 : xLok (11, 161, 170) := ⟨by decide, by decide, Or.inl (xg6 189 (by decide +kernel) rfl)⟩
theorem xl_11_164 : xLok (11, 164, 171) := ⟨by decide, by decide, Or.inl (xg6 193 (by decide +kernel) rfl)⟩
theorem xl_11_167 : xLok (11, 167, 172) := ⟨by decide, by decide, Or.inl (xg6 197 (by decide +kernel) rfl)⟩
theorem xl_11_170 : xLok (11, 170, 175) := ⟨by decide, by decide, Or.inl (xg6 208 (by decide +kernel) rfl)⟩
theorem xl_11_173 : xLok (11, 173, 176) := ⟨by decide, by decide, Or.inl (xg6 212 (by decide +kernel) rfl)⟩
theorem xl_11_176 : xLok (11, 176, 177) := ⟨by decide, by decide, Or.inl (xg6 216 (by decide +kernel) rfl)⟩
theorem xl_11_179 : xLok (11, 179, 178) := ⟨by decide, by decide, Or.inl (xg6 220 (by decide +kernel) rfl)⟩
theorem xl_11_182 : xLok (11, 182, 179) := ⟨by decide, by decide, Or.inl (xg6 224 (by decide +kernel) rfl)⟩
theorem xl_11_185 : xLok (11, 185, 180) := ⟨by decide, by decide, Or.inl (xg6 228 (by decide +kernel) rfl)⟩
theorem xl_11_188 : xLok (11, 188, 183) := ⟨by decide, by decide, Or.inl (xg7 0 (by decide +kernel) rfl)⟩
theorem xl_11_191 : xLok (11, 191, 184) := ⟨by decide, by decide, Or.inl (xg7 4 (by decide +kernel) rfl)⟩
theorem xl_11_194 : xLok (11, 194, 185) := ⟨by decide, by decide, Or.inl (xg7 8 (by decide +kernel) rfl)⟩
theorem xl_11_198 : xLok (11, 198, 202) := ⟨by decide, by decide, Or.inl (xg7 75 (by decide +kernel) rfl)⟩
theorem xl_11_201 : xLok (11, 201, 203) := ⟨by decide, by decide, Or.inl (xg7 79 (by decide +kernel) rfl)⟩
theorem xl_11_205 : xLok (11, 205, 204) := ⟨by decide, by decide, Or.inl (xg7 83 (by decide +kernel) rfl)⟩
theorem xl_11_208 : xLok (11, 208, 205) := ⟨by decide, by decide, Or.inl (xg7 87 (by decide +kernel) rfl)⟩
theorem xl_11_212 : xLok (11, 212, 206) := ⟨by decide, by decide, Or.inl (xg7 91 (by decide +kernel) rfl)⟩
theorem xl_11_215 : xLok (11, 215, 207) := ⟨by decide, by decide, Or.inl (xg7 95 (by decide +kernel) rfl)⟩
theorem xl_11_219 : xLok (11, 219, 208) := ⟨by decide, by decide, Or.inl (xg7 99 (by decide +kernel) rfl)⟩
theorem xl_11_223 : xLok (11, 223, 209) := ⟨by decide, by decide, Or.inl (xg7 103 (by decide +kernel) rfl)⟩
theorem xl_11_227 : xLok (11, 227, 210) := ⟨by decide, by decide, Or.inl (xg7 107 (by decide +kernel) rfl)⟩
theorem xl_11_231 : xLok (11, 231, 211) := ⟨by decide, by decide, Or.inl (xg7 111 (by decide +kernel) rfl)⟩
theorem xl_11_235 : xLok (11, 235, 212) := ⟨by decide, by decide, Or.inl (xg7 115 (by decide +kernel) rfl)⟩
theorem xl_11_239 : xLok (11, 239, 213) := ⟨by decide, by decide, Or.inl (xg7 119 (by decide +kernel) rfl)⟩
theorem xl_11_243 : xLok (11, 243, 214) := ⟨by decide, by decide, Or.inl (xg7 123 (by decide +kernel) rfl)⟩
theorem xl_11_246 : xLok (11, 246, 215) := ⟨by decide, by decide, Or.inl (xg7 127 (by decide +kernel) rfl)⟩
theorem xl_11_249 : xLok (11, 249, 217) := ⟨by decide, by decide, Or.inl (xg7 135 (by decide +kernel) rfl)⟩
theorem xl_11_252 : xLok (11, 252, 218) := ⟨by decide, by decide, Or.inl (xg7 140 (by decide +kernel) rfl)⟩
theorem xl_11_255 : xLok (11, 255, 220) := ⟨by decide, by decide, Or.inl (xg7 148 (by decide +kernel) rfl)⟩
theorem xl_11_258 : xLok (11, 258, 221) := ⟨by decide, by decide, Or.inl (xg7 152 (by decide +kernel) rfl)⟩
theorem xl_11_262 : xLok (11, 262, 222) := ⟨by decide, by decide, Or.inl (xg7 156 (by decide +kernel) rfl)⟩
theorem xl_11_265 : xLok (11, 265, 223) := ⟨by decide, by decide, Or.inl (xg7 160 (by decide +kernel) rfl)⟩
theorem xl_11_269 : xLok (11, 269, 224) := ⟨by decide, by decide, Or.inl (xg7 164 (by decide +kernel) rfl)⟩
theorem xl_11_274 : xLok (11, 274, 225) := ⟨by decide, by decide, Or.inl (xg7 168 (by decide +kernel) rfl)⟩
theorem xl_11_279 : xLok (11, 279, 227) := ⟨by decide, by decide, Or.inl (xg7 176 (by decide +kernel) rfl)⟩
def xLs_l0 : List (Nat × Nat × Nat) := [(0, 27, 2), (0, 50, 34), (0, 54, 64), (0, 57, 65), (0, 60, 35), (0, 64, 3), (0, 86, 45), (0, 99, 52), (0, 37, 66), (0, 103, 30), (0, 107, 62), (0, 111, 61), (0, 41, 31), (0, 114, 42), (0, 117, 63), (0, 82, 1)]
theorem xLs_b0 : ∀ q ∈ xLs_l0, xLok q := List.forall_mem_cons.mpr ⟨xl_0_27, List.forall_mem_cons.mpr ⟨xl_0_50, List.forall_mem_cons.mpr ⟨xl_0_54, List.forall_mem_cons.mpr ⟨xl_0_57, List.forall_mem_cons.mpr ⟨xl_0_60, List.forall_mem_cons.mpr ⟨xl_0_64, List.forall_mem_cons.mpr ⟨xl_0_86, List.forall_mem_cons.mpr ⟨xl_0_99, List.forall_mem_cons.mpr ⟨xl_0_37, List.forall_mem_cons.mpr ⟨xl_0_103, List.forall_mem_cons.mpr ⟨xl_0_107, List.forall_mem_cons.mpr ⟨xl_0_111, List.forall_mem_cons.mpr ⟨xl_0_41, List.forall_mem_cons.mpr ⟨xl_0_114, List.forall_mem_cons.mpr ⟨xl_0_117, List.forall_mem_cons.mpr ⟨xl_0_82, fun _ h => absurd h List.not_mem_nil⟩⟩⟩⟩⟩⟩⟩⟩⟩⟩⟩⟩⟩⟩⟩⟩
def xLs_l16 : List (Nat × Nat × Nat) := [(0, 120, 46), (0, 67, 4), (0, 123, 75), (0, 128, 47), (0, 132, 5), (0, 47, 67), (0, 70, 6), (0, 135, 37), (0, 73, 7), (0, 139, 38), (0, 142, 39), (0, 76, 68), (0, 79, 36), (1, 24, 51), (1, 33, 73), (1, 56, 78)]
theorem xLs_b16 : ∀ q ∈ xLs_l16, xLok q := List.forall_mem_cons.mpr ⟨xl_0_120, List.forall_mem_cons.mpr ⟨xl_0_67, List.forall_mem_cons.mpr ⟨xl_0_123, List.forall_mem_cons.mpr ⟨xl_0_128, List.forall_mem_cons.mpr ⟨xl_0_132, List.forall_mem_cons.mpr ⟨xl_0_47, List.forall_mem_cons.mpr ⟨xl_0_70, List.forall_mem_cons.mpr ⟨xl_0_135, List.forall_mem_cons.mpr ⟨xl_0_73, List.forall_mem_cons.mpr ⟨xl_0_139, List.forall_mem_cons.mpr ⟨xl_0_142, List.forall_mem_cons.mpr ⟨xl_0_76, List.forall_mem_cons.mpr ⟨xl_0_79, List.forall_mem_cons.mpr ⟨xl_1_24, List.forall_mem_cons.mpr ⟨xl_1_33, List.forall_mem_cons.mpr ⟨xl_1_56, fun _ h => absurd h List.not_mem_nil⟩⟩⟩⟩⟩⟩⟩⟩⟩⟩⟩⟩⟩⟩⟩⟩
def xLs_l32 : List (Nat × Nat × Nat) := [(1, 71, 75), (1, 75, 10), (1, 137, 46), (1, 79, 11), (1, 89, 76), (1, 82, 12), (1, 153, 13), (1, 143, 47), (1, 156, 39), (1, 85, 14), (1, 93, 34), (1, 96, 36), (1, 99, 85), (1, 102, 35), (1, 105, 15), (1, 117, 45)]
theorem xLs_b32 : ∀ q ∈ xLs_l32, xLok q := List.forall_mem_cons.mpr ⟨xl_1_71, List.forall_mem_cons.mpr ⟨xl_1_75, List.forall_mem_cons.mpr ⟨xl_1_137, List.forall_mem_cons.mpr ⟨xl_1_79, List.forall_mem_cons.mpr ⟨xl_1_89, List.forall_mem_cons.mpr ⟨xl_1_82, List.forall_mem_cons.mpr ⟨xl_1_153, List.forall_mem_cons.mpr ⟨xl_1_143, List.forall_mem_cons.mpr ⟨xl_1_156, List.forall_mem_cons.mpr ⟨xl_1_85, List.forall_mem_cons.mpr ⟨xl_1_93, List.forall_mem_cons.mpr ⟨xl_1_96, List.forall_mem_cons.mpr ⟨xl_1_99, List.forall_mem_cons.mpr ⟨xl_1_102, List.forall_mem_cons.mpr ⟨xl_1_105, List.forall_mem_cons.mpr ⟨xl_1_117, fun _ h => absurd h List.not_mem_nil⟩⟩⟩⟩⟩⟩⟩⟩⟩⟩⟩⟩⟩⟩⟩⟩
def xLs_l48 : List (Nat × Nat × Nat) := [(1, 123, 52), (1, 127, 62), (1, 130, 16), (1, 134, 42), (1, 108, 17), (1, 140, 18), (1, 111, 19), (1, 147, 37), (1, 114, 20), (1, 151, 38), (2, 17, 48), (2, 22, 24), (2, 25, 49), (3, 11, 73), (3, 20, 74), (3, 47, 77)]
theorem xLs_b48 : ∀ q ∈ xLs_l48, xLok q := List.forall_mem_cons.mpr ⟨xl_1_123, List.forall_mem_cons.mpr ⟨xl_1_127, List.forall_mem_cons.mpr ⟨xl_1_130, List.forall_mem_cons.mpr ⟨xl_1_134, List.forall_mem_cons.mpr ⟨xl_1_108, List.forall_mem_cons.mpr ⟨xl_1_140, List.forall_mem_cons.mpr ⟨xl_1_111, List.forall_mem_cons.mpr ⟨xl_1_147, List.forall_mem_cons.mpr ⟨xl_1_114, List.forall_mem_cons.mpr ⟨xl_1_151, List.forall_mem_cons.mpr ⟨xl_2_17, List.forall_mem_cons.mpr ⟨xl_2_22, List.forall_mem_cons.mpr ⟨xl_2_25, List.forall_mem_cons.mpr ⟨xl_3_11, List.forall_mem_cons.mpr ⟨xl_3_20, List.forall_mem_cons.mpr ⟨xl_3_47, fun _ h => absurd h List.not_mem_nil⟩⟩⟩⟩⟩⟩⟩⟩⟩⟩⟩⟩⟩⟩⟩⟩
def xLs_l64 : List (Nat × Nat × Nat) := [(3, 51, 28), (3, 55, 30), (4, 11, 26), (4, 20, 40), (4, 27, 73), (4, 34, 29), (4, 37, 41), (4, 63, 45), (4, 70, 75), (4, 73, 76), (4, 77, 113), (4, 81, 36), (4, 47, 79), (4, 84, 74), (4, 93, 44), (5, 11, 73)]
theorem xLs_b64 : ∀ q ∈ xLs_l64, xLok q := List.forall_mem_cons.mpr ⟨xl_3_51, List.forall_mem_cons.mpr ⟨xl_3_55, List.forall_mem_cons.mpr ⟨xl_4_11, List.forall_mem_cons.mpr ⟨xl_4_20, List.forall_mem_cons.mpr ⟨xl_4_27, List.forall_mem_cons.mpr ⟨xl_4_34, List.forall_mem_cons.mpr ⟨xl_4_37, List.forall_mem_cons.mpr ⟨xl_4_63, List.forall_mem_cons.mpr ⟨xl_4_70, List.forall_mem_cons.mpr ⟨xl_4_73, List.forall_mem_cons.mpr ⟨xl_4_77, List.forall_mem_cons.mpr ⟨xl_4_81, List.forall_mem_cons.mpr ⟨xl_4_47, List.forall_mem_cons.mpr ⟨xl_4_84, List.forall_mem_cons.mpr ⟨xl_4_93, List.forall_mem_cons.mpr ⟨xl_5_11, fun _ h => absurd h List.not_mem_nil⟩⟩⟩⟩⟩⟩⟩⟩⟩⟩⟩⟩⟩⟩⟩⟩
def xLs_l80 : List (Nat × Nat × Nat) := [(5, 24, 42), (5, 32, 43), (5, 36, 80), (5, 28, 44), (5, 49, 78), (5, 46, 75), (5, 52, 74), (5, 55, 79), (5, 59, 76), (6, 11, 73), (6, 22, 26), (6, 27, 77), (6, 31, 27), (6, 51, 75), (7, 50, 75), (7, 62, 76)]
theorem xLs_b80 : ∀ q ∈ xLs_l80, xLok q := List.forall_mem_cons.mpr ⟨xl_5_24, List.forall_mem_cons.mpr ⟨xl_5_32, List.forall_mem_cons.mpr ⟨xl_5_36, List.forall_mem_cons.mpr ⟨xl_5_28, List.forall_mem_cons.mpr ⟨xl_5_49, List.forall_mem_cons.mpr ⟨xl_5_46, List.forall_mem_cons.mpr ⟨xl_5_52, List.forall_mem_cons.mpr ⟨xl_5_55, List.forall_mem_cons.mpr ⟨xl_5_59, List.forall_mem_cons.mpr ⟨xl_6_11, List.forall_mem_cons.mpr ⟨xl_6_22, List.forall_mem_cons.mpr ⟨xl_6_27, List.forall_mem_cons.mpr ⟨xl_6_31, List.forall_mem_cons.mpr ⟨xl_6_51, List.forall_mem_cons.mpr ⟨xl_7_50, List.forall_mem_cons.mpr ⟨xl_7_62, fun _ h => absurd h List.not_mem_nil⟩⟩⟩⟩⟩⟩⟩⟩⟩⟩⟩⟩⟩⟩⟩⟩
def xLs_l96 : List (Nat × Nat × Nat) := [(7, 66, 53), (7, 76, 54), (7, 80, 55), (7, 83, 85), (7, 86, 56), (7, 90, 57), (7, 93, 58), (7, 97, 59), (7, 100, 60), (7, 70, 64), (7, 73, 65), (8, 39, 78), (8, 29, 75), (8, 36, 76), (9, 11, 73), (9, 18, 74)]
theorem xLs_b96 : ∀ q ∈ xLs_l96, xLok q := List.forall_mem_cons.mpr ⟨xl_7_66, List.forall_mem_cons.mpr ⟨xl_7_76, List.forall_mem_cons.mpr ⟨xl_7_80, List.forall_mem_cons.mpr ⟨xl_7_83, List.forall_mem_cons.mpr ⟨xl_7_86, List.forall_mem_cons.mpr ⟨xl_7_90, List.forall_mem_cons.mpr ⟨xl_7_93, List.forall_mem_cons.mpr ⟨xl_7_97, List.forall_mem_cons.mpr ⟨xl_7_100, List.forall_mem_cons.mpr ⟨xl_7_70, List.forall_mem_cons.mpr ⟨xl_7_73, List.forall_mem_cons.mpr ⟨xl_8_39, List.forall_mem_cons.mpr ⟨xl_8_29, List.forall_mem_cons.mpr ⟨xl_8_36, List.forall_mem_cons.mpr ⟨xl_9_11, List.forall_mem_cons.mpr ⟨xl_9_18, fun _ h => absurd h List.not_mem_nil⟩⟩⟩⟩⟩⟩⟩⟩⟩⟩⟩⟩⟩⟩⟩⟩
def xLs_l112 : List (Nat × Nat × Nat) := [(9, 27, 51), (9, 36, 32), (9, 43, 0), (9, 52, 8), (9, 59, 48), (9, 69, 21), (9, 92, 75), (9, 96, 52), (9, 100, 61), (9, 104, 62), (9, 250, 49), (9, 188, 87), (9, 247, 22), (9, 255, 93), (9, 260, 101), (9, 272, 102)]
theorem xLs_b112 : ∀ q ∈ xLs_l112, xLok q := List.forall_mem_cons.mpr ⟨xl_9_27, List.forall_mem_cons.mpr ⟨xl_9_36, List.forall_mem_cons.mpr ⟨xl_9_43, List.forall_mem_cons.mpr ⟨xl_9_52, List.forall_mem_cons.mpr ⟨xl_9_59, List.forall_mem_cons.mpr ⟨xl_9_69, List.forall_mem_cons.mpr ⟨xl_9_92, List.forall_mem_cons.mpr ⟨xl_9_96, List.forall_mem_cons.mpr ⟨xl_9_100, List.forall_mem_cons.mpr ⟨xl_9_104, List.forall_mem_cons.mpr ⟨xl_9_250, List.forall_mem_cons.mpr ⟨xl_9_188, List.forall_mem_cons.mpr ⟨xl_9_247, List.forall_mem_cons.mpr ⟨xl_9_255, List.forall_mem_cons.mpr ⟨xl_9_260, List.forall_mem_cons.mpr ⟨xl_9_272, fun _ h => absurd h List.not_mem_nil⟩⟩⟩⟩⟩⟩⟩⟩⟩⟩⟩⟩⟩⟩⟩⟩
def xLs_l128 : List (Nat × Nat × Nat) := [(9, 282, 103), (9, 177, 76), (9, 197, 88), (9, 268, 104), (9, 349, 105), (9, 205, 89), (9, 352, 106), (9, 210, 28), (9, 355, 90), (9, 358, 91), (9, 361, 92), (9, 364, 94), (9, 367, 95), (9, 370, 96), (9, 373, 98), (9, 264, 107)]
theorem xLs_b128 : ∀ q ∈ xLs_l128, xLok q := List.forall_mem_cons.mpr ⟨xl_9_282, List.forall_mem_cons.mpr ⟨xl_9_177, List.forall_mem_cons.mpr ⟨xl_9_197, List.forall_mem_cons.mpr ⟨xl_9_268, List.forall_mem_cons.mpr ⟨xl_9_349, List.forall_mem_cons.mpr ⟨xl_9_205, List.forall_mem_cons.mpr ⟨xl_9_352, List.forall_mem_cons.mpr ⟨xl_9_210, List.forall_mem_cons.mpr ⟨xl_9_355, List.forall_mem_cons.mpr ⟨xl_9_358, List.forall_mem_cons.mpr ⟨xl_9_361, List.forall_mem_cons.mpr ⟨xl_9_364, List.forall_mem_cons.mpr ⟨xl_9_367, List.forall_mem_cons.mpr ⟨xl_9_370, List.forall_mem_cons.mpr ⟨xl_9_373, List.forall_mem_cons.mpr ⟨xl_9_264, fun _ h => absurd h List.not_mem_nil⟩⟩⟩⟩⟩⟩⟩⟩⟩⟩⟩⟩⟩⟩⟩⟩
def xLs_l144 : List (Nat × Nat × Nat) := [(9, 126, 108), (9, 276, 109), (9, 138, 110), (9, 279, 111), (9, 154, 112), (9, 340, 113), (9, 81, 79), (9, 286, 114), (9, 180, 115), (9, 234, 33), (9, 111, 63), (9, 343, 1), (9, 289, 86), (9, 292, 116), (9, 108, 117), (9, 295, 118)]
theorem xLs_b144 : ∀ q ∈ xLs_l144, xLok q := List.forall_mem_cons.mpr ⟨xl_9_126, List.forall_mem_cons.mpr ⟨xl_9_276, List.forall_mem_cons.mpr ⟨xl_9_138, List.forall_mem_cons.mpr ⟨xl_9_279, List.forall_mem_cons.mpr ⟨xl_9_154, List.forall_mem_cons.mpr ⟨xl_9_340, List.forall_mem_cons.mpr ⟨xl_9_81, List.forall_mem_cons.mpr ⟨xl_9_286, List.forall_mem_cons.mpr ⟨xl_9_180, List.forall_mem_cons.mpr ⟨xl_9_234, List.forall_mem_cons.mpr ⟨xl_9_111, List.forall_mem_cons.mpr ⟨xl_9_343, List.forall_mem_cons.mpr ⟨xl_9_289, List.forall_mem_cons.mpr ⟨xl_9_292, List.forall_mem_cons.mpr ⟨xl_9_108, List.forall_mem_cons.mpr ⟨xl_9_295, fun _ h => absurd h List.not_mem_nil⟩⟩⟩⟩⟩⟩⟩⟩⟩⟩⟩⟩⟩⟩⟩⟩
def xLs_l160 : List (Nat × Nat × Nat) := [(9, 114, 69), (9, 298, 119), (9, 117, 70), (9, 301, 120), (9, 120, 71), (9, 304, 121), (9, 123, 72), (9, 307, 122), (9, 310, 123), (9, 237, 9), (9, 313, 124), (9, 316, 84), (9, 319, 99), (9, 323, 125), (9, 78, 127), (9, 134, 23)]
theorem xLs_b160 : ∀ q ∈ xLs_l160, xLok q := List.forall_mem_cons.mpr ⟨xl_9_114, List.forall_mem_cons.mpr ⟨xl_9_298, List.forall_mem_cons.mpr ⟨xl_9_117, List.forall_mem_cons.mpr ⟨xl_9_301, List.forall_mem_cons.mpr ⟨xl_9_120, List.forall_mem_cons.mpr ⟨xl_9_304, List.forall_mem_cons.mpr ⟨xl_9_123, List.forall_mem_cons.mpr ⟨xl_9_307, List.forall_mem_cons.mpr ⟨xl_9_310, List.forall_mem_cons.mpr ⟨xl_9_237, List.forall_mem_cons.mpr ⟨xl_9_313, List.forall_mem_cons.mpr ⟨xl_9_316, List.forall_mem_cons.mpr ⟨xl_9_319, List.forall_mem_cons.mpr ⟨xl_9_323, List.forall_mem_cons.mpr ⟨xl_9_78, List.forall_mem_cons.mpr ⟨xl_9_134, fun _ h => absurd h List.not_mem_nil⟩⟩⟩⟩⟩⟩⟩⟩⟩⟩⟩⟩⟩⟩⟩⟩
def xLs_l176 : List (Nat × Nat × Nat) := [(9, 141, 80), (9, 150, 78), (9, 168, 134), (9, 184, 50), (9, 241, 25), (10, 74, 146), (10, 221, 147), (10, 217, 151), (10, 126, 152), (10, 112, 153), (10, 94, 154), (10, 97, 155), (10, 224, 157), (10, 227, 164), (10, 78, 165), (10, 230, 166)]
theorem xLs_b176 : ∀ q ∈ xLs_l176, xLok q := List.forall_mem_cons.mpr ⟨xl_9_141, List.forall_mem_cons.mpr ⟨xl_9_150, List.forall_mem_cons.mpr ⟨xl_9_168, List.forall_mem_cons.mpr ⟨xl_9_184, List.forall_mem_cons.mpr ⟨xl_9_241, List.forall_mem_cons.mpr ⟨xl_10_74, List.forall_mem_cons.mpr ⟨xl_10_221, List.forall_mem_cons.mpr ⟨xl_10_217, List.forall_mem_cons.mpr ⟨xl_10_126, List.forall_mem_cons.mpr ⟨xl_10_112, List.forall_mem_cons.mpr ⟨xl_10_94, List.forall_mem_cons.mpr ⟨xl_10_97, List.forall_mem_cons.mpr ⟨xl_10_224, List.forall_mem_cons.mpr ⟨xl_10_227, List.forall_mem_cons.mpr ⟨xl_10_78, List.forall_mem_cons.mpr ⟨xl_10_230, fun _ h => absurd h List.not_mem_nil⟩⟩⟩⟩⟩⟩⟩⟩⟩⟩⟩⟩⟩⟩⟩⟩
def xLs_l192 : List (Nat × Nat × Nat) := [(10, 233, 167), (10, 236, 169), (10, 239, 173), (10, 173, 174), (10, 245, 181), (10, 242, 182), (10, 248, 186), (10, 166, 187), (10, 132, 188), (10, 181, 189), (10, 207, 190), (10, 211, 191), (10, 169, 192), (10, 214, 193), (10, 147, 194), (10, 204, 195)]
theorem xLs_b192 : ∀ q ∈ xLs_l192, xLok q := List.forall_mem_cons.mpr ⟨xl_10_233, List.forall_mem_cons.mpr ⟨xl_10_236, List.forall_mem_cons.mpr ⟨xl_10_239, List.forall_mem_cons.mpr ⟨xl_10_173, List.forall_mem_cons.mpr ⟨xl_10_245, List.forall_mem_cons.mpr ⟨xl_10_242, List.forall_mem_cons.mpr ⟨xl_10_248, List.forall_mem_cons.mpr ⟨xl_10_166, List.forall_mem_cons.mpr ⟨xl_10_132, List.forall_mem_cons.mpr ⟨xl_10_181, List.forall_mem_cons.mpr ⟨xl_10_207, List.forall_mem_cons.mpr ⟨xl_10_211, List.forall_mem_cons.mpr ⟨xl_10_169, List.forall_mem_cons.mpr ⟨xl_10_214, List.forall_mem_cons.mpr ⟨xl_10_147, List.forall_mem_cons.mpr ⟨xl_10_204, fun _ h => absurd h List.not_mem_nil⟩⟩⟩⟩⟩⟩⟩⟩⟩⟩⟩⟩⟩⟩⟩⟩
def xLs_l208 : List (Nat × Nat × Nat) := [(10, 188, 196), (10, 191, 197), (10, 177, 198), (10, 195, 199), (10, 198, 200), (10, 185, 201), (10, 251, 216), (10, 254, 215), (10, 257, 219), (10, 263, 226), (10, 279, 228), (10, 285, 229), (10, 288, 230), (10, 291, 231), (11, 106, 81), (11, 119, 82)]
theorem xLs_b208 : ∀ q ∈ xLs_l208, xLok q := List.forall_mem_cons.mpr ⟨xl_10_188, List.forall_mem_cons.mpr ⟨xl_10_191, List.forall_mem_cons.mpr ⟨xl_10_177, List.forall_mem_cons.mpr ⟨xl_10_195, List.forall_mem_cons.mpr ⟨xl_10_198, List.forall_mem_cons.mpr ⟨xl_10_185, List.forall_mem_cons.mpr ⟨xl_10_251, List.forall_mem_cons.mpr ⟨xl_10_254, List.forall_mem_cons.mpr ⟨xl_10_257, List.forall_mem_cons.mpr ⟨xl_10_263, List.forall_mem_cons.mpr ⟨xl_10_279, List.forall_mem_cons.mpr ⟨xl_10_285, List.forall_mem_cons.mpr ⟨xl_10_288, List.forall_mem_cons.mpr ⟨xl_10_291, List.forall_mem_cons.mpr ⟨xl_11_106, List.forall_mem_cons.mpr ⟨xl_11_119, fun _ h => absurd h List.not_mem_nil⟩⟩⟩⟩⟩⟩⟩⟩⟩⟩⟩⟩⟩⟩⟩⟩
def xLs_l224 : List (Nat × Nat × Nat) := [(11, 123, 83), (11, 127, 84), (11, 131, 86), (11, 195, 87), (11, 202, 88), (11, 209, 89), (11, 216, 90), (11, 220, 91), (11, 224, 92), (11, 228, 93), (11, 232, 94), (11, 236, 95), (11, 240, 96), (11, 259, 97), (11, 266, 98), (11, 270, 99)]
theorem xLs_b224 : ∀ q ∈ xLs_l224, xLok q := List.forall_mem_cons.mpr ⟨xl_11_123, List.forall_mem_cons.mpr ⟨xl_11_127, List.forall_mem_cons.mpr ⟨xl_11_131, List.forall_mem_cons.mpr ⟨xl_11_195, List.forall_mem_cons.mpr ⟨xl_11_202, List.forall_mem_cons.mpr ⟨xl_11_209, List.forall_mem_cons.mpr ⟨xl_11_216, List.forall_mem_cons.mpr ⟨xl_11_220, List.forall_mem_cons.mpr ⟨xl_11_224, List.forall_mem_cons.mpr ⟨xl_11_228, List.forall_mem_cons.mpr ⟨xl_11_232, List.forall_mem_cons.mpr ⟨xl_11_236, List.forall_mem_cons.mpr ⟨xl_11_240, List.forall_mem_cons.mpr ⟨xl_11_259, List.forall_mem_cons.mpr ⟨xl_11_266, List.forall_mem_cons.mpr ⟨xl_11_270, fun _ h => absurd h List.not_mem_nil⟩⟩⟩⟩⟩⟩⟩⟩⟩⟩⟩⟩⟩⟩⟩⟩
def xLs_l240 : List (Nat × Nat × Nat) := [(11, 275, 100), (11, 110, 232), (11, 7, 126), (11, 136, 233), (11, 17, 116), (11, 140, 234), (11, 21, 118), (11, 143, 235), (11, 24, 119), (11, 146, 236), (11, 27, 120), (11, 149, 237), (11, 30, 121), (11, 152, 238), (11, 33, 128), (11, 156, 239)]
theorem xLs_b240 : ∀ q ∈ xLs_l240, xLok q := List.forall_mem_cons.mpr ⟨xl_11_275, List.forall_mem_cons.mpr ⟨xl_11_110, List.forall_mem_cons.mpr ⟨xl_11_7, List.forall_mem_cons.mpr ⟨xl_11_136, List.forall_mem_cons.mpr ⟨xl_11_17, List.forall_mem_cons.mpr ⟨xl_11_140, List.forall_mem_cons.mpr ⟨xl_11_21, List.forall_mem_cons.mpr ⟨xl_11_143, List.forall_mem_cons.mpr ⟨xl_11_24, List.forall_mem_cons.mpr ⟨xl_11_146, List.forall_mem_cons.mpr ⟨xl_11_27, List.forall_mem_cons.mpr ⟨xl_11_149, List.forall_mem_cons.mpr ⟨xl_11_30, List.forall_mem_cons.mpr ⟨xl_11_152, List.forall_mem_cons.mpr ⟨xl_11_33, List.forall_mem_cons.mpr ⟨xl_11_156, fun _ h => absurd h List.not_mem_nil⟩⟩⟩⟩⟩⟩⟩⟩⟩⟩⟩⟩⟩⟩⟩⟩
def xLs_l256 : List (Nat × Nat × Nat) := [(11, 39, 129), (11, 159, 240), (11, 42, 130), (11, 162, 241), (11, 45, 131), (11, 165, 242), (11, 48, 132), (11, 168, 243), (11, 51, 133), (11, 171, 244), (11, 54, 135), (11, 174, 245), (11, 57, 107), (11, 177, 246), (11, 61, 136), (11, 180, 247)]
theorem xLs_b256 : ∀ q ∈ xLs_l256, xLok q := List.forall_mem_cons.mpr ⟨xl_11_39, List.forall_mem_cons.mpr ⟨xl_11_159, List.forall_mem_cons.mpr ⟨xl_11_42, List.forall_mem_cons.mpr ⟨xl_11_162, List.forall_mem_cons.mpr ⟨xl_11_45, List.forall_mem_cons.mpr ⟨xl_11_165, List.forall_mem_cons.mpr ⟨xl_11_48, List.forall_mem_cons.mpr ⟨xl_11_168, List.forall_mem_cons.mpr ⟨xl_11_51, List.forall_mem_cons.mpr ⟨xl_11_171, List.forall_mem_cons.mpr ⟨xl_11_54, List.forall_mem_cons.mpr ⟨xl_11_174, List.forall_mem_cons.mpr ⟨xl_11_57, List.forall_mem_cons.mpr ⟨xl_11_177, List.forall_mem_cons.mpr ⟨xl_11_61, List.forall_mem_cons.mpr ⟨xl_11_180, fun _ h => absurd h List.not_mem_nil⟩⟩⟩⟩⟩⟩⟩⟩⟩⟩⟩⟩⟩⟩⟩⟩
def xLs_l272 : List (Nat × Nat × Nat) := [(11, 64, 137), (11, 183, 248), (11, 67, 109), (11, 186, 249), (11, 70, 111), (11, 189, 250), (11, 73, 114), (11, 192, 251), (11, 76, 138), (11, 199, 252), (11, 79, 139), (11, 206, 253), (11, 82, 105), (11, 213, 254), (11, 85, 106), (11, 244, 255)]
theorem xLs_b272 : ∀ q ∈ xLs_l272, xLok q := List.forall_mem_cons.mpr ⟨xl_11_64, List.forall_mem_cons.mpr ⟨xl_11_183, List.forall_mem_cons.mpr ⟨xl_11_67, List.forall_mem_cons.mpr ⟨xl_11_186, List.forall_mem_cons.mpr ⟨xl_11_70, List.forall_mem_cons.mpr ⟨xl_11_189, List.forall_mem_cons.mpr ⟨xl_11_73, List.forall_mem_cons.mpr ⟨xl_11_192, List.forall_mem_cons.mpr ⟨xl_11_76, List.forall_mem_cons.mpr ⟨xl_11_199, List.forall_mem_cons.mpr ⟨xl_11_79, List.forall_mem_cons.mpr ⟨xl_11_206, List.forall_mem_cons.mpr ⟨xl_11_82, List.forall_mem_cons.mpr ⟨xl_11_213, List.forall_mem_cons.mpr ⟨xl_11_85, List.forall_mem_cons.mpr ⟨xl_11_244, fun _ h => absurd h List.not_mem_nil⟩⟩⟩⟩⟩⟩⟩⟩⟩⟩⟩⟩⟩⟩⟩⟩
def xLs_l288 : List (Nat × Nat × Nat) := [(11, 88, 122), (11, 247, 256), (11, 91, 123), (11, 250, 257), (11, 94, 124), (11, 253, 258), (11, 97, 140), (11, 256, 259), (11, 100, 141), (11, 263, 260), (11, 103, 142), (11, 109, 143), (11, 116, 144), (11, 115, 145), (11, 122, 148), (11, 126, 149)]
theorem xLs_b288 : ∀ q ∈ xLs_l288, xLok q := List.forall_mem_cons.mpr ⟨xl_11_88, List.forall_mem_cons.mpr ⟨xl_11_247, List.forall_mem_cons.mpr ⟨xl_11_91, List.forall_mem_cons.mpr ⟨xl_11_250, List.forall_mem_cons.mpr ⟨xl_11_94, List.forall_mem_cons.mpr ⟨xl_11_253, List.forall_mem_cons.mpr ⟨xl_11_97, List.forall_mem_cons.mpr ⟨xl_11_256, List.forall_mem_cons.mpr ⟨xl_11_100, List.forall_mem_cons.mpr ⟨xl_11_263, List.forall_mem_cons.mpr ⟨xl_11_103, List.forall_mem_cons.mpr ⟨xl_11_109, List.forall_mem_cons.mpr ⟨xl_11_116, List.forall_mem_cons.mpr ⟨xl_11_115, List.forall_mem_cons.mpr ⟨xl_11_122, List.forall_mem_cons.mpr ⟨xl_11_126, fun _ h => absurd h List.not_mem_nil⟩⟩⟩⟩⟩⟩⟩⟩⟩⟩⟩⟩⟩⟩⟩⟩
def xLs_l304 : List (Nat × Nat × Nat) := [(11, 130, 150), (11, 135, 156), (11, 139, 158), (11, 142, 159), (11, 145, 160), (11, 148, 161), (11, 151, 162), (11, 155, 163), (11, 158, 168), (11, 161, 170), (11, 164, 171), (11, 167, 172), (11, 170, 175), (11, 173, 176), (11, 176, 177), (11, 179, 178)]
theorem xLs_b304 : ∀ q ∈ xLs_l304, xLok q := List.forall_mem_cons.mpr ⟨xl_11_130, List.forall_mem_cons.mpr ⟨xl_11_135, List.forall_mem_cons.mpr ⟨xl_11_139, List.forall_mem_cons.mpr ⟨xl_11_142, List.forall_mem_cons.mpr ⟨xl_11_145, List.forall_mem_cons.mpr ⟨xl_11_148, List.forall_mem_cons.mpr ⟨xl_11_151, List.forall_mem_cons.mpr ⟨xl_11_155, List.forall_mem_cons.mpr ⟨xl_11_158, List.forall_mem_cons.mpr ⟨xl_11_161, List.forall_mem_cons.mpr ⟨xl_11_164, List.forall_mem_cons.mpr ⟨xl_11_167, List.forall_mem_cons.mpr ⟨xl_11_170, List.forall_mem_cons.mpr ⟨xl_11_173, List.forall_mem_cons.mpr ⟨xl_11_176, List.forall_mem_cons.mpr ⟨xl_11_179, fun _ h => absurd h List.not_mem_nil⟩⟩⟩⟩⟩⟩⟩⟩⟩⟩⟩⟩⟩⟩⟩⟩
def xLs_l320 : List (Nat × Nat × Nat) := [(11, 182, 179), (11, 185, 180), (11, 188, 183), (11, 191, 184), (11, 194, 185), (11, 198, 202), (11, 201, 203), (11, 205, 204), (11, 208, 205), (11, 212, 206), (11, 215, 207), (11, 219, 208), (11, 223, 209), (11, 227, 210), (11, 231, 211), (11, 235, 212)]
theorem xLs_b320 : ∀ q ∈ xLs_l320, xLok q := List.forall_mem_cons.mpr ⟨xl_11_182, List.forall_mem_cons.mpr ⟨xl_11_185, List.forall_mem_cons.mpr ⟨xl_11_188, List.forall_mem_cons.mpr ⟨xl_11_191, List.forall_mem_cons.mpr ⟨xl_11_194, List.forall_mem_cons.mpr ⟨xl_11_198, List.forall_mem_cons.mpr ⟨xl_11_201, List.forall_mem_cons.mpr ⟨xl_11_205, List.forall_mem_cons.mpr ⟨xl_11_208, List.forall_mem_cons.mpr ⟨xl_11_212, List.forall_mem_cons.mpr ⟨xl_11_215, List.forall_mem_cons.mpr ⟨xl_11_219, List.forall_mem_cons.mpr ⟨xl_11_223, List.forall_mem_cons.mpr ⟨xl_11_227, List.forall_mem_cons.mpr ⟨xl_11_231, List.forall_mem_cons.mpr ⟨xl_11_235, fun _ h => absurd h List.not_mem_nil⟩⟩⟩⟩⟩⟩⟩⟩⟩⟩⟩⟩⟩⟩⟩⟩
def xLs_l336 : List (Nat × Nat × Nat) := [(11, 239, 213), (11, 243, 214), (11, 246, 215), (11, 249, 217), (11, 252, 218), (11, 255, 220), (11, 258, 221), (11, 262, 222), (11, 265, 223), (11, 269, 224), (11, 274, 225), (11, 279, 227)]
theorem xLs_b336 : ∀ q ∈ xLs_l336, xLok q := List.forall_mem_cons.mpr ⟨xl_11_239, List.forall_mem_cons.mpr ⟨xl_11_243, List.forall_mem_cons.mpr ⟨xl_11_246, List.forall_mem_cons.mpr ⟨xl_11_249, List.forall_mem_cons.mpr ⟨xl_11_252, List.forall_mem_cons.mpr ⟨xl_11_255, List.forall_mem_cons.mpr ⟨xl_11_258, List.forall_mem_cons.mpr ⟨xl_11_262, List.forall_mem_cons.mpr ⟨xl_11_265, List.forall_mem_cons.mpr ⟨xl_11_269, List.forall_mem_cons.mpr ⟨xl_11_274, List.forall_mem_cons.mpr ⟨xl_11_279, fun _ h => absurd h List.not_mem_nil⟩⟩⟩⟩⟩⟩⟩⟩⟩⟩⟩⟩
def xLs_l : List (Nat × Nat × Nat) := xLs_l0 ++ (xLs_l16 ++ (xLs_l32 ++ (xLs_l48 ++ (xLs_l64 ++ (xLs_l80 ++ (xLs_l96 ++ (xLs_l112 ++ (xLs_l128 ++ (xLs_l144 ++ (xLs_l160 ++ (xLs_l176 ++ (xLs_l192 ++ (xLs_l208 ++ (xLs_l224 ++ (xLs_l240 ++ (xLs_l256 ++ (xLs_l272 ++ (xLs_l288 ++ (xLs_l304 ++ (xLs_l320 ++ (xLs_l336)))))))))))))))))))))
theorem xLs_all : ∀ q ∈ xLs_l, xLok q := List.forall_mem_append.mpr ⟨xLs_b0, List.forall_mem_append.mpr ⟨xLs_b16, List.forall_mem_append.mpr ⟨xLs_b32, List.forall_mem_append.mpr ⟨xLs_b48, List.forall_mem_append.mpr ⟨xLs_b64, List.forall_mem_append.mpr ⟨xLs_b80, List.forall_mem_append.mpr ⟨xLs_b96, List.forall_mem_append.mpr ⟨xLs_b112, List.forall_mem_append.mpr ⟨xLs_b128, List.forall_mem_append.mpr ⟨xLs_b144, List.forall_mem_append.mpr ⟨xLs_b160, List.forall_mem_append.mpr ⟨xLs_b176, List.forall_mem_append.mpr ⟨xLs_b192, List.forall_mem_append.mpr ⟨xLs_b208, List.forall_mem_append.mpr ⟨xLs_b224, List.forall_mem_append.mpr ⟨xLs_b240, List.forall_mem_append.mpr ⟨xLs_b256, List.forall_mem_append.mpr ⟨xLs_b272, List.forall_mem_append.mpr ⟨xLs_b288, List.forall_mem_append.mpr ⟨xLs_b304, List.forall_mem_append.mpr ⟨xLs_b320, xLs_b336⟩⟩⟩⟩⟩⟩⟩⟩⟩⟩⟩⟩⟩⟩⟩⟩⟩⟩⟩⟩⟩
def xLin : Bool := (List.range 14).all (fun own => match xcalT[own]? with
  | some l => l.all (fun q => xLs_l.any (fun r => Nat.beq r.1 own && Nat.beq r.2.1 q.1 && Nat.beq r.2.2 q.2))
  | none => true)
theorem xLin_ok : xLin = true := by decide +kernel
theorem xcal_ok {own i mi' : Nat} (h : xcal own i = some mi') : xLok (own, i, mi') := by
  unfold xcal at h
  cases hl : xcalT[own]? with
  | none => rw [hl] at h; cases h
  | some l =>
    rw [hl] at h
    have hlt : own < xcalT.length := (List.getElem?_eq_some_iff.mp hl).1
    have hlen : xcalT.length = 14 := by decide +kernel
    have h1 := List.all_eq_true.mp xLin_ok own (List.mem_range.mpr (by omega))
    rw [hl] at h1
    have h2 := List.all_eq_true.mp h1 _ (xfin_mem h)
    obtain ⟨r, hr, h3⟩ := List.any_eq_true.mp h2
    simp only [Bool.and_eq_true] at h3
    obtain ⟨⟨e1, e2⟩, e3⟩ := h3
    have h4 := xLs_all r hr
    obtain ⟨r1, r2, r3⟩ := r
    have e1 := Nat.eq_of_beq_eq_true e1
    have e2 := Nat.eq_of_beq_eq_true e2
    have e3 := Nat.eq_of_beq_eq_true e3
    simp only at e1 e2 e3
    subst e1; subst e2; subst e3
    exact h4
