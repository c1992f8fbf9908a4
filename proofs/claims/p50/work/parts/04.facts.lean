/-! ===== what the tables say of the words: by program, each by its place ===== -/
def xG (w : Cond) : Prop := w ∈ lw_tbl ∧ goodWord w = true
theorem xg (i : Nat) {w : Cond} (h : lw_tbl[i]? = some w) (hg : goodWord w = true) : xG w := ⟨List.mem_of_getElem? h, hg⟩
theorem xh1 (i : Nat) {w : Cond} (h : tables_1_1[i]? = some w) : w ∈ lw_tbl := List.mem_append_right _ (List.mem_append_left _ (List.mem_of_getElem? h))
theorem xg1 (i : Nat) {w : Cond} (h : tables_1_1[i]? = some w) (hg : goodWord w = true) : xG w := ⟨xh1 i h, hg⟩
theorem xh2 (i : Nat) {w : Cond} (h : tables_1_2[i]? = some w) : w ∈ lw_tbl := List.mem_append_right _ (List.mem_append_right _ (List.mem_append_left _ (List.mem_of_getElem? h)))
theorem xg2 (i : Nat) {w : Cond} (h : tables_1_2[i]? = some w) (hg : goodWord w = true) : xG w := ⟨xh2 i h, hg⟩
theorem xh3 (i : Nat) {w : Cond} (h : tables_1_3[i]? = some w) : w ∈ lw_tbl := List.mem_append_right _ (List.mem_append_right _ (List.mem_append_right _ (List.mem_append_left _ (List.mem_of_getElem? h))))
theorem xg3 (i : Nat) {w : Cond} (h : tables_1_3[i]? = some w) (hg : goodWord w = true) : xG w := ⟨xh3 i h, hg⟩
theorem xh4 (i : Nat) {w : Cond} (h : tables_1_4[i]? = some w) : w ∈ lw_tbl := List.mem_append_right _ (List.mem_append_right _ (List.mem_append_right _ (List.mem_append_right _ (List.mem_append_left _ (List.mem_of_getElem? h)))))
theorem xg4 (i : Nat) {w : Cond} (h : tables_1_4[i]? = some w) (hg : goodWord w = true) : xG w := ⟨xh4 i h, hg⟩
theorem xh5 (i : Nat) {w : Cond} (h : tables_1_5[i]? = some w) : w ∈ lw_tbl := List.mem_append_right _ (List.mem_append_right _ (List.mem_append_right _ (List.mem_append_right _ (List.mem_append_right _ (List.mem_of_getElem? h)))))
theorem xg5 (i : Nat) {w : Cond} (h : tables_1_5[i]? = some w) (hg : goodWord w = true) : xG w := ⟨xh5 i h, hg⟩
theorem xfin_mem {α : Type} {l : List (Nat × α)} {p : Nat} {a : α} (h : xfin l p = some a) : (p, a) ∈ l := by
  induction l with
  | nil => cases h
  | cons q r ih =>
    obtain ⟨b, o⟩ := q
    simp only [xfin] at h
    cases hb : Nat.beq b p with
    | true =>
      rw [hb] at h
      simp only [cond_true, Option.some.injEq] at h
      subst h
      rw [Nat.eq_of_beq_eq_true hb]
      exact List.mem_cons_self
    | false =>
      rw [hb] at h
      exact List.mem_cons_of_mem _ (ih h)
theorem xfind_mem {l : List (Nat × Instr)} {p : Nat} {a : Instr} (h : xfind l p = some a) : (p, a) ∈ l := by
  induction l with
  | nil => cases h
  | cons q r ih =>
    obtain ⟨b, o⟩ := q
    simp only [xfind] at h
    cases hb : Nat.beq b p with
    | true =>
      rw [hb] at h
      simp only [cond_true, Option.some.injEq] at h
      subst h
      rw [Nat.eq_of_beq_eq_true hb]
      exact List.mem_cons_self
    | false =>
      rw [hb] at h
      exact List.mem_cons_of_mem _ (ih h)
def xyt : List (MethodName × ByteArray × Option FieldType) := [(⟨"TemplateScopes$ByParts", "<init>", "(LTemplateScopes$Rendering;)V"⟩, prog_2_method_1_code, (Option.none : Option Jvm.ClassFile.FieldType)), (⟨"TemplateScopes$ByParts", "runList", "(LTemplateScopes$Template;III)I"⟩, prog_2_method_2_code, (Option.some Jvm.ClassFile.FieldType.int)), (⟨"TemplateScopes$ByParts", "runPart", "(LTemplateScopes$Template;II)I"⟩, prog_2_method_3_code, (Option.some Jvm.ClassFile.FieldType.int)), (⟨"TemplateScopes$ByParts", "runIncluded", "(LTemplateScopes$Template;II)I"⟩, prog_2_method_5_code, (Option.some Jvm.ClassFile.FieldType.int)), (⟨"TemplateScopes$ByParts", "runLoop", "(LTemplateScopes$Template;II)I"⟩, prog_2_method_6_code, (Option.some Jvm.ClassFile.FieldType.int)), (⟨"TemplateScopes$ByParts", "runWithin", "(LTemplateScopes$Template;II)I"⟩, prog_2_method_4_code, (Option.some Jvm.ClassFile.FieldType.int)), (⟨"TemplateScopes$ByParts", "runCondition", "(LTemplateScopes$Template;II)I"⟩, prog_2_method_7_code, (Option.some Jvm.ClassFile.FieldType.int)), (⟨"TemplateScopes$ByParts", "runSetting", "(LTemplateScopes$Template;II)I"⟩, prog_2_method_8_code, (Option.some Jvm.ClassFile.FieldType.int)), (⟨"TemplateScopes$ByText", "<init>", "(LTemplateScopes$Rendering;)V"⟩, prog_3_method_1_code, (Option.none : Option Jvm.ClassFile.FieldType)), (⟨"TemplateScopes$ByText", "run", "(LTemplateScopes$Texts;)V"⟩, prog_3_method_2_code, (Option.none : Option Jvm.ClassFile.FieldType)), (⟨"TemplateScopes$ByText", "endIncluded", "()Z"⟩, prog_3_method_6_code, (Option.some Jvm.ClassFile.FieldType.boolean)), (⟨"TemplateScopes$ByText", "codeAhead", "(I)I"⟩, prog_3_method_3_code, (Option.some Jvm.ClassFile.FieldType.int)), (⟨"TemplateScopes$ByText", "endBlock", "()Z"⟩, prog_3_method_10_code, (Option.some Jvm.ClassFile.FieldType.boolean)), (⟨"TemplateScopes$ByText", "beginNextPass", "(I)Z"⟩, prog_3_method_11_code, (Option.some Jvm.ClassFile.FieldType.boolean)), (⟨"TemplateScopes$ByText", "beginPart", "()I"⟩, prog_3_method_4_code, (Option.some Jvm.ClassFile.FieldType.int)), (⟨"TemplateScopes$ByText", "beginIncluded", "(I)I"⟩, prog_3_method_5_code, (Option.some Jvm.ClassFile.FieldType.int)), (⟨"TemplateScopes$ByText", "push", "(III)Z"⟩, prog_3_method_12_code, (Option.some Jvm.ClassFile.FieldType.boolean)), (⟨"TemplateScopes$ByText", "beginLoop", "(I)I"⟩, prog_3_method_7_code, (Option.some Jvm.ClassFile.FieldType.int)), (⟨"TemplateScopes$ByText", "skipBlock", "()V"⟩, prog_3_method_13_code, (Option.none : Option Jvm.ClassFile.FieldType)), (⟨"TemplateScopes$ByText", "beginCondition", "(I)I"⟩, prog_3_method_8_code, (Option.some Jvm.ClassFile.FieldType.int)), (⟨"TemplateScopes$ByText", "beginSetting", "(I)I"⟩, prog_3_method_9_code, (Option.some Jvm.ClassFile.FieldType.int)), (⟨"TemplateScopes$History", "<init>", "()V"⟩, prog_4_method_1_code, (Option.none : Option Jvm.ClassFile.FieldType)), (⟨"TemplateScopes$History", "size", "()I"⟩, prog_4_method_2_code, (Option.some Jvm.ClassFile.FieldType.int)), (⟨"TemplateScopes$History", "push", "(LTemplateScopes$State;)V"⟩, prog_4_method_3_code, (Option.none : Option Jvm.ClassFile.FieldType)), (⟨"TemplateScopes$History", "dropOldest", "()V"⟩, prog_4_method_5_code, (Option.none : Option Jvm.ClassFile.FieldType)), (⟨"TemplateScopes$History", "pop", "(LTemplateScopes$State;)Z"⟩, prog_4_method_4_code, (Option.some Jvm.ClassFile.FieldType.boolean)), (⟨"TemplateScopes$Outcome", "<init>", "()V"⟩, prog_5_method_1_code, (Option.none : Option Jvm.ClassFile.FieldType)), (⟨"TemplateScopes$Outcome", "copyFrom", "(LTemplateScopes$Outcome;)V"⟩, prog_5_method_3_code, (Option.none : Option Jvm.ClassFile.FieldType)), (⟨"TemplateScopes$Outcome", "placeAt", "(I)I"⟩, prog_5_method_4_code, (Option.some Jvm.ClassFile.FieldType.int)), (⟨"TemplateScopes$Outcome", "begin", "()V"⟩, prog_5_method_2_code, (Option.none : Option Jvm.ClassFile.FieldType)), (⟨"TemplateScopes$Outcome", "setPlace", "(II)V"⟩, prog_5_method_5_code, (Option.none : Option Jvm.ClassFile.FieldType)), (⟨"TemplateScopes$Outcome", "fail", "(III)V"⟩, prog_5_method_6_code, (Option.none : Option Jvm.ClassFile.FieldType)), (⟨"TemplateScopes$Rendering", "<init>", "()V"⟩, prog_6_method_1_code, (Option.none : Option Jvm.ClassFile.FieldType)), (⟨"TemplateScopes$Rendering", "begin", "(LTemplateScopes$Texts;I)V"⟩, prog_6_method_2_code, (Option.none : Option Jvm.ClassFile.FieldType)), (⟨"TemplateScopes$Rendering", "countStep", "()I"⟩, prog_6_method_3_code, (Option.some Jvm.ClassFile.FieldType.int)), (⟨"TemplateScopes$Rendering", "printValue", "(II)I"⟩, prog_6_method_5_code, (Option.some Jvm.ClassFile.FieldType.int)), (⟨"TemplateScopes$Rendering", "print", "(II)I"⟩, prog_6_method_4_code, (Option.some Jvm.ClassFile.FieldType.int)), (⟨"TemplateScopes$Rendering", "holds", "(I)Z"⟩, prog_6_method_6_code, (Option.some Jvm.ClassFile.FieldType.boolean)), (⟨"TemplateScopes$Rendering", "beginSetting", "()I"⟩, prog_6_method_7_code, (Option.some Jvm.ClassFile.FieldType.int)), (⟨"TemplateScopes$Rendering", "endSetting", "(I)V"⟩, prog_6_method_8_code, (Option.none : Option Jvm.ClassFile.FieldType)), (⟨"TemplateScopes$Scopes", "<init>", "()V"⟩, prog_7_method_1_code, (Option.none : Option Jvm.ClassFile.FieldType)), (⟨"TemplateScopes$Scopes", "begin", "(LTemplateScopes$Texts;I)V"⟩, prog_7_method_2_code, (Option.none : Option Jvm.ClassFile.FieldType)), (⟨"TemplateScopes$Scopes", "openOne", "()Z"⟩, prog_7_method_3_code, (Option.some Jvm.ClassFile.FieldType.boolean)), (⟨"TemplateScopes$Scopes", "innermostRow", "(I)I"⟩, prog_7_method_8_code, (Option.some Jvm.ClassFile.FieldType.int)), (⟨"TemplateScopes$Scopes", "give", "(ILTemplateScopes$Texts;I)V"⟩, prog_7_method_6_code, (Option.none : Option Jvm.ClassFile.FieldType)), (⟨"TemplateScopes$Scopes", "rowOf", "(I)I"⟩, prog_7_method_5_code, (Option.some Jvm.ClassFile.FieldType.int)), (⟨"TemplateScopes$Scopes", "closeOne", "()V"⟩, prog_7_method_4_code, (Option.none : Option Jvm.ClassFile.FieldType)), (⟨"TemplateScopes$Scopes", "openPass", "(II)Z"⟩, prog_7_method_7_code, (Option.some Jvm.ClassFile.FieldType.boolean)), (⟨"TemplateScopes$State", "<init>", "()V"⟩, prog_8_method_1_code, (Option.none : Option Jvm.ClassFile.FieldType)), (⟨"TemplateScopes$State", "copyFrom", "(LTemplateScopes$State;)V"⟩, prog_8_method_2_code, (Option.none : Option Jvm.ClassFile.FieldType)), (⟨"TemplateScopes$State", "takeOutcome", "(LTemplateScopes$Outcome;)V"⟩, prog_8_method_3_code, (Option.none : Option Jvm.ClassFile.FieldType)), (⟨"TemplateScopes$Template", "<init>", "(ILTemplateScopes$Template;)V"⟩, prog_9_method_1_code, (Option.none : Option Jvm.ClassFile.FieldType)), (⟨"TemplateScopes$Template", "readFrom", "(LTemplateScopes$Texts;I)V"⟩, prog_9_method_2_code, (Option.none : Option Jvm.ClassFile.FieldType)), (⟨"TemplateScopes$Template", "read", "(II)Z"⟩, prog_9_method_15_code, (Option.some Jvm.ClassFile.FieldType.boolean)), (⟨"TemplateScopes$Template", "setCode", "(I)V"⟩, prog_9_method_18_code, (Option.none : Option Jvm.ClassFile.FieldType)), (⟨"TemplateScopes$Template", "kindWritten", "(I)I"⟩, prog_9_method_16_code, (Option.some Jvm.ClassFile.FieldType.int)), (⟨"TemplateScopes$Template", "setName", "(I)Z"⟩, prog_9_method_20_code, (Option.some Jvm.ClassFile.FieldType.boolean)), (⟨"TemplateScopes$Template", "setKind", "(I)Z"⟩, prog_9_method_19_code, (Option.some Jvm.ClassFile.FieldType.boolean)), (⟨"TemplateScopes$Template", "openLast", "()Z"⟩, prog_9_method_21_code, (Option.some Jvm.ClassFile.FieldType.boolean)), (⟨"TemplateScopes$Template", "closeInnermost", "()Z"⟩, prog_9_method_22_code, (Option.some Jvm.ClassFile.FieldType.boolean)), (⟨"TemplateScopes$Template", "addPart", "(II)Z"⟩, prog_9_method_17_code, (Option.some Jvm.ClassFile.FieldType.boolean)), (⟨"TemplateScopes$Template", "errorPlace", "()I"⟩, prog_9_method_3_code, (Option.some Jvm.ClassFile.FieldType.int)), (⟨"TemplateScopes$Template", "isWhole", "()Z"⟩, prog_9_method_4_code, (Option.some Jvm.ClassFile.FieldType.boolean)), (⟨"TemplateScopes$Template", "partCount", "()I"⟩, prog_9_method_5_code, (Option.some Jvm.ClassFile.FieldType.int)), (⟨"TemplateScopes$Template", "kindOf", "(I)I"⟩, prog_9_method_10_code, (Option.some Jvm.ClassFile.FieldType.int)), (⟨"TemplateScopes$Template", "nameOf", "(I)I"⟩, prog_9_method_13_code, (Option.some Jvm.ClassFile.FieldType.int)), (⟨"TemplateScopes$Template", "placeOf", "(I)I"⟩, prog_9_method_11_code, (Option.some Jvm.ClassFile.FieldType.int)), (⟨"TemplateScopes$Template", "behind", "(I)I"⟩, prog_9_method_14_code, (Option.some Jvm.ClassFile.FieldType.int)), (⟨"TemplateScopes$Template", "codeOf", "(I)I"⟩, prog_9_method_12_code, (Option.some Jvm.ClassFile.FieldType.int)), (⟨"TemplateScopes$Template", "deepest", "()I"⟩, prog_9_method_6_code, (Option.some Jvm.ClassFile.FieldType.int)), (⟨"TemplateScopes$Template", "namesUsed", "()I"⟩, prog_9_method_7_code, (Option.some Jvm.ClassFile.FieldType.int)), (⟨"TemplateScopes$Template", "namesGiven", "()I"⟩, prog_9_method_8_code, (Option.some Jvm.ClassFile.FieldType.int)), (⟨"TemplateScopes$Template", "loopCount", "()I"⟩, prog_9_method_9_code, (Option.some Jvm.ClassFile.FieldType.int)), (⟨"TemplateScopes$Texts", "<init>", "(II)V"⟩, prog_10_method_1_code, (Option.none : Option Jvm.ClassFile.FieldType)), (⟨"TemplateScopes$Texts", "clear", "(I)V"⟩, prog_10_method_4_code, (Option.none : Option Jvm.ClassFile.FieldType)), (⟨"TemplateScopes$Texts", "lengthOf", "(I)I"⟩, prog_10_method_2_code, (Option.some Jvm.ClassFile.FieldType.int)), (⟨"TemplateScopes$Texts", "codeAt", "(II)I"⟩, prog_10_method_3_code, (Option.some Jvm.ClassFile.FieldType.int)), (⟨"TemplateScopes$Texts", "copyAll", "(LTemplateScopes$Texts;)V"⟩, prog_10_method_8_code, (Option.none : Option Jvm.ClassFile.FieldType)), (⟨"TemplateScopes$Texts", "copyRow", "(ILTemplateScopes$Texts;I)V"⟩, prog_10_method_7_code, (Option.none : Option Jvm.ClassFile.FieldType)), (⟨"TemplateScopes$Texts", "add", "(II)Z"⟩, prog_10_method_6_code, (Option.some Jvm.ClassFile.FieldType.boolean)), (⟨"TemplateScopes$Texts", "remove", "(I)V"⟩, prog_10_method_5_code, (Option.none : Option Jvm.ClassFile.FieldType)), (⟨"TemplateScopes", "<init>", "()V"⟩, prog_1_method_1_code, (Option.none : Option Jvm.ClassFile.FieldType)), (⟨"TemplateScopes", "clearTemplate", "()I"⟩, prog_1_method_3_code, (Option.some Jvm.ClassFile.FieldType.int)), (⟨"TemplateScopes", "templateLength", "()I"⟩, prog_1_method_4_code, (Option.some Jvm.ClassFile.FieldType.int)), (⟨"TemplateScopes", "firstError", "()I"⟩, prog_1_method_5_code, (Option.some Jvm.ClassFile.FieldType.int)), (⟨"TemplateScopes", "nameWritten", "(I)I"⟩, prog_1_method_50_code, (Option.some Jvm.ClassFile.FieldType.int)), (⟨"TemplateScopes", "isComplete", "()Z"⟩, prog_1_method_6_code, (Option.some Jvm.ClassFile.FieldType.boolean)), (⟨"TemplateScopes", "outputLength", "()I"⟩, prog_1_method_26_code, (Option.some Jvm.ClassFile.FieldType.int)), (⟨"TemplateScopes", "hasFailed", "()Z"⟩, prog_1_method_28_code, (Option.some Jvm.ClassFile.FieldType.boolean)), (⟨"TemplateScopes", "failurePlaces", "()I"⟩, prog_1_method_30_code, (Option.some Jvm.ClassFile.FieldType.int)), (⟨"TemplateScopes", "steps", "()I"⟩, prog_1_method_32_code, (Option.some Jvm.ClassFile.FieldType.int)), (⟨"TemplateScopes", "plainPrinted", "()I"⟩, prog_1_method_33_code, (Option.some Jvm.ClassFile.FieldType.int)), (⟨"TemplateScopes", "escapesPrinted", "()I"⟩, prog_1_method_34_code, (Option.some Jvm.ClassFile.FieldType.int)), (⟨"TemplateScopes", "valuesPrinted", "()I"⟩, prog_1_method_35_code, (Option.some Jvm.ClassFile.FieldType.int)), (⟨"TemplateScopes", "renderings", "()I"⟩, prog_1_method_36_code, (Option.some Jvm.ClassFile.FieldType.int)), (⟨"TemplateScopes", "failures", "()I"⟩, prog_1_method_37_code, (Option.some Jvm.ClassFile.FieldType.int)), (⟨"TemplateScopes", "printed", "()I"⟩, prog_1_method_38_code, (Option.some Jvm.ClassFile.FieldType.int)), (⟨"TemplateScopesLaw", "cell", "([II)I"⟩, method_2_code, (Option.some Jvm.ClassFile.FieldType.int)), (⟨"TemplateScopes", "savedStates", "()I"⟩, prog_1_method_46_code, (Option.some Jvm.ClassFile.FieldType.int)), (⟨"TemplateScopes", "valueShare", "()D"⟩, prog_1_method_47_code, (Option.some Jvm.ClassFile.FieldType.double)), (⟨"TemplateScopesLaw", "low", "(II)I"⟩, method_3_code, (Option.some Jvm.ClassFile.FieldType.int)), (⟨"TemplateScopesLaw", "changes", "(LTemplateScopes;III[I)I"⟩, method_4_code, (Option.some Jvm.ClassFile.FieldType.int)), (⟨"TemplateScopesLaw", "without", "(LTemplateScopes;I)I"⟩, method_5_code, (Option.some Jvm.ClassFile.FieldType.int)), (⟨"TemplateScopesLaw", "signOf", "(I)I"⟩, method_6_code, (Option.some Jvm.ClassFile.FieldType.int)), (⟨"TemplateScopesLaw", "types", "(LTemplateScopes;LTemplateScopes;IZ)V"⟩, method_7_code, (Option.none : Option Jvm.ClassFile.FieldType)), (⟨"TemplateScopes", "failureReason", "()I"⟩, prog_1_method_29_code, (Option.some Jvm.ClassFile.FieldType.int)), (⟨"TemplateScopes", "failurePlace", "(I)I"⟩, prog_1_method_31_code, (Option.some Jvm.ClassFile.FieldType.int)), (⟨"TemplateScopes", "hasValue", "(I)Z"⟩, prog_1_method_19_code, (Option.some Jvm.ClassFile.FieldType.boolean)), (⟨"TemplateScopes", "requireVariable", "(I)V"⟩, prog_1_method_52_code, (Option.none : Option Jvm.ClassFile.FieldType)), (⟨"TemplateScopes", "isTemplate", "(I)Z"⟩, prog_1_method_22_code, (Option.some Jvm.ClassFile.FieldType.boolean)), (⟨"TemplateScopes", "requireValue", "(I)I"⟩, prog_1_method_53_code, (Option.some Jvm.ClassFile.FieldType.int)), (⟨"TemplateScopes", "escapedLength", "(I)I"⟩, prog_1_method_23_code, (Option.some Jvm.ClassFile.FieldType.int)), (⟨"TemplateScopes", "escapeAside", "(I)I"⟩, prog_1_method_56_code, (Option.some Jvm.ClassFile.FieldType.int)), (⟨"TemplateScopes", "isSpecial", "(I)Z"⟩, prog_1_method_49_code, (Option.some Jvm.ClassFile.FieldType.boolean)), (⟨"TemplateScopes", "alikeBehindEscaping", "(I)I"⟩, prog_1_method_24_code, (Option.some Jvm.ClassFile.FieldType.int)), (⟨"TemplateScopes", "runByParts", "(I)V"⟩, prog_1_method_57_code, (Option.none : Option Jvm.ClassFile.FieldType)), (⟨"TemplateScopes", "parts", "()I"⟩, prog_1_method_7_code, (Option.some Jvm.ClassFile.FieldType.int)), (⟨"TemplateScopes", "requireComplete", "()V"⟩, prog_1_method_54_code, (Option.none : Option Jvm.ClassFile.FieldType)), (⟨"TemplateScopes", "depth", "()I"⟩, prog_1_method_8_code, (Option.some Jvm.ClassFile.FieldType.int)), (⟨"TemplateScopes", "names", "()I"⟩, prog_1_method_9_code, (Option.some Jvm.ClassFile.FieldType.int)), (⟨"TemplateScopes", "namesSet", "()I"⟩, prog_1_method_10_code, (Option.some Jvm.ClassFile.FieldType.int)), (⟨"TemplateScopes", "loops", "()I"⟩, prog_1_method_11_code, (Option.some Jvm.ClassFile.FieldType.int)), (⟨"TemplateScopes", "wouldPrint", "()I"⟩, prog_1_method_39_code, (Option.some Jvm.ClassFile.FieldType.int)), (⟨"TemplateScopes", "wouldPrintByText", "()I"⟩, prog_1_method_40_code, (Option.some Jvm.ClassFile.FieldType.int)), (⟨"TemplateScopes", "wouldFail", "()I"⟩, prog_1_method_41_code, (Option.some Jvm.ClassFile.FieldType.int)), (⟨"TemplateScopesLaw", "fills", "(LTemplateScopes;LTemplateScopes;I)V"⟩, method_8_code, (Option.none : Option Jvm.ClassFile.FieldType)), (⟨"TemplateScopes", "append", "(I)I"⟩, prog_1_method_2_code, (Option.some Jvm.ClassFile.FieldType.int)), (⟨"TemplateScopes", "requireCode", "(I)V"⟩, prog_1_method_51_code, (Option.none : Option Jvm.ClassFile.FieldType)), (⟨"TemplateScopes", "appendValue", "(II)I"⟩, prog_1_method_12_code, (Option.some Jvm.ClassFile.FieldType.int)), (⟨"TemplateScopes", "removeValue", "(I)I"⟩, prog_1_method_13_code, (Option.some Jvm.ClassFile.FieldType.int)), (⟨"TemplateScopes", "emptyValue", "(I)I"⟩, prog_1_method_14_code, (Option.some Jvm.ClassFile.FieldType.int)), (⟨"TemplateScopes", "copyValue", "(II)I"⟩, prog_1_method_15_code, (Option.some Jvm.ClassFile.FieldType.int)), (⟨"TemplateScopes", "escapeValue", "(I)I"⟩, prog_1_method_16_code, (Option.some Jvm.ClassFile.FieldType.int)), (⟨"TemplateScopes", "takeOutput", "(I)I"⟩, prog_1_method_17_code, (Option.some Jvm.ClassFile.FieldType.int)), (⟨"TemplateScopes", "takeText", "(ILTemplateScopes$Texts;)I"⟩, prog_1_method_55_code, (Option.some Jvm.ClassFile.FieldType.int)), (⟨"TemplateScopes", "takeTemplate", "(I)I"⟩, prog_1_method_18_code, (Option.some Jvm.ClassFile.FieldType.int)), (⟨"TemplateScopes", "valueLength", "(I)I"⟩, prog_1_method_20_code, (Option.some Jvm.ClassFile.FieldType.int)), (⟨"TemplateScopes", "valueCharacter", "(II)I"⟩, prog_1_method_21_code, (Option.some Jvm.ClassFile.FieldType.int)), (⟨"TemplateScopes", "render", "()I"⟩, prog_1_method_25_code, (Option.some Jvm.ClassFile.FieldType.int)), (⟨"TemplateScopes", "outputCharacter", "(I)I"⟩, prog_1_method_27_code, (Option.some Jvm.ClassFile.FieldType.int)), (⟨"TemplateScopes", "wouldPrintWithout", "(I)I"⟩, prog_1_method_42_code, (Option.some Jvm.ClassFile.FieldType.int)), (⟨"TemplateScopes", "undo", "()I"⟩, prog_1_method_43_code, (Option.some Jvm.ClassFile.FieldType.int)), (⟨"TemplateScopesLaw", "act", "(LTemplateScopes;I[I)I"⟩, method_9_code, (Option.some Jvm.ClassFile.FieldType.int)), (⟨"TemplateScopesLaw", "areAlike", "(LTemplateScopes;LTemplateScopes;)Z"⟩, method_10_code, (Option.some Jvm.ClassFile.FieldType.boolean)), (⟨"TemplateScopesLaw", "isOutputSo", "(LTemplateScopes;)Z"⟩, method_11_code, (Option.some Jvm.ClassFile.FieldType.boolean)), (⟨"TemplateScopesLaw", "isTemplateSo", "(LTemplateScopes;I)Z"⟩, method_12_code, (Option.some Jvm.ClassFile.FieldType.boolean)), (⟨"TemplateScopesLaw", "isValueSo", "(LTemplateScopes;I[I)Z"⟩, method_13_code, (Option.some Jvm.ClassFile.FieldType.boolean)), (⟨"TemplateScopesLaw", "law", "([I)Z"⟩, code, ret)]
def xy (mi : Nat) : MethodName := match xyt[mi]? with
  | some q => q.1
  | none => ⟨"", "", ""⟩
def xby (mi : Nat) : ByteArray := match xyt[mi]? with
  | some q => q.2.1
  | none => ⟨#[]⟩
def xre (mi : Nat) : Option FieldType := match xyt[mi]? with
  | some q => q.2.2
  | none => none
def xRn (own : Nat) : String := match (["TemplateScopes$ByParts", "TemplateScopes$ByText", "TemplateScopes$History", "TemplateScopes$Outcome", "TemplateScopes$Rendering", "TemplateScopes$Scopes", "TemplateScopes$State", "TemplateScopes$Template", "TemplateScopes$Texts", "TemplateScopes", "TemplateScopesModel", "TemplateScopesLaw", "java/lang/Math", "java/lang/Object"] : List String)[own]? with
  | some q => q
  | none => ""
def xcw (mi : Nat) : Cond := match xhh mi with
  | [] => .code (xy mi) (xby mi) (xmaxL mi) (xre mi)
  | _ :: _ => .codeWith (xy mi) (xby mi) (xmaxL mi) (xre mi) (xhh mi)
def xlen : Instr → Nat
  | .sipush _ | .ldc_w _ | .ldc2_w _ | .iinc _ _ | .ifCond _ _ | .if_icmp _ _ | .goto _ | .ifnull _ | .ifnonnull _ | .getfield _ | .putfield _ | .new _ | .anewarray _ | .invokevirtual _ | .invokespecial _ | .invokestatic _ => 3
  | .bipush _ | .ldc _ | .iload _ | .aload _ | .lload _ | .dload _ | .istore _ | .astore _ | .lstore _ | .dstore _ | .newarray _ => 2
  | _ => 1
def xsw : Instr → Bool
  | .tableswitch _ _ _ _ | .lookupswitch _ _ => true
  | _ => false
def xjmp (pc : Nat) : Instr → Bool
  | .ifCond _ f | .if_icmp _ f | .goto f | .ifnull f | .ifnonnull f => decide (0 ≤ (pc : Int) + f)
  | .tableswitch d _ _ fs => decide (0 ≤ (pc : Int) + d) && fs.toList.all (fun f => decide (0 ≤ (pc : Int) + f))
  | .lookupswitch d ps => decide (0 ≤ (pc : Int) + d) && ps.toList.all (fun f => decide (0 ≤ (pc : Int) + f.2)) && (ps.toList.zip (ps.toList.drop 1)).all (fun (a, next) => a.1 < next.1)
  | _ => true
def xdchk (by0 : ByteArray) (pc : Nat) (op : Instr) : Bool := match decode by0 pc with
  | .ok (o, len) => decide (o = op) && (decide (len = xlen op) || xsw op) && xjmp pc op
  | .error _ => false
theorem xd_0 : xk_0.all (fun q => xdchk (xby 0) q.1 q.2) = true := by decide +kernel
theorem xd_1 : xk_1.all (fun q => xdchk (xby 1) q.1 q.2) = true := by decide +kernel
theorem xd_2 : xk_2.all (fun q => xdchk (xby 2) q.1 q.2) = true := by decide +kernel
theorem xd_3_0 : ((xk_3.drop 0).take 60).all (fun q => xdchk (xby 3) q.1 q.2) = true := by decide +kernel
theorem xd_3_60 : ((xk_3.drop 60).take 60).all (fun q => xdchk (xby 3) q.1 q.2) = true := by decide +kernel
theorem xd_3 : xk_3.all (fun q => xdchk (xby 3) q.1 q.2) = true := by
  have h : xk_3 = ((xk_3.drop 0).take 60) ++ (((xk_3.drop 60).take 60)) := by decide +kernel
  rw [h]
  simp only [List.all_append, Bool.and_eq_true]
  exact ⟨xd_3_0, xd_3_60⟩
theorem xd_4 : xk_4.all (fun q => xdchk (xby 4) q.1 q.2) = true := by decide +kernel
theorem xd_5 : xk_5.all (fun q => xdchk (xby 5) q.1 q.2) = true := by decide +kernel
theorem xd_6 : xk_6.all (fun q => xdchk (xby 6) q.1 q.2) = true := by decide +kernel
theorem xd_7 : xk_7.all (fun q => xdchk (xby 7) q.1 q.2) = true := by decide +kernel
theorem xd_8 : xk_8.all (fun q => xdchk (xby 8) q.1 q.2) = true := by decide +kernel
theorem xd_9_0 : ((xk_9.drop 0).take 60).all (fun q => xdchk (xby 9) q.1 q.2) = true := by decide +kernel
theorem xd_9_60 : ((xk_9.drop 60).take 60).all (fun q => xdchk (xby 9) q.1 q.2) = true := by decide +kernel
theorem xd_9 : xk_9.all (fun q => xdchk (xby 9) q.1 q.2) = true := by
  have h : xk_9 = ((xk_9.drop 0).take 60) ++ (((xk_9.drop 60).take 60)) := by decide +kernel
  rw [h]
  simp only [List.all_append, Bool.and_eq_true]
  exact ⟨xd_9_0, xd_9_60⟩
theorem xd_10 : xk_10.all (fun q => xdchk (xby 10) q.1 q.2) = true := by decide +kernel
theorem xd_11 : xk_11.all (fun q => xdchk (xby 11) q.1 q.2) = true := by decide +kernel
theorem xd_12 : xk_12.all (fun q => xdchk (xby 12) q.1 q.2) = true := by decide +kernel
theorem xd_13 : xk_13.all (fun q => xdchk (xby 13) q.1 q.2) = true := by decide +kernel
theorem xd_14_0 : ((xk_14.drop 0).take 60).all (fun q => xdchk (xby 14) q.1 q.2) = true := by decide +kernel
theorem xd_14_60 : ((xk_14.drop 60).take 60).all (fun q => xdchk (xby 14) q.1 q.2) = true := by decide +kernel
theorem xd_14 : xk_14.all (fun q => xdchk (xby 14) q.1 q.2) = true := by
  have h : xk_14 = ((xk_14.drop 0).take 60) ++ (((xk_14.drop 60).take 60)) := by decide +kernel
  rw [h]
  simp only [List.all_append, Bool.and_eq_true]
  exact ⟨xd_14_0, xd_14_60⟩
theorem xd_15_0 : ((xk_15.drop 0).take 60).all (fun q => xdchk (xby 15) q.1 q.2) = true := by decide +kernel
theorem xd_15_60 : ((xk_15.drop 60).take 60).all (fun q => xdchk (xby 15) q.1 q.2) = true := by decide +kernel
theorem xd_15 : xk_15.all (fun q => xdchk (xby 15) q.1 q.2) = true := by
  have h : xk_15 = ((xk_15.drop 0).take 60) ++ (((xk_15.drop 60).take 60)) := by decide +kernel
  rw [h]
  simp only [List.all_append, Bool.and_eq_true]
  exact ⟨xd_15_0, xd_15_60⟩
theorem xd_16_0 : ((xk_16.drop 0).take 60).all (fun q => xdchk (xby 16) q.1 q.2) = true := by decide +kernel
theorem xd_16_60 : ((xk_16.drop 60).take 60).all (fun q => xdchk (xby 16) q.1 q.2) = true := by decide +kernel
theorem xd_16 : xk_16.all (fun q => xdchk (xby 16) q.1 q.2) = true := by
  have h : xk_16 = ((xk_16.drop 0).take 60) ++ (((xk_16.drop 60).take 60)) := by decide +kernel
  rw [h]
  simp only [List.all_append, Bool.and_eq_true]
  exact ⟨xd_16_0, xd_16_60⟩
theorem xd_17 : xk_17.all (fun q => xdchk (xby 17) q.1 q.2) = true := by decide +kernel
theorem xd_18 : xk_18.all (fun q => xdchk (xby 18) q.1 q.2) = true := by decide +kernel
theorem xd_19 : xk_19.all (fun q => xdchk (xby 19) q.1 q.2) = true := by decide +kernel
theorem xd_20 : xk_20.all (fun q => xdchk (xby 20) q.1 q.2) = true := by decide +kernel
theorem xd_21 : xk_21.all (fun q => xdchk (xby 21) q.1 q.2) = true := by decide +kernel
theorem xd_22 : xk_22.all (fun q => xdchk (xby 22) q.1 q.2) = true := by decide +kernel
theorem xd_23 : xk_23.all (fun q => xdchk (xby 23) q.1 q.2) = true := by decide +kernel
theorem xd_24 : xk_24.all (fun q => xdchk (xby 24) q.1 q.2) = true := by decide +kernel
theorem xd_25 : xk_25.all (fun q => xdchk (xby 25) q.1 q.2) = true := by decide +kernel
theorem xd_26 : xk_26.all (fun q => xdchk (xby 26) q.1 q.2) = true := by decide +kernel
theorem xd_27 : xk_27.all (fun q => xdchk (xby 27) q.1 q.2) = true := by decide +kernel
theorem xd_28 : xk_28.all (fun q => xdchk (xby 28) q.1 q.2) = true := by decide +kernel
theorem xd_29 : xk_29.all (fun q => xdchk (xby 29) q.1 q.2) = true := by decide +kernel
theorem xd_30 : xk_30.all (fun q => xdchk (xby 30) q.1 q.2) = true := by decide +kernel
theorem xd_31 : xk_31.all (fun q => xdchk (xby 31) q.1 q.2) = true := by decide +kernel
theorem xd_32 : xk_32.all (fun q => xdchk (xby 32) q.1 q.2) = true := by decide +kernel
theorem xd_33 : xk_33.all (fun q => xdchk (xby 33) q.1 q.2) = true := by decide +kernel
theorem xd_34 : xk_34.all (fun q => xdchk (xby 34) q.1 q.2) = true := by decide +kernel
theorem xd_35 : xk_35.all (fun q => xdchk (xby 35) q.1 q.2) = true := by decide +kernel
theorem xd_36 : xk_36.all (fun q => xdchk (xby 36) q.1 q.2) = true := by decide +kernel
theorem xd_37 : xk_37.all (fun q => xdchk (xby 37) q.1 q.2) = true := by decide +kernel
theorem xd_38 : xk_38.all (fun q => xdchk (xby 38) q.1 q.2) = true := by decide +kernel
theorem xd_39 : xk_39.all (fun q => xdchk (xby 39) q.1 q.2) = true := by decide +kernel
theorem xd_40 : xk_40.all (fun q => xdchk (xby 40) q.1 q.2) = true := by decide +kernel
theorem xd_41 : xk_41.all (fun q => xdchk (xby 41) q.1 q.2) = true := by decide +kernel
theorem xd_42 : xk_42.all (fun q => xdchk (xby 42) q.1 q.2) = true := by decide +kernel
theorem xd_43 : xk_43.all (fun q => xdchk (xby 43) q.1 q.2) = true := by decide +kernel
theorem xd_44 : xk_44.all (fun q => xdchk (xby 44) q.1 q.2) = true := by decide +kernel
theorem xd_45 : xk_45.all (fun q => xdchk (xby 45) q.1 q.2) = true := by decide +kernel
theorem xd_46 : xk_46.all (fun q => xdchk (xby 46) q.1 q.2) = true := by decide +kernel
theorem xd_47 : xk_47.all (fun q => xdchk (xby 47) q.1 q.2) = true := by decide +kernel
theorem xd_48 : xk_48.all (fun q => xdchk (xby 48) q.1 q.2) = true := by decide +kernel
theorem xd_49 : xk_49.all (fun q => xdchk (xby 49) q.1 q.2) = true := by decide +kernel
theorem xd_50 : xk_50.all (fun q => xdchk (xby 50) q.1 q.2) = true := by decide +kernel
theorem xd_51 : xk_51.all (fun q => xdchk (xby 51) q.1 q.2) = true := by decide +kernel
theorem xd_52 : xk_52.all (fun q => xdchk (xby 52) q.1 q.2) = true := by decide +kernel
theorem xd_53_0 : ((xk_53.drop 0).take 60).all (fun q => xdchk (xby 53) q.1 q.2) = true := by decide +kernel
theorem xd_53_60 : ((xk_53.drop 60).take 60).all (fun q => xdchk (xby 53) q.1 q.2) = true := by decide +kernel
theorem xd_53 : xk_53.all (fun q => xdchk (xby 53) q.1 q.2) = true := by
  have h : xk_53 = ((xk_53.drop 0).take 60) ++ (((xk_53.drop 60).take 60)) := by decide +kernel
  rw [h]
  simp only [List.all_append, Bool.and_eq_true]
  exact ⟨xd_53_0, xd_53_60⟩
theorem xd_54 : xk_54.all (fun q => xdchk (xby 54) q.1 q.2) = true := by decide +kernel
theorem xd_55 : xk_55.all (fun q => xdchk (xby 55) q.1 q.2) = true := by decide +kernel
theorem xd_56 : xk_56.all (fun q => xdchk (xby 56) q.1 q.2) = true := by decide +kernel
theorem xd_57 : xk_57.all (fun q => xdchk (xby 57) q.1 q.2) = true := by decide +kernel
theorem xd_58 : xk_58.all (fun q => xdchk (xby 58) q.1 q.2) = true := by decide +kernel
theorem xd_59 : xk_59.all (fun q => xdchk (xby 59) q.1 q.2) = true := by decide +kernel
theorem xd_60_0 : ((xk_60.drop 0).take 60).all (fun q => xdchk (xby 60) q.1 q.2) = true := by decide +kernel
theorem xd_60_60 : ((xk_60.drop 60).take 60).all (fun q => xdchk (xby 60) q.1 q.2) = true := by decide +kernel
theorem xd_60 : xk_60.all (fun q => xdchk (xby 60) q.1 q.2) = true := by
  have h : xk_60 = ((xk_60.drop 0).take 60) ++ (((xk_60.drop 60).take 60)) := by decide +kernel
  rw [h]
  simp only [List.all_append, Bool.and_eq_true]
  exact ⟨xd_60_0, xd_60_60⟩
theorem xd_61 : xk_61.all (fun q => xdchk (xby 61) q.1 q.2) = true := by decide +kernel
theorem xd_62 : xk_62.all (fun q => xdchk (xby 62) q.1 q.2) = true := by decide +kernel
theorem xd_63 : xk_63.all (fun q => xdchk (xby 63) q.1 q.2) = true := by decide +kernel
theorem xd_64 : xk_64.all (fun q => xdchk (xby 64) q.1 q.2) = true := by decide +kernel
theorem xd_65 : xk_65.all (fun q => xdchk (xby 65) q.1 q.2) = true := by decide +kernel
theorem xd_66 : xk_66.all (fun q => xdchk (xby 66) q.1 q.2) = true := by decide +kernel
theorem xd_67 : xk_67.all (fun q => xdchk (xby 67) q.1 q.2) = true := by decide +kernel
theorem xd_68 : xk_68.all (fun q => xdchk (xby 68) q.1 q.2) = true := by decide +kernel
theorem xd_69 : xk_69.all (fun q => xdchk (xby 69) q.1 q.2) = true := by decide +kernel
theorem xd_70 : xk_70.all (fun q => xdchk (xby 70) q.1 q.2) = true := by decide +kernel
theorem xd_71 : xk_71.all (fun q => xdchk (xby 71) q.1 q.2) = true := by decide +kernel
theorem xd_72 : xk_72.all (fun q => xdchk (xby 72) q.1 q.2) = true := by decide +kernel
theorem xd_73 : xk_73.all (fun q => xdchk (xby 73) q.1 q.2) = true := by decide +kernel
theorem xd_74 : xk_74.all (fun q => xdchk (xby 74) q.1 q.2) = true := by decide +kernel
theorem xd_75 : xk_75.all (fun q => xdchk (xby 75) q.1 q.2) = true := by decide +kernel
theorem xd_76 : xk_76.all (fun q => xdchk (xby 76) q.1 q.2) = true := by decide +kernel
theorem xd_77 : xk_77.all (fun q => xdchk (xby 77) q.1 q.2) = true := by decide +kernel
theorem xd_78 : xk_78.all (fun q => xdchk (xby 78) q.1 q.2) = true := by decide +kernel
theorem xd_79 : xk_79.all (fun q => xdchk (xby 79) q.1 q.2) = true := by decide +kernel
theorem xd_80 : xk_80.all (fun q => xdchk (xby 80) q.1 q.2) = true := by decide +kernel
theorem xd_81_0 : ((xk_81.drop 0).take 60).all (fun q => xdchk (xby 81) q.1 q.2) = true := by decide +kernel
theorem xd_81_60 : ((xk_81.drop 60).take 60).all (fun q => xdchk (xby 81) q.1 q.2) = true := by decide +kernel
theorem xd_81 : xk_81.all (fun q => xdchk (xby 81) q.1 q.2) = true := by
  have h : xk_81 = ((xk_81.drop 0).take 60) ++ (((xk_81.drop 60).take 60)) := by decide +kernel
  rw [h]
  simp only [List.all_append, Bool.and_eq_true]
  exact ⟨xd_81_0, xd_81_60⟩
theorem xd_82 : xk_82.all (fun q => xdchk (xby 82) q.1 q.2) = true := by decide +kernel
theorem xd_83 : xk_83.all (fun q => xdchk (xby 83) q.1 q.2) = true := by decide +kernel
theorem xd_84 : xk_84.all (fun q => xdchk (xby 84) q.1 q.2) = true := by decide +kernel
theorem xd_85 : xk_85.all (fun q => xdchk (xby 85) q.1 q.2) = true := by decide +kernel
theorem xd_86 : xk_86.all (fun q => xdchk (xby 86) q.1 q.2) = true := by decide +kernel
theorem xd_87 : xk_87.all (fun q => xdchk (xby 87) q.1 q.2) = true := by decide +kernel
theorem xd_88 : xk_88.all (fun q => xdchk (xby 88) q.1 q.2) = true := by decide +kernel
theorem xd_89 : xk_89.all (fun q => xdchk (xby 89) q.1 q.2) = true := by decide +kernel
theorem xd_90 : xk_90.all (fun q => xdchk (xby 90) q.1 q.2) = true := by decide +kernel
theorem xd_91 : xk_91.all (fun q => xdchk (xby 91) q.1 q.2) = true := by decide +kernel
theorem xd_92 : xk_92.all (fun q => xdchk (xby 92) q.1 q.2) = true := by decide +kernel
theorem xd_93 : xk_93.all (fun q => xdchk (xby 93) q.1 q.2) = true := by decide +kernel
theorem xd_94 : xk_94.all (fun q => xdchk (xby 94) q.1 q.2) = true := by decide +kernel
theorem xd_95 : xk_95.all (fun q => xdchk (xby 95) q.1 q.2) = true := by decide +kernel
theorem xd_96 : xk_96.all (fun q => xdchk (xby 96) q.1 q.2) = true := by decide +kernel
theorem xd_97 : xk_97.all (fun q => xdchk (xby 97) q.1 q.2) = true := by decide +kernel
theorem xd_98 : xk_98.all (fun q => xdchk (xby 98) q.1 q.2) = true := by decide +kernel
theorem xd_99 : xk_99.all (fun q => xdchk (xby 99) q.1 q.2) = true := by decide +kernel
theorem xd_100 : xk_100.all (fun q => xdchk (xby 100) q.1 q.2) = true := by decide +kernel
theorem xd_101_0 : ((xk_101.drop 0).take 60).all (fun q => xdchk (xby 101) q.1 q.2) = true := by decide +kernel
theorem xd_101_60 : ((xk_101.drop 60).take 60).all (fun q => xdchk (xby 101) q.1 q.2) = true := by decide +kernel
theorem xd_101 : xk_101.all (fun q => xdchk (xby 101) q.1 q.2) = true := by
  have h : xk_101 = ((xk_101.drop 0).take 60) ++ (((xk_101.drop 60).take 60)) := by decide +kernel
  rw [h]
  simp only [List.all_append, Bool.and_eq_true]
  exact ⟨xd_101_0, xd_101_60⟩
theorem xd_102 : xk_102.all (fun q => xdchk (xby 102) q.1 q.2) = true := by decide +kernel
theorem xd_103 : xk_103.all (fun q => xdchk (xby 103) q.1 q.2) = true := by decide +kernel
theorem xd_104_0 : ((xk_104.drop 0).take 60).all (fun q => xdchk (xby 104) q.1 q.2) = true := by decide +kernel
theorem xd_104_60 : ((xk_104.drop 60).take 60).all (fun q => xdchk (xby 104) q.1 q.2) = true := by decide +kernel
theorem xd_104 : xk_104.all (fun q => xdchk (xby 104) q.1 q.2) = true := by
  have h : xk_104 = ((xk_104.drop 0).take 60) ++ (((xk_104.drop 60).take 60)) := by decide +kernel
  rw [h]
  simp only [List.all_append, Bool.and_eq_true]
  exact ⟨xd_104_0, xd_104_60⟩
theorem xd_105 : xk_105.all (fun q => xdchk (xby 105) q.1 q.2) = true := by decide +kernel
theorem xd_106 : xk_106.all (fun q => xdchk (xby 106) q.1 q.2) = true := by decide +kernel
theorem xd_107 : xk_107.all (fun q => xdchk (xby 107) q.1 q.2) = true := by decide +kernel
theorem xd_108 : xk_108.all (fun q => xdchk (xby 108) q.1 q.2) = true := by decide +kernel
theorem xd_109 : xk_109.all (fun q => xdchk (xby 109) q.1 q.2) = true := by decide +kernel
theorem xd_110 : xk_110.all (fun q => xdchk (xby 110) q.1 q.2) = true := by decide +kernel
theorem xd_111 : xk_111.all (fun q => xdchk (xby 111) q.1 q.2) = true := by decide +kernel
theorem xd_112 : xk_112.all (fun q => xdchk (xby 112) q.1 q.2) = true := by decide +kernel
theorem xd_113 : xk_113.all (fun q => xdchk (xby 113) q.1 q.2) = true := by decide +kernel
theorem xd_114 : xk_114.all (fun q => xdchk (xby 114) q.1 q.2) = true := by decide +kernel
theorem xd_115 : xk_115.all (fun q => xdchk (xby 115) q.1 q.2) = true := by decide +kernel
theorem xd_116 : xk_116.all (fun q => xdchk (xby 116) q.1 q.2) = true := by decide +kernel
theorem xd_117 : xk_117.all (fun q => xdchk (xby 117) q.1 q.2) = true := by decide +kernel
theorem xd_118 : xk_118.all (fun q => xdchk (xby 118) q.1 q.2) = true := by decide +kernel
theorem xd_119 : xk_119.all (fun q => xdchk (xby 119) q.1 q.2) = true := by decide +kernel
theorem xd_120 : xk_120.all (fun q => xdchk (xby 120) q.1 q.2) = true := by decide +kernel
theorem xd_121 : xk_121.all (fun q => xdchk (xby 121) q.1 q.2) = true := by decide +kernel
theorem xd_122 : xk_122.all (fun q => xdchk (xby 122) q.1 q.2) = true := by decide +kernel
theorem xd_123 : xk_123.all (fun q => xdchk (xby 123) q.1 q.2) = true := by decide +kernel
theorem xd_124 : xk_124.all (fun q => xdchk (xby 124) q.1 q.2) = true := by decide +kernel
theorem xd_125_0 : ((xk_125.drop 0).take 60).all (fun q => xdchk (xby 125) q.1 q.2) = true := by decide +kernel
theorem xd_125_60 : ((xk_125.drop 60).take 60).all (fun q => xdchk (xby 125) q.1 q.2) = true := by decide +kernel
theorem xd_125 : xk_125.all (fun q => xdchk (xby 125) q.1 q.2) = true := by
  have h : xk_125 = ((xk_125.drop 0).take 60) ++ (((xk_125.drop 60).take 60)) := by decide +kernel
  rw [h]
  simp only [List.all_append, Bool.and_eq_true]
  exact ⟨xd_125_0, xd_125_60⟩
theorem xd_126 : xk_126.all (fun q => xdchk (xby 126) q.1 q.2) = true := by decide +kernel
theorem xd_127 : xk_127.all (fun q => xdchk (xby 127) q.1 q.2) = true := by decide +kernel
theorem xd_128 : xk_128.all (fun q => xdchk (xby 128) q.1 q.2) = true := by decide +kernel
theorem xd_129 : xk_129.all (fun q => xdchk (xby 129) q.1 q.2) = true := by decide +kernel
theorem xd_130 : xk_130.all (fun q => xdchk (xby 130) q.1 q.2) = true := by decide +kernel
theorem xd_131 : xk_131.all (fun q => xdchk (xby 131) q.1 q.2) = true := by decide +kernel
theorem xd_132 : xk_132.all (fun q => xdchk (xby 132) q.1 q.2) = true := by decide +kernel
theorem xd_133 : xk_133.all (fun q => xdchk (xby 133) q.1 q.2) = true := by decide +kernel
theorem xd_134 : xk_134.all (fun q => xdchk (xby 134) q.1 q.2) = true := by decide +kernel
theorem xd_135 : xk_135.all (fun q => xdchk (xby 135) q.1 q.2) = true := by decide +kernel
theorem xd_136 : xk_136.all (fun q => xdchk (xby 136) q.1 q.2) = true := by decide +kernel
theorem xd_137 : xk_137.all (fun q => xdchk (xby 137) q.1 q.2) = true := by decide +kernel
theorem xd_138 : xk_138.all (fun q => xdchk (xby 138) q.1 q.2) = true := by decide +kernel
theorem xd_139 : xk_139.all (fun q => xdchk (xby 139) q.1 q.2) = true := by decide +kernel
theorem xd_140 : xk_140.all (fun q => xdchk (xby 140) q.1 q.2) = true := by decide +kernel
theorem xd_141 : xk_141.all (fun q => xdchk (xby 141) q.1 q.2) = true := by decide +kernel
theorem xd_142_0 : ((xk_142.drop 0).take 60).all (fun q => xdchk (xby 142) q.1 q.2) = true := by decide +kernel
theorem xd_142_60 : ((xk_142.drop 60).take 60).all (fun q => xdchk (xby 142) q.1 q.2) = true := by decide +kernel
theorem xd_142_120 : ((xk_142.drop 120).take 60).all (fun q => xdchk (xby 142) q.1 q.2) = true := by decide +kernel
theorem xd_142 : xk_142.all (fun q => xdchk (xby 142) q.1 q.2) = true := by
  have h : xk_142 = ((xk_142.drop 0).take 60) ++ (((xk_142.drop 60).take 60) ++ (((xk_142.drop 120).take 60))) := by decide +kernel
  rw [h]
  simp only [List.all_append, Bool.and_eq_true]
  exact ⟨xd_142_0, ⟨xd_142_60, xd_142_120⟩⟩
theorem xd_143_0 : ((xk_143.drop 0).take 60).all (fun q => xdchk (xby 143) q.1 q.2) = true := by decide +kernel
theorem xd_143_60 : ((xk_143.drop 60).take 60).all (fun q => xdchk (xby 143) q.1 q.2) = true := by decide +kernel
theorem xd_143_120 : ((xk_143.drop 120).take 60).all (fun q => xdchk (xby 143) q.1 q.2) = true := by decide +kernel
theorem xd_143 : xk_143.all (fun q => xdchk (xby 143) q.1 q.2) = true := by
  have h : xk_143 = ((xk_143.drop 0).take 60) ++ (((xk_143.drop 60).take 60) ++ (((xk_143.drop 120).take 60))) := by decide +kernel
  rw [h]
  simp only [List.all_append, Bool.and_eq_true]
  exact ⟨xd_143_0, ⟨xd_143_60, xd_143_120⟩⟩
theorem xd_144_0 : ((xk_144.drop 0).take 60).all (fun q => xdchk (xby 144) q.1 q.2) = true := by decide +kernel
theorem xd_144_60 : ((xk_144.drop 60).take 60).all (fun q => xdchk (xby 144) q.1 q.2) = true := by decide +kernel
theorem xd_144_120 : ((xk_144.drop 120).take 60).all (fun q => xdchk (xby 144) q.1 q.2) = true := by decide +kernel
theorem xd_144 : xk_144.all (fun q => xdchk (xby 144) q.1 q.2) = true := by
  have h : xk_144 = ((xk_144.drop 0).take 60) ++ (((xk_144.drop 60).take 60) ++ (((xk_144.drop 120).take 60))) := by decide +kernel
  rw [h]
  simp only [List.all_append, Bool.and_eq_true]
  exact ⟨xd_144_0, ⟨xd_144_60, xd_144_120⟩⟩
theorem xd_145_0 : ((xk_145.drop 0).take 60).all (fun q => xdchk (xby 145) q.1 q.2) = true := by decide +kernel
theorem xd_145_60 : ((xk_145.drop 60).take 60).all (fun q => xdchk (xby 145) q.1 q.2) = true := by decide +kernel
theorem xd_145_120 : ((xk_145.drop 120).take 60).all (fun q => xdchk (xby 145) q.1 q.2) = true := by decide +kernel
theorem xd_145 : xk_145.all (fun q => xdchk (xby 145) q.1 q.2) = true := by
  have h : xk_145 = ((xk_145.drop 0).take 60) ++ (((xk_145.drop 60).take 60) ++ (((xk_145.drop 120).take 60))) := by decide +kernel
  rw [h]
  simp only [List.all_append, Bool.and_eq_true]
  exact ⟨xd_145_0, ⟨xd_145_60, xd_145_120⟩⟩
theorem xd_146_0 : ((xk_146.drop 0).take 60).all (fun q => xdchk (xby 146) q.1 q.2) = true := by decide +kernel
theorem xd_146_60 : ((xk_146.drop 60).take 60).all (fun q => xdchk (xby 146) q.1 q.2) = true := by decide +kernel
theorem xd_146 : xk_146.all (fun q => xdchk (xby 146) q.1 q.2) = true := by
  have h : xk_146 = ((xk_146.drop 0).take 60) ++ (((xk_146.drop 60).take 60)) := by decide +kernel
  rw [h]
  simp only [List.all_append, Bool.and_eq_true]
  exact ⟨xd_146_0, xd_146_60⟩
theorem xd_147_0 : ((xk_147.drop 0).take 60).all (fun q => xdchk (xby 147) q.1 q.2) = true := by decide +kernel
theorem xd_147_60 : ((xk_147.drop 60).take 60).all (fun q => xdchk (xby 147) q.1 q.2) = true := by decide +kernel
theorem xd_147_120 : ((xk_147.drop 120).take 60).all (fun q => xdchk (xby 147) q.1 q.2) = true := by decide +kernel
theorem xd_147 : xk_147.all (fun q => xdchk (xby 147) q.1 q.2) = true := by
  have h : xk_147 = ((xk_147.drop 0).take 60) ++ (((xk_147.drop 60).take 60) ++ (((xk_147.drop 120).take 60))) := by decide +kernel
  rw [h]
  simp only [List.all_append, Bool.and_eq_true]
  exact ⟨xd_147_0, ⟨xd_147_60, xd_147_120⟩⟩
def xDok (mi : Nat) : Prop := ∀ l, xcode[mi]? = some l → l.all (fun q => xdchk (xby mi) q.1 q.2) = true
def xDs_l0 : List (Nat) := [0, 1, 2, 3, 4, 5, 6, 7, 8, 9, 10, 11, 12, 13, 14, 15]
theorem xDs_b0 : ∀ q ∈ xDs_l0, xDok q := List.forall_mem_cons.mpr ⟨(fun l h => by cases h; exact xd_0), List.forall_mem_cons.mpr ⟨(fun l h => by cases h; exact xd_1), List.forall_mem_cons.mpr ⟨(fun l h => by cases h; exact xd_2), List.forall_mem_cons.mpr ⟨(fun l h => by cases h; exact xd_3), List.forall_mem_cons.mpr ⟨(fun l h => by cases h; exact xd_4), List.forall_mem_cons.mpr ⟨(fun l h => by cases h; exact xd_5), List.forall_mem_cons.mpr ⟨(fun l h => by cases h; exact xd_6), List.forall_mem_cons.mpr ⟨(fun l h => by cases h; exact xd_7), List.forall_mem_cons.mpr ⟨(fun l h => by cases h; exact xd_8), List.forall_mem_cons.mpr ⟨(fun l h => by cases h; exact xd_9), List.forall_mem_cons.mpr ⟨(fun l h => by cases h; exact xd_10), List.forall_mem_cons.mpr ⟨(fun l h => by cases h; exact xd_11), List.forall_mem_cons.mpr ⟨(fun l h => by cases h; exact xd_12), List.forall_mem_cons.mpr ⟨(fun l h => by cases h; exact xd_13), List.forall_mem_cons.mpr ⟨(fun l h => by cases h; exact xd_14), List.forall_mem_cons.mpr ⟨(fun l h => by cases h; exact xd_15), fun _ h => absurd h List.not_mem_nil⟩⟩⟩⟩⟩⟩⟩⟩⟩⟩⟩⟩⟩⟩⟩⟩
def xDs_l16 : List (Nat) := [16, 17, 18, 19, 20, 21, 22, 23, 24, 25, 26, 27, 28, 29, 30, 31]
theorem xDs_b16 : ∀ q ∈ xDs_l16, xDok q := List.forall_mem_cons.mpr ⟨(fun l h => by cases h; exact xd_16), List.forall_mem_cons.mpr ⟨(fun l h => by cases h; exact xd_17), List.forall_mem_cons.mpr ⟨(fun l h => by cases h; exact xd_18), List.forall_mem_cons.mpr ⟨(fun l h => by cases h; exact xd_19), List.forall_mem_cons.mpr ⟨(fun l h => by cases h; exact xd_20), List.forall_mem_cons.mpr ⟨(fun l h => by cases h; exact xd_21), List.forall_mem_cons.mpr ⟨(fun l h => by cases h; exact xd_22), List.forall_mem_cons.mpr ⟨(fun l h => by cases h; exact xd_23), List.forall_mem_cons.mpr ⟨(fun l h => by cases h; exact xd_24), List.forall_mem_cons.mpr ⟨(fun l h => by cases h; exact xd_25), List.forall_mem_cons.mpr ⟨(fun l h => by cases h; exact xd_26), List.forall_mem_cons.mpr ⟨(fun l h => by cases h; exact xd_27), List.forall_mem_cons.mpr ⟨(fun l h => by cases h; exact xd_28), List.forall_mem_cons.mpr ⟨(fun l h => by cases h; exact xd_29), List.forall_mem_cons.mpr ⟨(fun l h => by cases h; exact xd_30), List.forall_mem_cons.mpr ⟨(fun l h => by cases h; exact xd_31), fun _ h => absurd h List.not_mem_nil⟩⟩⟩⟩⟩⟩⟩⟩⟩⟩⟩⟩⟩⟩⟩⟩
def xDs_l32 : List (Nat) := [32, 33, 34, 35, 36, 37, 38, 39, 40, 41, 42, 43, 44, 45, 46, 47]
theorem xDs_b32 : ∀ q ∈ xDs_l32, xDok q := List.forall_mem_cons.mpr ⟨(fun l h => by cases h; exact xd_32), List.forall_mem_cons.mpr ⟨(fun l h => by cases h; exact xd_33), List.forall_mem_cons.mpr ⟨(fun l h => by cases h; exact xd_34), List.forall_mem_cons.mpr ⟨(fun l h => by cases h; exact xd_35), List.forall_mem_cons.mpr ⟨(fun l h => by cases h; exact xd_36), List.forall_mem_cons.mpr ⟨(fun l h => by cases h; exact xd_37), List.forall_mem_cons.mpr ⟨(fun l h => by cases h; exact xd_38), List.forall_mem_cons.mpr ⟨(fun l h => by cases h; exact xd_39), List.forall_mem_cons.mpr ⟨(fun l h => by cases h; exact xd_40), List.forall_mem_cons.mpr ⟨(fun l h => by cases h; exact xd_41), List.forall_mem_cons.mpr ⟨(fun l h => by cases h; exact xd_42), List.forall_mem_cons.mpr ⟨(fun l h => by cases h; exact xd_43), List.forall_mem_cons.mpr ⟨(fun l h => by cases h; exact xd_44), List.forall_mem_cons.mpr ⟨(fun l h => by cases h; exact xd_45), List.forall_mem_cons.mpr ⟨(fun l h => by cases h; exact xd_46), List.forall_mem_cons.mpr ⟨(fun l h => by cases h; exact xd_47), fun _ h => absurd h List.not_mem_nil⟩⟩⟩⟩⟩⟩⟩⟩⟩⟩⟩⟩⟩⟩⟩⟩
def xDs_l48 : List (Nat) := [48, 49, 50, 51, 52, 53, 54, 55, 56, 57, 58, 59, 60, 61, 62, 63]
theorem xDs_b48 : ∀ q ∈ xDs_l48, xDok q := List.forall_mem_cons.mpr ⟨(fun l h => by cases h; exact xd_48), List.forall_mem_cons.mpr ⟨(fun l h => by cases h; exact xd_49), List.forall_mem_cons.mpr ⟨(fun l h => by cases h; exact xd_50), List.forall_mem_cons.mpr ⟨(fun l h => by cases h; exact xd_51), List.forall_mem_cons.mpr ⟨(fun l h => by cases h; exact xd_52), List.forall_mem_cons.mpr ⟨(fun l h => by cases h; exact xd_53), List.forall_mem_cons.mpr ⟨(fun l h => by cases h; exact xd_54), List.forall_mem_cons.mpr ⟨(fun l h => by cases h; exact xd_55), List.forall_mem_cons.mpr ⟨(fun l h => by cases h; exact xd_56), List.forall_mem_cons.mpr ⟨(fun l h => by cases h; exact xd_57), List.forall_mem_cons.mpr ⟨(fun l h => by cases h; exact xd_58), List.forall_mem_cons.mpr ⟨(fun l h => by cases h; exact xd_59), List.forall_mem_cons.mpr ⟨(fun l h => by cases h; exact xd_60), List.forall_mem_cons.mpr ⟨(fun l h => by cases h; exact xd_61), List.forall_mem_cons.mpr ⟨(fun l h => by cases h; exact xd_62), List.forall_mem_cons.mpr ⟨(fun l h => by cases h; exact xd_63), fun _ h => absurd h List.not_mem_nil⟩⟩⟩⟩⟩⟩⟩⟩⟩⟩⟩⟩⟩⟩⟩⟩
def xDs_l64 : List (Nat) := [64, 65, 66, 67, 68, 69, 70, 71, 72, 73, 74, 75, 76, 77, 78, 79]
theorem xDs_b64 : ∀ q ∈ xDs_l64, xDok q := List.forall_mem_cons.mpr ⟨(fun l h => by cases h; exact xd_64), List.forall_mem_cons.mpr ⟨(fun l h => by cases h; exact xd_65), List.forall_mem_cons.mpr ⟨(fun l h => by cases h; exact xd_66), List.forall_mem_cons.mpr ⟨(fun l h => by cases h; exact xd_67), List.forall_mem_cons.mpr ⟨(fun l h => by cases h; exact xd_68), List.forall_mem_cons.mpr ⟨(fun l h => by cases h; exact xd_69), List.forall_mem_cons.mpr ⟨(fun l h => by cases h; exact xd_70), List.forall_mem_cons.mpr ⟨(fun l h => by cases h; exact xd_71), List.forall_mem_cons.mpr ⟨(fun l h => by cases h; exact xd_72), List.forall_mem_cons.mpr ⟨(fun l h => by cases h; exact xd_73), List.forall_mem_cons.mpr ⟨(fun l h => by cases h; exact xd_74), List.forall_mem_cons.mpr ⟨(fun l h => by cases h; exact xd_75), List.forall_mem_cons.mpr ⟨(fun l h => by cases h; exact xd_76), List.forall_mem_cons.mpr ⟨(fun l h => by cases h; exact xd_77), List.forall_mem_cons.mpr ⟨(fun l h => by cases h; exact xd_78), List.forall_mem_cons.mpr ⟨(fun l h => by cases h; exact xd_79), fun _ h => absurd h List.not_mem_nil⟩⟩⟩⟩⟩⟩⟩⟩⟩⟩⟩⟩⟩⟩⟩⟩
def xDs_l80 : List (Nat) := [80, 81, 82, 83, 84, 85, 86, 87, 88, 89, 90, 91, 92, 93, 94, 95]
theorem xDs_b80 : ∀ q ∈ xDs_l80, xDok q := List.forall_mem_cons.mpr ⟨(fun l h => by cases h; exact xd_80), List.forall_mem_cons.mpr ⟨(fun l h => by cases h; exact xd_81), List.forall_mem_cons.mpr ⟨(fun l h => by cases h; exact xd_82), List.forall_mem_cons.mpr ⟨(fun l h => by cases h; exact xd_83), List.forall_mem_cons.mpr ⟨(fun l h => by cases h; exact xd_84), List.forall_mem_cons.mpr ⟨(fun l h => by cases h; exact xd_85), List.forall_mem_cons.mpr ⟨(fun l h => by cases h; exact xd_86), List.forall_mem_cons.mpr ⟨(fun l h => by cases h; exact xd_87), List.forall_mem_cons.mpr ⟨(fun l h => by cases h; exact xd_88), List.forall_mem_cons.mpr ⟨(fun l h => by cases h; exact xd_89), List.forall_mem_cons.mpr ⟨(fun l h => by cases h; exact xd_90), List.forall_mem_cons.mpr ⟨(fun l h => by cases h; exact xd_91), List.forall_mem_cons.mpr ⟨(fun l h => by cases h; exact xd_92), List.forall_mem_cons.mpr ⟨(fun l h => by cases h; exact xd_93), List.forall_mem_cons.mpr ⟨(fun l h => by cases h; exact xd_94), List.forall_mem_cons.mpr ⟨(fun l h => by cases h; exact xd_95), fun _ h => absurd h List.not_mem_nil⟩⟩⟩⟩⟩⟩⟩⟩⟩⟩⟩⟩⟩⟩⟩⟩
def xDs_l96 : List (Nat) := [96, 97, 98, 99, 100, 101, 102, 103, 104, 105, 106, 107, 108, 109, 110, 111]
theorem xDs_b96 : ∀ q ∈ xDs_l96, xDok q := List.forall_mem_cons.mpr ⟨(fun l h => by cases h; exact xd_96), List.forall_mem_cons.mpr ⟨(fun l h => by cases h; exact xd_97), List.forall_mem_cons.mpr ⟨(fun l h => by cases h; exact xd_98), List.forall_mem_cons.mpr ⟨(fun l h => by cases h; exact xd_99), List.forall_mem_cons.mpr ⟨(fun l h => by cases h; exact xd_100), List.forall_mem_cons.mpr ⟨(fun l h => by cases h; exact xd_101), List.forall_mem_cons.mpr ⟨(fun l h => by cases h; exact xd_102), List.forall_mem_cons.mpr ⟨(fun l h => by cases h; exact xd_103), List.forall_mem_cons.mpr ⟨(fun l h => by cases h; exact xd_104), List.forall_mem_cons.mpr ⟨(fun l h => by cases h; exact xd_105), List.forall_mem_cons.mpr ⟨(fun l h => by cases h; exact xd_106), List.forall_mem_cons.mpr ⟨(fun l h => by cases h; exact xd_107), List.forall_mem_cons.mpr ⟨(fun l h => by cases h; exact xd_108), List.forall_mem_cons.mpr ⟨(fun l h => by cases h; exact xd_109), List.forall_mem_cons.mpr ⟨(fun l h => by cases h; exact xd_110), List.forall_mem_cons.mpr ⟨(fun l h => by cases h; exact xd_111), fun _ h => absurd h List.not_mem_nil⟩⟩⟩⟩⟩⟩⟩⟩⟩⟩⟩⟩⟩⟩⟩⟩
def xDs_l112 : List (Nat) := [112, 113, 114, 115, 116, 117, 118, 119, 120, 121, 122, 123, 124, 125, 126, 127]
theorem xDs_b112 : ∀ q ∈ xDs_l112, xDok q := List.forall_mem_cons.mpr ⟨(fun l h => by cases h; exact xd_112), List.forall_mem_cons.mpr ⟨(fun l h => by cases h; exact xd_113), List.forall_mem_cons.mpr ⟨(fun l h => by cases h; exact xd_114), List.forall_mem_cons.mpr ⟨(fun l h => by cases h; exact xd_115), List.forall_mem_cons.mpr ⟨(fun l h => by cases h; exact xd_116), List.forall_mem_cons.mpr ⟨(fun l h => by cases h; exact xd_117), List.forall_mem_cons.mpr ⟨(fun l h => by cases h; exact xd_118), List.forall_mem_cons.mpr ⟨(fun l h => by cases h; exact xd_119), List.forall_mem_cons.mpr ⟨(fun l h => by cases h; exact xd_120), List.forall_mem_cons.mpr ⟨(fun l h => by cases h; exact xd_121), List.forall_mem_cons.mpr ⟨(fun l h => by cases h; exact xd_122), List.forall_mem_cons.mpr ⟨(fun l h => by cases h; exact xd_123), List.forall_mem_cons.mpr ⟨(fun l h => by cases h; exact xd_124), List.forall_mem_cons.mpr ⟨(fun l h => by cases h; exact xd_125), List.forall_mem_cons.mpr ⟨(fun l h => by cases h; exact xd_126), List.forall_mem_cons.mpr ⟨(fun l h => by cases h; exact xd_127), fun _ h => absurd h List.not_mem_nil⟩⟩⟩⟩⟩⟩⟩⟩⟩⟩⟩⟩⟩⟩⟩⟩
def xDs_l128 : List (Nat) := [128, 129, 130, 131, 132, 133, 134, 135, 136, 137, 138, 139, 140, 141, 142, 143]
theorem xDs_b128 : ∀ q ∈ xDs_l128, xDok q := List.forall_mem_cons.mpr ⟨(fun l h => by cases h; exact xd_128), List.forall_mem_cons.mpr ⟨(fun l h => by cases h; exact xd_129), List.forall_mem_cons.mpr ⟨(fun l h => by cases h; exact xd_130), List.forall_mem_cons.mpr ⟨(fun l h => by cases h; exact xd_131), List.forall_mem_cons.mpr ⟨(fun l h => by cases h; exact xd_132), List.forall_mem_cons.mpr ⟨(fun l h => by cases h; exact xd_133), List.forall_mem_cons.mpr ⟨(fun l h => by cases h; exact xd_134), List.forall_mem_cons.mpr ⟨(fun l h => by cases h; exact xd_135), List.forall_mem_cons.mpr ⟨(fun l h => by cases h; exact xd_136), List.forall_mem_cons.mpr ⟨(fun l h => by cases h; exact xd_137), List.forall_mem_cons.mpr ⟨(fun l h => by cases h; exact xd_138), List.forall_mem_cons.mpr ⟨(fun l h => by cases h; exact xd_139), List.forall_mem_cons.mpr ⟨(fun l h => by cases h; exact xd_140), List.forall_mem_cons.mpr ⟨(fun l h => by cases h; exact xd_141), List.forall_mem_cons.mpr ⟨(fun l h => by cases h; exact xd_142), List.forall_mem_cons.mpr ⟨(fun l h => by cases h; exact xd_143), fun _ h => absurd h List.not_mem_nil⟩⟩⟩⟩⟩⟩⟩⟩⟩⟩⟩⟩⟩⟩⟩⟩
def xDs_l144 : List (Nat) := [144, 145, 146, 147]
theorem xDs_b144 : ∀ q ∈ xDs_l144, xDok q := List.forall_mem_cons.mpr ⟨(fun l h => by cases h; exact xd_144), List.forall_mem_cons.mpr ⟨(fun l h => by cases h; exact xd_145), List.forall_mem_cons.mpr ⟨(fun l h => by cases h; exact xd_146), List.forall_mem_cons.mpr ⟨(fun l h => by cases h; exact xd_147), fun _ h => absurd h List.not_mem_nil⟩⟩⟩⟩
def xDs_l : List (Nat) := xDs_l0 ++ (xDs_l16 ++ (xDs_l32 ++ (xDs_l48 ++ (xDs_l64 ++ (xDs_l80 ++ (xDs_l96 ++ (xDs_l112 ++ (xDs_l128 ++ (xDs_l144)))))))))
theorem xDs_all : ∀ q ∈ xDs_l, xDok q := List.forall_mem_append.mpr ⟨xDs_b0, List.forall_mem_append.mpr ⟨xDs_b16, List.forall_mem_append.mpr ⟨xDs_b32, List.forall_mem_append.mpr ⟨xDs_b48, List.forall_mem_append.mpr ⟨xDs_b64, List.forall_mem_append.mpr ⟨xDs_b80, List.forall_mem_append.mpr ⟨xDs_b96, List.forall_mem_append.mpr ⟨xDs_b112, List.forall_mem_append.mpr ⟨xDs_b128, xDs_b144⟩⟩⟩⟩⟩⟩⟩⟩⟩
theorem xDs_range : xDs_l = List.range 148 := by decide +kernel
theorem xdec {mi pc : Nat} {op : Instr} (h : xfetch mi pc = some op) : ∃ len, decode (xby mi) pc = .ok (op, len) ∧ (len = xlen op ∨ xsw op = true) ∧ xjmp pc op = true := by
  unfold xfetch at h
  cases hl : xcode[mi]? with
  | none => rw [hl] at h; cases h
  | some l =>
    rw [hl] at h
    have hlt : mi < xcode.length := (List.getElem?_eq_some_iff.mp hl).1
    have hlen : xcode.length = 148 := by decide +kernel
    have hm : mi ∈ xDs_l := by rw [xDs_range]; exact List.mem_range.mpr (by omega)
    have h1 := List.all_eq_true.mp (xDs_all mi hm l hl) _ (xfind_mem h)
    unfold xdchk at h1
    simp only at h1
    cases hd : decode (xby mi) pc with
    | error e => rw [hd] at h1; cases h1
    | ok q =>
      obtain ⟨o, len⟩ := q
      rw [hd] at h1
      simp only [Bool.and_eq_true, Bool.or_eq_true, decide_eq_true_eq] at h1
      obtain ⟨⟨rfl, h2⟩, h3⟩ := h1
      exact ⟨len, rfl, h2, h3⟩
def xRk : Nat → Option FieldType → Prop
  | 0, r => r = none
  | 1, r => r = some .int
  | 2, r => r = some .boolean
  | 3, r => r = some .long
  | 4, r => r = some .double
  | _, _ => False
def xMok (mi : Nat) : Prop := (xG (xcw mi) ∧ xG (.initialized (xy mi).cls)) ∧ ((xy mi).cls ≠ "java/lang/invoke/MethodHandle" ∧ (xy mi).cls ≠ "java/lang/invoke/VarHandle" ∧ (parseMethodDescriptor (xy mi).desc).map (fun d => d.parameters.length) = some (xnp mi) ∧ plainName (xy mi).cls = true ∧ (xy mi).cls = xRn (xown mi)) ∧ xRk (xrk mi) (xre mi) ∧ ((xsk mi = 0 ∧ xG (.instanceMethod (xy mi)) ∧ xG (.selects (xy mi).cls (xy mi) (xy mi))) ∨ (xsk mi = 1 ∧ xG (.static (xy mi))) ∨ (xsk mi = 2 ∧ xG (.instanceMethod (xy mi)) ∧ (xy mi).name = "<init>" ∧ xre mi = none))
theorem xm_0 : xMok 0 := ⟨⟨xg1 197 (by decide +kernel) rfl, xg1 8 (by decide +kernel) rfl⟩, ⟨by decide +kernel, by decide +kernel, by decide +kernel, by decide +kernel, by decide +kernel⟩, by show xre 0 = _; decide +kernel, Or.inr (Or.inr ⟨rfl, xg1 196 (by decide +kernel) rfl, by decide +kernel, by decide +kernel⟩)⟩
theorem xm_1 : xMok 1 := ⟨⟨xg3 205 (by decide +kernel) rfl, xg1 8 (by decide +kernel) rfl⟩, ⟨by decide +kernel, by decide +kernel, by decide +kernel, by decide +kernel, by decide +kernel⟩, by show xre 1 = _; decide +kernel, Or.inl ⟨rfl, xg3 204 (by decide +kernel) rfl, xg 15 (by decide +kernel) rfl⟩⟩
theorem xm_2 : xMok 2 := ⟨⟨xg3 209 (by decide +kernel) rfl, xg1 8 (by decide +kernel) rfl⟩, ⟨by decide +kernel, by decide +kernel, by decide +kernel, by decide +kernel, by decide +kernel⟩, by show xre 2 = _; decide +kernel, Or.inl ⟨rfl, xg3 208 (by decide +kernel) rfl, xg 16 (by decide +kernel) rfl⟩⟩
theorem xm_3 : xMok 3 := ⟨⟨xg4 2 (by decide +kernel) rfl, xg1 8 (by decide +kernel) rfl⟩, ⟨by decide +kernel, by decide +kernel, by decide +kernel, by decide +kernel, by decide +kernel⟩, by show xre 3 = _; decide +kernel, Or.inl ⟨rfl, xg4 1 (by decide +kernel) rfl, xg 17 (by decide +kernel) rfl⟩⟩
theorem xm_4 : xMok 4 := ⟨⟨xg4 34 (by decide +kernel) rfl, xg1 8 (by decide +kernel) rfl⟩, ⟨by decide +kernel, by decide +kernel, by decide +kernel, by decide +kernel, by decide +kernel⟩, by show xre 4 = _; decide +kernel, Or.inl ⟨rfl, xg4 33 (by decide +kernel) rfl, xg 18 (by decide +kernel) rfl⟩⟩
theorem xm_5 : xMok 5 := ⟨⟨xg4 46 (by decide +kernel) rfl, xg1 8 (by decide +kernel) rfl⟩, ⟨by decide +kernel, by decide +kernel, by decide +kernel, by decide +kernel, by decide +kernel⟩, by show xre 5 = _; decide +kernel, Or.inl ⟨rfl, xg4 45 (by decide +kernel) rfl, xg 19 (by decide +kernel) rfl⟩⟩
theorem xm_6 : xMok 6 := ⟨⟨xg4 54 (by decide +kernel) rfl, xg1 8 (by decide +kernel) rfl⟩, ⟨by decide +kernel, by decide +kernel, by decide +kernel, by decide +kernel, by decide +kernel⟩, by show xre 6 = _; decide +kernel, Or.inl ⟨rfl, xg4 53 (by decide +kernel) rfl, xg 20 (by decide +kernel) rfl⟩⟩
theorem xm_7 : xMok 7 := ⟨⟨xg4 62 (by decide +kernel) rfl, xg1 8 (by decide +kernel) rfl⟩, ⟨by decide +kernel, by decide +kernel, by decide +kernel, by decide +kernel, by decide +kernel⟩, by show xre 7 = _; decide +kernel, Or.inl ⟨rfl, xg4 61 (by decide +kernel) rfl, xg 21 (by decide +kernel) rfl⟩⟩
theorem xm_8 : xMok 8 := ⟨⟨xg1 213 (by decide +kernel) rfl, xg1 9 (by decide +kernel) rfl⟩, ⟨by decide +kernel, by decide +kernel, by decide +kernel, by decide +kernel, by decide +kernel⟩, by show xre 8 = _; decide +kernel, Or.inr (Or.inr ⟨rfl, xg1 212 (by decide +kernel) rfl, by decide +kernel, by decide +kernel⟩)⟩
theorem xm_9 : xMok 9 := ⟨⟨xg4 239 (by decide +kernel) rfl, xg1 9 (by decide +kernel) rfl⟩, ⟨by decide +kernel, by decide +kernel, by decide +kernel, by decide +kernel, by decide +kernel⟩, by show xre 9 = _; decide +kernel, Or.inl ⟨rfl, xg4 237 (by decide +kernel) rfl, xg4 238 (by decide +kernel) rfl⟩⟩
theorem xm_10 : xMok 10 := ⟨⟨xg5 6 (by decide +kernel) rfl, xg1 9 (by decide +kernel) rfl⟩, ⟨by decide +kernel, by decide +kernel, by decide +kernel, by decide +kernel, by decide +kernel⟩, by show xre 10 = _; decide +kernel, Or.inl ⟨rfl, xg5 5 (by decide +kernel) rfl, xg 22 (by decide +kernel) rfl⟩⟩
theorem xm_11 : xMok 11 := ⟨⟨xg5 11 (by decide +kernel) rfl, xg1 9 (by decide +kernel) rfl⟩, ⟨by decide +kernel, by decide +kernel, by decide +kernel, by decide +kernel, by decide +kernel⟩, by show xre 11 = _; decide +kernel, Or.inl ⟨rfl, xg5 10 (by decide +kernel) rfl, xg 23 (by decide +kernel) rfl⟩⟩
theorem xm_12 : xMok 12 := ⟨⟨xg5 16 (by decide +kernel) rfl, xg1 9 (by decide +kernel) rfl⟩, ⟨by decide +kernel, by decide +kernel, by decide +kernel, by decide +kernel, by decide +kernel⟩, by show xre 12 = _; decide +kernel, Or.inl ⟨rfl, xg5 15 (by decide +kernel) rfl, xg 24 (by decide +kernel) rfl⟩⟩
theorem xm_13 : xMok 13 := ⟨⟨xg5 20 (by decide +kernel) rfl, xg1 9 (by decide +kernel) rfl⟩, ⟨by decide +kernel, by decide +kernel, by decide +kernel, by decide +kernel, by decide +kernel⟩, by show xre 13 = _; decide +kernel, Or.inl ⟨rfl, xg5 19 (by decide +kernel) rfl, xg 25 (by decide +kernel) rfl⟩⟩
theorem xm_14 : xMok 14 := ⟨⟨xg5 26 (by decide +kernel) rfl, xg1 9 (by decide +kernel) rfl⟩, ⟨by decide +kernel, by decide +kernel, by decide +kernel, by decide +kernel, by decide +kernel⟩, by show xre 14 = _; decide +kernel, Or.inl ⟨rfl, xg5 25 (by decide +kernel) rfl, xg 26 (by decide +kernel) rfl⟩⟩
theorem xm_15 : xMok 15 := ⟨⟨xg5 34 (by decide +kernel) rfl, xg1 9 (by decide +kernel) rfl⟩, ⟨by decide +kernel, by decide +kernel, by decide +kernel, by decide +kernel, by decide +kernel⟩, by show xre 15 = _; decide +kernel, Or.inl ⟨rfl, xg5 33 (by decide +kernel) rfl, xg 27 (by decide +kernel) rfl⟩⟩
theorem xm_16 : xMok 16 := ⟨⟨xg5 41 (by decide +kernel) rfl, xg1 9 (by decide +kernel) rfl⟩, ⟨by decide +kernel, by decide +kernel, by decide +kernel, by decide +kernel, by decide +kernel⟩, by show xre 16 = _; decide +kernel, Or.inl ⟨rfl, xg5 40 (by decide +kernel) rfl, xg 28 (by decide +kernel) rfl⟩⟩
theorem xm_17 : xMok 17 := ⟨⟨xg5 46 (by decide +kernel) rfl, xg1 9 (by decide +kernel) rfl⟩, ⟨by decide +kernel, by decide +kernel, by decide +kernel, by decide +kernel, by decide +kernel⟩, by show xre 17 = _; decide +kernel, Or.inl ⟨rfl, xg5 45 (by decide +kernel) rfl, xg 29 (by decide +kernel) rfl⟩⟩
theorem xm_18 : xMok 18 := ⟨⟨xg5 50 (by decide +kernel) rfl, xg1 9 (by decide +kernel) rfl⟩, ⟨by decide +kernel, by decide +kernel, by decide +kernel, by decide +kernel, by decide +kernel⟩, by show xre 18 = _; decide +kernel, Or.inl ⟨rfl, xg5 49 (by decide +kernel) rfl, xg 30 (by decide +kernel) rfl⟩⟩
theorem xm_19 : xMok 19 := ⟨⟨xg5 54 (by decide +kernel) rfl, xg1 9 (by decide +kernel) rfl⟩, ⟨by decide +kernel, by decide +kernel, by decide +kernel, by decide +kernel, by decide +kernel⟩, by show xre 19 = _; decide +kernel, Or.inl ⟨rfl, xg5 53 (by decide +kernel) rfl, xg 31 (by decide +kernel) rfl⟩⟩
theorem xm_20 : xMok 20 := ⟨⟨xg5 59 (by decide +kernel) rfl, xg1 9 (by decide +kernel) rfl⟩, ⟨by decide +kernel, by decide +kernel, by decide +kernel, by decide +kernel, by decide +kernel⟩, by show xre 20 = _; decide +kernel, Or.inl ⟨rfl, xg5 58 (by decide +kernel) rfl, xg 32 (by decide +kernel) rfl⟩⟩
theorem xm_21 : xMok 21 := ⟨⟨xg2 51 (by decide +kernel) rfl, xg1 11 (by decide +kernel) rfl⟩, ⟨by decide +kernel, by decide +kernel, by decide +kernel, by decide +kernel, by decide +kernel⟩, by show xre 21 = _; decide +kernel, Or.inr (Or.inr ⟨rfl, xg2 50 (by decide +kernel) rfl, by decide +kernel, by decide +kernel⟩)⟩
theorem xm_22 : xMok 22 := ⟨⟨xg2 205 (by decide +kernel) rfl, xg1 11 (by decide +kernel) rfl⟩, ⟨by decide +kernel, by decide +kernel, by decide +kernel, by decide +kernel, by decide +kernel⟩, by show xre 22 = _; decide +kernel, Or.inl ⟨rfl, xg2 203 (by decide +kernel) rfl, xg2 204 (by decide +kernel) rfl⟩⟩
theorem xm_23 : xMok 23 := ⟨⟨xg3 59 (by decide +kernel) rfl, xg1 11 (by decide +kernel) rfl⟩, ⟨by decide +kernel, by decide +kernel, by decide +kernel, by decide +kernel, by decide +kernel⟩, by show xre 23 = _; decide +kernel, Or.inl ⟨rfl, xg3 57 (by decide +kernel) rfl, xg3 58 (by decide +kernel) rfl⟩⟩
theorem xm_24 : xMok 24 := ⟨⟨xg3 63 (by decide +kernel) rfl, xg1 11 (by decide +kernel) rfl⟩, ⟨by decide +kernel, by decide +kernel, by decide +kernel, by decide +kernel, by decide +kernel⟩, by show xre 24 = _; decide +kernel, Or.inl ⟨rfl, xg3 62 (by decide +kernel) rfl, xg 1 (by decide +kernel) rfl⟩⟩
theorem xm_25 : xMok 25 := ⟨⟨xg2 101 (by decide +kernel) rfl, xg1 11 (by decide +kernel) rfl⟩, ⟨by decide +kernel, by decide +kernel, by decide +kernel, by decide +kernel, by decide +kernel⟩, by show xre 25 = _; decide +kernel, Or.inl ⟨rfl, xg2 99 (by decide +kernel) rfl, xg2 100 (by decide +kernel) rfl⟩⟩
theorem xm_26 : xMok 26 := ⟨⟨xg1 112 (by decide +kernel) rfl, xg1 6 (by decide +kernel) rfl⟩, ⟨by decide +kernel, by decide +kernel, by decide +kernel, by decide +kernel, by decide +kernel⟩, by show xre 26 = _; decide +kernel, Or.inr (Or.inr ⟨rfl, xg1 111 (by decide +kernel) rfl, by decide +kernel, by decide +kernel⟩)⟩
theorem xm_27 : xMok 27 := ⟨⟨xg2 128 (by decide +kernel) rfl, xg1 6 (by decide +kernel) rfl⟩, ⟨by decide +kernel, by decide +kernel, by decide +kernel, by decide +kernel, by decide +kernel⟩, by show xre 27 = _; decide +kernel, Or.inl ⟨rfl, xg2 126 (by decide +kernel) rfl, xg2 127 (by decide +kernel) rfl⟩⟩
theorem xm_28 : xMok 28 := ⟨⟨xg2 133 (by decide +kernel) rfl, xg1 6 (by decide +kernel) rfl⟩, ⟨by decide +kernel, by decide +kernel, by decide +kernel, by decide +kernel, by decide +kernel⟩, by show xre 28 = _; decide +kernel, Or.inl ⟨rfl, xg2 131 (by decide +kernel) rfl, xg2 132 (by decide +kernel) rfl⟩⟩
theorem xm_29 : xMok 29 := ⟨⟨xg3 179 (by decide +kernel) rfl, xg1 6 (by decide +kernel) rfl⟩, ⟨by decide +kernel, by decide +kernel, by decide +kernel, by decide +kernel, by decide +kernel⟩, by show xre 29 = _; decide +kernel, Or.inl ⟨rfl, xg3 177 (by decide +kernel) rfl, xg3 178 (by decide +kernel) rfl⟩⟩
theorem xm_30 : xMok 30 := ⟨⟨xg4 12 (by decide +kernel) rfl, xg1 6 (by decide +kernel) rfl⟩, ⟨by decide +kernel, by decide +kernel, by decide +kernel, by decide +kernel, by decide +kernel⟩, by show xre 30 = _; decide +kernel, Or.inl ⟨rfl, xg4 10 (by decide +kernel) rfl, xg4 11 (by decide +kernel) rfl⟩⟩
theorem xm_31 : xMok 31 := ⟨⟨xg4 21 (by decide +kernel) rfl, xg1 6 (by decide +kernel) rfl⟩, ⟨by decide +kernel, by decide +kernel, by decide +kernel, by decide +kernel, by decide +kernel⟩, by show xre 31 = _; decide +kernel, Or.inl ⟨rfl, xg4 19 (by decide +kernel) rfl, xg4 20 (by decide +kernel) rfl⟩⟩
theorem xm_32 : xMok 32 := ⟨⟨xg1 106 (by decide +kernel) rfl, xg1 5 (by decide +kernel) rfl⟩, ⟨by decide +kernel, by decide +kernel, by decide +kernel, by decide +kernel, by decide +kernel⟩, by show xre 32 = _; decide +kernel, Or.inr (Or.inr ⟨rfl, xg1 105 (by decide +kernel) rfl, by decide +kernel, by decide +kernel⟩)⟩
theorem xm_33 : xMok 33 := ⟨⟨xg3 175 (by decide +kernel) rfl, xg1 5 (by decide +kernel) rfl⟩, ⟨by decide +kernel, by decide +kernel, by decide +kernel, by decide +kernel, by decide +kernel⟩, by show xre 33 = _; decide +kernel, Or.inl ⟨rfl, xg3 173 (by decide +kernel) rfl, xg3 174 (by decide +kernel) rfl⟩⟩
theorem xm_34 : xMok 34 := ⟨⟨xg3 213 (by decide +kernel) rfl, xg1 5 (by decide +kernel) rfl⟩, ⟨by decide +kernel, by decide +kernel, by decide +kernel, by decide +kernel, by decide +kernel⟩, by show xre 34 = _; decide +kernel, Or.inl ⟨rfl, xg3 211 (by decide +kernel) rfl, xg3 212 (by decide +kernel) rfl⟩⟩
theorem xm_35 : xMok 35 := ⟨⟨xg3 225 (by decide +kernel) rfl, xg1 5 (by decide +kernel) rfl⟩, ⟨by decide +kernel, by decide +kernel, by decide +kernel, by decide +kernel, by decide +kernel⟩, by show xre 35 = _; decide +kernel, Or.inl ⟨rfl, xg3 223 (by decide +kernel) rfl, xg3 224 (by decide +kernel) rfl⟩⟩
theorem xm_36 : xMok 36 := ⟨⟨xg3 237 (by decide +kernel) rfl, xg1 5 (by decide +kernel) rfl⟩, ⟨by decide +kernel, by decide +kernel, by decide +kernel, by decide +kernel, by decide +kernel⟩, by show xre 36 = _; decide +kernel, Or.inl ⟨rfl, xg3 235 (by decide +kernel) rfl, xg3 236 (by decide +kernel) rfl⟩⟩
theorem xm_37 : xMok 37 := ⟨⟨xg4 58 (by decide +kernel) rfl, xg1 5 (by decide +kernel) rfl⟩, ⟨by decide +kernel, by decide +kernel, by decide +kernel, by decide +kernel, by decide +kernel⟩, by show xre 37 = _; decide +kernel, Or.inl ⟨rfl, xg4 56 (by decide +kernel) rfl, xg4 57 (by decide +kernel) rfl⟩⟩
theorem xm_38 : xMok 38 := ⟨⟨xg4 66 (by decide +kernel) rfl, xg1 5 (by decide +kernel) rfl⟩, ⟨by decide +kernel, by decide +kernel, by decide +kernel, by decide +kernel, by decide +kernel⟩, by show xre 38 = _; decide +kernel, Or.inl ⟨rfl, xg4 64 (by decide +kernel) rfl, xg4 65 (by decide +kernel) rfl⟩⟩
theorem xm_39 : xMok 39 := ⟨⟨xg4 71 (by decide +kernel) rfl, xg1 5 (by decide +kernel) rfl⟩, ⟨by decide +kernel, by decide +kernel, by decide +kernel, by decide +kernel, by decide +kernel⟩, by show xre 39 = _; decide +kernel, Or.inl ⟨rfl, xg4 69 (by decide +kernel) rfl, xg4 70 (by decide +kernel) rfl⟩⟩
theorem xm_40 : xMok 40 := ⟨⟨xg1 160 (by decide +kernel) rfl, xg1 7 (by decide +kernel) rfl⟩, ⟨by decide +kernel, by decide +kernel, by decide +kernel, by decide +kernel, by decide +kernel⟩, by show xre 40 = _; decide +kernel, Or.inr (Or.inr ⟨rfl, xg1 159 (by decide +kernel) rfl, by decide +kernel, by decide +kernel⟩)⟩
theorem xm_41 : xMok 41 := ⟨⟨xg3 183 (by decide +kernel) rfl, xg1 7 (by decide +kernel) rfl⟩, ⟨by decide +kernel, by decide +kernel, by decide +kernel, by decide +kernel, by decide +kernel⟩, by show xre 41 = _; decide +kernel, Or.inl ⟨rfl, xg3 181 (by decide +kernel) rfl, xg3 182 (by decide +kernel) rfl⟩⟩
theorem xm_42 : xMok 42 := ⟨⟨xg3 187 (by decide +kernel) rfl, xg1 7 (by decide +kernel) rfl⟩, ⟨by decide +kernel, by decide +kernel, by decide +kernel, by decide +kernel, by decide +kernel⟩, by show xre 42 = _; decide +kernel, Or.inl ⟨rfl, xg3 185 (by decide +kernel) rfl, xg3 186 (by decide +kernel) rfl⟩⟩
theorem xm_43 : xMok 43 := ⟨⟨xg3 191 (by decide +kernel) rfl, xg1 7 (by decide +kernel) rfl⟩, ⟨by decide +kernel, by decide +kernel, by decide +kernel, by decide +kernel, by decide +kernel⟩, by show xre 43 = _; decide +kernel, Or.inl ⟨rfl, xg3 190 (by decide +kernel) rfl, xg 14 (by decide +kernel) rfl⟩⟩
theorem xm_44 : xMok 44 := ⟨⟨xg3 196 (by decide +kernel) rfl, xg1 7 (by decide +kernel) rfl⟩, ⟨by decide +kernel, by decide +kernel, by decide +kernel, by decide +kernel, by decide +kernel⟩, by show xre 44 = _; decide +kernel, Or.inl ⟨rfl, xg3 194 (by decide +kernel) rfl, xg3 195 (by decide +kernel) rfl⟩⟩
theorem xm_45 : xMok 45 := ⟨⟨xg3 229 (by decide +kernel) rfl, xg1 7 (by decide +kernel) rfl⟩, ⟨by decide +kernel, by decide +kernel, by decide +kernel, by decide +kernel, by decide +kernel⟩, by show xre 45 = _; decide +kernel, Or.inl ⟨rfl, xg3 227 (by decide +kernel) rfl, xg3 228 (by decide +kernel) rfl⟩⟩
theorem xm_46 : xMok 46 := ⟨⟨xg4 29 (by decide +kernel) rfl, xg1 7 (by decide +kernel) rfl⟩, ⟨by decide +kernel, by decide +kernel, by decide +kernel, by decide +kernel, by decide +kernel⟩, by show xre 46 = _; decide +kernel, Or.inl ⟨rfl, xg4 27 (by decide +kernel) rfl, xg4 28 (by decide +kernel) rfl⟩⟩
theorem xm_47 : xMok 47 := ⟨⟨xg4 39 (by decide +kernel) rfl, xg1 7 (by decide +kernel) rfl⟩, ⟨by decide +kernel, by decide +kernel, by decide +kernel, by decide +kernel, by decide +kernel⟩, by show xre 47 = _; decide +kernel, Or.inl ⟨rfl, xg4 37 (by decide +kernel) rfl, xg4 38 (by decide +kernel) rfl⟩⟩
theorem xm_48 : xMok 48 := ⟨⟨xg2 20 (by decide +kernel) rfl, xg1 10 (by decide +kernel) rfl⟩, ⟨by decide +kernel, by decide +kernel, by decide +kernel, by decide +kernel, by decide +kernel⟩, by show xre 48 = _; decide +kernel, Or.inr (Or.inr ⟨rfl, xg2 19 (by decide +kernel) rfl, by decide +kernel, by decide +kernel⟩)⟩
theorem xm_49 : xMok 49 := ⟨⟨xg2 105 (by decide +kernel) rfl, xg1 10 (by decide +kernel) rfl⟩, ⟨by decide +kernel, by decide +kernel, by decide +kernel, by decide +kernel, by decide +kernel⟩, by show xre 49 = _; decide +kernel, Or.inl ⟨rfl, xg2 103 (by decide +kernel) rfl, xg2 104 (by decide +kernel) rfl⟩⟩
theorem xm_50 : xMok 50 := ⟨⟨xg4 82 (by decide +kernel) rfl, xg1 10 (by decide +kernel) rfl⟩, ⟨by decide +kernel, by decide +kernel, by decide +kernel, by decide +kernel, by decide +kernel⟩, by show xre 50 = _; decide +kernel, Or.inl ⟨rfl, xg4 80 (by decide +kernel) rfl, xg4 81 (by decide +kernel) rfl⟩⟩
theorem xm_51 : xMok 51 := ⟨⟨xg1 55 (by decide +kernel) rfl, xg1 4 (by decide +kernel) rfl⟩, ⟨by decide +kernel, by decide +kernel, by decide +kernel, by decide +kernel, by decide +kernel⟩, by show xre 51 = _; decide +kernel, Or.inr (Or.inr ⟨rfl, xg1 54 (by decide +kernel) rfl, by decide +kernel, by decide +kernel⟩)⟩
theorem xm_52 : xMok 52 := ⟨⟨xg3 125 (by decide +kernel) rfl, xg1 4 (by decide +kernel) rfl⟩, ⟨by decide +kernel, by decide +kernel, by decide +kernel, by decide +kernel, by decide +kernel⟩, by show xre 52 = _; decide +kernel, Or.inl ⟨rfl, xg3 123 (by decide +kernel) rfl, xg3 124 (by decide +kernel) rfl⟩⟩
theorem xm_53 : xMok 53 := ⟨⟨xg3 131 (by decide +kernel) rfl, xg1 4 (by decide +kernel) rfl⟩, ⟨by decide +kernel, by decide +kernel, by decide +kernel, by decide +kernel, by decide +kernel⟩, by show xre 53 = _; decide +kernel, Or.inl ⟨rfl, xg3 130 (by decide +kernel) rfl, xg 6 (by decide +kernel) rfl⟩⟩
theorem xm_54 : xMok 54 := ⟨⟨xg3 135 (by decide +kernel) rfl, xg1 4 (by decide +kernel) rfl⟩, ⟨by decide +kernel, by decide +kernel, by decide +kernel, by decide +kernel, by decide +kernel⟩, by show xre 54 = _; decide +kernel, Or.inl ⟨rfl, xg3 134 (by decide +kernel) rfl, xg 7 (by decide +kernel) rfl⟩⟩
theorem xm_55 : xMok 55 := ⟨⟨xg3 138 (by decide +kernel) rfl, xg1 4 (by decide +kernel) rfl⟩, ⟨by decide +kernel, by decide +kernel, by decide +kernel, by decide +kernel, by decide +kernel⟩, by show xre 55 = _; decide +kernel, Or.inr (Or.inl ⟨rfl, xg3 137 (by decide +kernel) rfl⟩)⟩
theorem xm_56 : xMok 56 := ⟨⟨xg3 145 (by decide +kernel) rfl, xg1 4 (by decide +kernel) rfl⟩, ⟨by decide +kernel, by decide +kernel, by decide +kernel, by decide +kernel, by decide +kernel⟩, by show xre 56 = _; decide +kernel, Or.inl ⟨rfl, xg3 144 (by decide +kernel) rfl, xg 8 (by decide +kernel) rfl⟩⟩
theorem xm_57 : xMok 57 := ⟨⟨xg3 149 (by decide +kernel) rfl, xg1 4 (by decide +kernel) rfl⟩, ⟨by decide +kernel, by decide +kernel, by decide +kernel, by decide +kernel, by decide +kernel⟩, by show xre 57 = _; decide +kernel, Or.inl ⟨rfl, xg3 148 (by decide +kernel) rfl, xg 9 (by decide +kernel) rfl⟩⟩
theorem xm_58 : xMok 58 := ⟨⟨xg3 153 (by decide +kernel) rfl, xg1 4 (by decide +kernel) rfl⟩, ⟨by decide +kernel, by decide +kernel, by decide +kernel, by decide +kernel, by decide +kernel⟩, by show xre 58 = _; decide +kernel, Or.inl ⟨rfl, xg3 152 (by decide +kernel) rfl, xg 10 (by decide +kernel) rfl⟩⟩
theorem xm_59 : xMok 59 := ⟨⟨xg3 157 (by decide +kernel) rfl, xg1 4 (by decide +kernel) rfl⟩, ⟨by decide +kernel, by decide +kernel, by decide +kernel, by decide +kernel, by decide +kernel⟩, by show xre 59 = _; decide +kernel, Or.inl ⟨rfl, xg3 156 (by decide +kernel) rfl, xg 11 (by decide +kernel) rfl⟩⟩
theorem xm_60 : xMok 60 := ⟨⟨xg3 161 (by decide +kernel) rfl, xg1 4 (by decide +kernel) rfl⟩, ⟨by decide +kernel, by decide +kernel, by decide +kernel, by decide +kernel, by decide +kernel⟩, by show xre 60 = _; decide +kernel, Or.inl ⟨rfl, xg3 160 (by decide +kernel) rfl, xg 12 (by decide +kernel) rfl⟩⟩
theorem xm_61 : xMok 61 := ⟨⟨xg4 17 (by decide +kernel) rfl, xg1 4 (by decide +kernel) rfl⟩, ⟨by decide +kernel, by decide +kernel, by decide +kernel, by decide +kernel, by decide +kernel⟩, by show xre 61 = _; decide +kernel, Or.inl ⟨rfl, xg4 15 (by decide +kernel) rfl, xg4 16 (by decide +kernel) rfl⟩⟩
theorem xm_62 : xMok 62 := ⟨⟨xg3 166 (by decide +kernel) rfl, xg1 4 (by decide +kernel) rfl⟩, ⟨by decide +kernel, by decide +kernel, by decide +kernel, by decide +kernel, by decide +kernel⟩, by show xre 62 = _; decide +kernel, Or.inl ⟨rfl, xg3 164 (by decide +kernel) rfl, xg3 165 (by decide +kernel) rfl⟩⟩
theorem xm_63 : xMok 63 := ⟨⟨xg3 201 (by decide +kernel) rfl, xg1 4 (by decide +kernel) rfl⟩, ⟨by decide +kernel, by decide +kernel, by decide +kernel, by decide +kernel, by decide +kernel⟩, by show xre 63 = _; decide +kernel, Or.inl ⟨rfl, xg3 199 (by decide +kernel) rfl, xg3 200 (by decide +kernel) rfl⟩⟩
theorem xm_64 : xMok 64 := ⟨⟨xg3 217 (by decide +kernel) rfl, xg1 4 (by decide +kernel) rfl⟩, ⟨by decide +kernel, by decide +kernel, by decide +kernel, by decide +kernel, by decide +kernel⟩, by show xre 64 = _; decide +kernel, Or.inl ⟨rfl, xg3 215 (by decide +kernel) rfl, xg3 216 (by decide +kernel) rfl⟩⟩
theorem xm_65 : xMok 65 := ⟨⟨xg3 221 (by decide +kernel) rfl, xg1 4 (by decide +kernel) rfl⟩, ⟨by decide +kernel, by decide +kernel, by decide +kernel, by decide +kernel, by decide +kernel⟩, by show xre 65 = _; decide +kernel, Or.inl ⟨rfl, xg3 219 (by decide +kernel) rfl, xg3 220 (by decide +kernel) rfl⟩⟩
theorem xm_66 : xMok 66 := ⟨⟨xg4 8 (by decide +kernel) rfl, xg1 4 (by decide +kernel) rfl⟩, ⟨by decide +kernel, by decide +kernel, by decide +kernel, by decide +kernel, by decide +kernel⟩, by show xre 66 = _; decide +kernel, Or.inl ⟨rfl, xg4 6 (by decide +kernel) rfl, xg4 7 (by decide +kernel) rfl⟩⟩
theorem xm_67 : xMok 67 := ⟨⟨xg4 50 (by decide +kernel) rfl, xg1 4 (by decide +kernel) rfl⟩, ⟨by decide +kernel, by decide +kernel, by decide +kernel, by decide +kernel, by decide +kernel⟩, by show xre 67 = _; decide +kernel, Or.inl ⟨rfl, xg4 48 (by decide +kernel) rfl, xg4 49 (by decide +kernel) rfl⟩⟩
theorem xm_68 : xMok 68 := ⟨⟨xg4 77 (by decide +kernel) rfl, xg1 4 (by decide +kernel) rfl⟩, ⟨by decide +kernel, by decide +kernel, by decide +kernel, by decide +kernel, by decide +kernel⟩, by show xre 68 = _; decide +kernel, Or.inl ⟨rfl, xg4 75 (by decide +kernel) rfl, xg4 76 (by decide +kernel) rfl⟩⟩
theorem xm_69 : xMok 69 := ⟨⟨xg4 197 (by decide +kernel) rfl, xg1 4 (by decide +kernel) rfl⟩, ⟨by decide +kernel, by decide +kernel, by decide +kernel, by decide +kernel, by decide +kernel⟩, by show xre 69 = _; decide +kernel, Or.inl ⟨rfl, xg4 195 (by decide +kernel) rfl, xg4 196 (by decide +kernel) rfl⟩⟩
theorem xm_70 : xMok 70 := ⟨⟨xg4 205 (by decide +kernel) rfl, xg1 4 (by decide +kernel) rfl⟩, ⟨by decide +kernel, by decide +kernel, by decide +kernel, by decide +kernel, by decide +kernel⟩, by show xre 70 = _; decide +kernel, Or.inl ⟨rfl, xg4 203 (by decide +kernel) rfl, xg4 204 (by decide +kernel) rfl⟩⟩
theorem xm_71 : xMok 71 := ⟨⟨xg4 215 (by decide +kernel) rfl, xg1 4 (by decide +kernel) rfl⟩, ⟨by decide +kernel, by decide +kernel, by decide +kernel, by decide +kernel, by decide +kernel⟩, by show xre 71 = _; decide +kernel, Or.inl ⟨rfl, xg4 213 (by decide +kernel) rfl, xg4 214 (by decide +kernel) rfl⟩⟩
theorem xm_72 : xMok 72 := ⟨⟨xg4 223 (by decide +kernel) rfl, xg1 4 (by decide +kernel) rfl⟩, ⟨by decide +kernel, by decide +kernel, by decide +kernel, by decide +kernel, by decide +kernel⟩, by show xre 72 = _; decide +kernel, Or.inl ⟨rfl, xg4 221 (by decide +kernel) rfl, xg4 222 (by decide +kernel) rfl⟩⟩
theorem xm_73 : xMok 73 := ⟨⟨xg1 30 (by decide +kernel) rfl, xg1 2 (by decide +kernel) rfl⟩, ⟨by decide +kernel, by decide +kernel, by decide +kernel, by decide +kernel, by decide +kernel⟩, by show xre 73 = _; decide +kernel, Or.inr (Or.inr ⟨rfl, xg1 29 (by decide +kernel) rfl, by decide +kernel, by decide +kernel⟩)⟩
theorem xm_74 : xMok 74 := ⟨⟨xg1 50 (by decide +kernel) rfl, xg1 2 (by decide +kernel) rfl⟩, ⟨by decide +kernel, by decide +kernel, by decide +kernel, by decide +kernel, by decide +kernel⟩, by show xre 74 = _; decide +kernel, Or.inl ⟨rfl, xg1 48 (by decide +kernel) rfl, xg1 49 (by decide +kernel) rfl⟩⟩
theorem xm_75 : xMok 75 := ⟨⟨xg2 117 (by decide +kernel) rfl, xg1 2 (by decide +kernel) rfl⟩, ⟨by decide +kernel, by decide +kernel, by decide +kernel, by decide +kernel, by decide +kernel⟩, by show xre 75 = _; decide +kernel, Or.inl ⟨rfl, xg2 115 (by decide +kernel) rfl, xg2 116 (by decide +kernel) rfl⟩⟩
theorem xm_76 : xMok 76 := ⟨⟨xg2 124 (by decide +kernel) rfl, xg1 2 (by decide +kernel) rfl⟩, ⟨by decide +kernel, by decide +kernel, by decide +kernel, by decide +kernel, by decide +kernel⟩, by show xre 76 = _; decide +kernel, Or.inl ⟨rfl, xg2 122 (by decide +kernel) rfl, xg2 123 (by decide +kernel) rfl⟩⟩
theorem xm_77 : xMok 77 := ⟨⟨xg2 109 (by decide +kernel) rfl, xg1 2 (by decide +kernel) rfl⟩, ⟨by decide +kernel, by decide +kernel, by decide +kernel, by decide +kernel, by decide +kernel⟩, by show xre 77 = _; decide +kernel, Or.inl ⟨rfl, xg2 107 (by decide +kernel) rfl, xg2 108 (by decide +kernel) rfl⟩⟩
theorem xm_78 : xMok 78 := ⟨⟨xg2 113 (by decide +kernel) rfl, xg1 2 (by decide +kernel) rfl⟩, ⟨by decide +kernel, by decide +kernel, by decide +kernel, by decide +kernel, by decide +kernel⟩, by show xre 78 = _; decide +kernel, Or.inl ⟨rfl, xg2 111 (by decide +kernel) rfl, xg2 112 (by decide +kernel) rfl⟩⟩
theorem xm_79 : xMok 79 := ⟨⟨xg3 18 (by decide +kernel) rfl, xg1 2 (by decide +kernel) rfl⟩, ⟨by decide +kernel, by decide +kernel, by decide +kernel, by decide +kernel, by decide +kernel⟩, by show xre 79 = _; decide +kernel, Or.inl ⟨rfl, xg3 16 (by decide +kernel) rfl, xg3 17 (by decide +kernel) rfl⟩⟩
theorem xm_80 : xMok 80 := ⟨⟨xg3 77 (by decide +kernel) rfl, xg1 2 (by decide +kernel) rfl⟩, ⟨by decide +kernel, by decide +kernel, by decide +kernel, by decide +kernel, by decide +kernel⟩, by show xre 80 = _; decide +kernel, Or.inl ⟨rfl, xg3 75 (by decide +kernel) rfl, xg3 76 (by decide +kernel) rfl⟩⟩
theorem xm_81 : xMok 81 := ⟨⟨xg1 22 (by decide +kernel) rfl, xg1 1 (by decide +kernel) rfl⟩, ⟨by decide +kernel, by decide +kernel, by decide +kernel, by decide +kernel, by decide +kernel⟩, by show xre 81 = _; decide +kernel, Or.inr (Or.inr ⟨rfl, xg1 21 (by decide +kernel) rfl, by decide +kernel, by decide +kernel⟩)⟩
theorem xm_82 : xMok 82 := ⟨⟨xg2 223 (by decide +kernel) rfl, xg1 1 (by decide +kernel) rfl⟩, ⟨by decide +kernel, by decide +kernel, by decide +kernel, by decide +kernel, by decide +kernel⟩, by show xre 82 = _; decide +kernel, Or.inl ⟨rfl, xg2 221 (by decide +kernel) rfl, xg2 222 (by decide +kernel) rfl⟩⟩
theorem xm_83 : xMok 83 := ⟨⟨xg2 228 (by decide +kernel) rfl, xg1 1 (by decide +kernel) rfl⟩, ⟨by decide +kernel, by decide +kernel, by decide +kernel, by decide +kernel, by decide +kernel⟩, by show xre 83 = _; decide +kernel, Or.inl ⟨rfl, xg2 226 (by decide +kernel) rfl, xg2 227 (by decide +kernel) rfl⟩⟩
theorem xm_84 : xMok 84 := ⟨⟨xg4 173 (by decide +kernel) rfl, xg1 1 (by decide +kernel) rfl⟩, ⟨by decide +kernel, by decide +kernel, by decide +kernel, by decide +kernel, by decide +kernel⟩, by show xre 84 = _; decide +kernel, Or.inl ⟨rfl, xg4 171 (by decide +kernel) rfl, xg4 172 (by decide +kernel) rfl⟩⟩
theorem xm_85 : xMok 85 := ⟨⟨xg3 141 (by decide +kernel) rfl, xg1 1 (by decide +kernel) rfl⟩, ⟨by decide +kernel, by decide +kernel, by decide +kernel, by decide +kernel, by decide +kernel⟩, by show xre 85 = _; decide +kernel, Or.inr (Or.inl ⟨rfl, xg3 140 (by decide +kernel) rfl⟩)⟩
theorem xm_86 : xMok 86 := ⟨⟨xg4 178 (by decide +kernel) rfl, xg1 1 (by decide +kernel) rfl⟩, ⟨by decide +kernel, by decide +kernel, by decide +kernel, by decide +kernel, by decide +kernel⟩, by show xre 86 = _; decide +kernel, Or.inl ⟨rfl, xg4 176 (by decide +kernel) rfl, xg4 177 (by decide +kernel) rfl⟩⟩
theorem xm_87 : xMok 87 := ⟨⟨xg4 87 (by decide +kernel) rfl, xg1 1 (by decide +kernel) rfl⟩, ⟨by decide +kernel, by decide +kernel, by decide +kernel, by decide +kernel, by decide +kernel⟩, by show xre 87 = _; decide +kernel, Or.inl ⟨rfl, xg4 85 (by decide +kernel) rfl, xg4 86 (by decide +kernel) rfl⟩⟩
theorem xm_88 : xMok 88 := ⟨⟨xg4 95 (by decide +kernel) rfl, xg1 1 (by decide +kernel) rfl⟩, ⟨by decide +kernel, by decide +kernel, by decide +kernel, by decide +kernel, by decide +kernel⟩, by show xre 88 = _; decide +kernel, Or.inl ⟨rfl, xg4 93 (by decide +kernel) rfl, xg4 94 (by decide +kernel) rfl⟩⟩
theorem xm_89 : xMok 89 := ⟨⟨xg4 99 (by decide +kernel) rfl, xg1 1 (by decide +kernel) rfl⟩, ⟨by decide +kernel, by decide +kernel, by decide +kernel, by decide +kernel, by decide +kernel⟩, by show xre 89 = _; decide +kernel, Or.inl ⟨rfl, xg4 97 (by decide +kernel) rfl, xg4 98 (by decide +kernel) rfl⟩⟩
theorem xm_90 : xMok 90 := ⟨⟨xg4 103 (by decide +kernel) rfl, xg1 1 (by decide +kernel) rfl⟩, ⟨by decide +kernel, by decide +kernel, by decide +kernel, by decide +kernel, by decide +kernel⟩, by show xre 90 = _; decide +kernel, Or.inl ⟨rfl, xg4 101 (by decide +kernel) rfl, xg4 102 (by decide +kernel) rfl⟩⟩
theorem xm_91 : xMok 91 := ⟨⟨xg4 107 (by decide +kernel) rfl, xg1 1 (by decide +kernel) rfl⟩, ⟨by decide +kernel, by decide +kernel, by decide +kernel, by decide +kernel, by decide +kernel⟩, by show xre 91 = _; decide +kernel, Or.inl ⟨rfl, xg4 105 (by decide +kernel) rfl, xg4 106 (by decide +kernel) rfl⟩⟩
theorem xm_92 : xMok 92 := ⟨⟨xg4 111 (by decide +kernel) rfl, xg1 1 (by decide +kernel) rfl⟩, ⟨by decide +kernel, by decide +kernel, by decide +kernel, by decide +kernel, by decide +kernel⟩, by show xre 92 = _; decide +kernel, Or.inl ⟨rfl, xg4 109 (by decide +kernel) rfl, xg4 110 (by decide +kernel) rfl⟩⟩
theorem xm_93 : xMok 93 := ⟨⟨xg4 115 (by decide +kernel) rfl, xg1 1 (by decide +kernel) rfl⟩, ⟨by decide +kernel, by decide +kernel, by decide +kernel, by decide +kernel, by decide +kernel⟩, by show xre 93 = _; decide +kernel, Or.inl ⟨rfl, xg4 113 (by decide +kernel) rfl, xg4 114 (by decide +kernel) rfl⟩⟩
theorem xm_94 : xMok 94 := ⟨⟨xg4 119 (by decide +kernel) rfl, xg1 1 (by decide +kernel) rfl⟩, ⟨by decide +kernel, by decide +kernel, by decide +kernel, by decide +kernel, by decide +kernel⟩, by show xre 94 = _; decide +kernel, Or.inl ⟨rfl, xg4 117 (by decide +kernel) rfl, xg4 118 (by decide +kernel) rfl⟩⟩
theorem xm_95 : xMok 95 := ⟨⟨xg4 123 (by decide +kernel) rfl, xg1 1 (by decide +kernel) rfl⟩, ⟨by decide +kernel, by decide +kernel, by decide +kernel, by decide +kernel, by decide +kernel⟩, by show xre 95 = _; decide +kernel, Or.inl ⟨rfl, xg4 121 (by decide +kernel) rfl, xg4 122 (by decide +kernel) rfl⟩⟩
theorem xm_96 : xMok 96 := ⟨⟨xg4 127 (by decide +kernel) rfl, xg1 1 (by decide +kernel) rfl⟩, ⟨by decide +kernel, by decide +kernel, by decide +kernel, by decide +kernel, by decide +kernel⟩, by show xre 96 = _; decide +kernel, Or.inl ⟨rfl, xg4 125 (by decide +kernel) rfl, xg4 126 (by decide +kernel) rfl⟩⟩
theorem xm_97 : xMok 97 := ⟨⟨xg2 212 (by decide +kernel) rfl, xg1 0 (by decide +kernel) rfl⟩, ⟨by decide +kernel, by decide +kernel, by decide +kernel, by decide +kernel, by decide +kernel⟩, by show xre 97 = _; decide +kernel, Or.inr (Or.inl ⟨rfl, xg2 211 (by decide +kernel) rfl⟩)⟩
theorem xm_98 : xMok 98 := ⟨⟨xg2 209 (by decide +kernel) rfl, xg1 1 (by decide +kernel) rfl⟩, ⟨by decide +kernel, by decide +kernel, by decide +kernel, by decide +kernel, by decide +kernel⟩, by show xre 98 = _; decide +kernel, Or.inl ⟨rfl, xg2 207 (by decide +kernel) rfl, xg2 208 (by decide +kernel) rfl⟩⟩
theorem xm_99 : xMok 99 := ⟨⟨xg4 152 (by decide +kernel) rfl, xg1 1 (by decide +kernel) rfl⟩, ⟨by decide +kernel, by decide +kernel, by decide +kernel, by decide +kernel, by decide +kernel⟩, by show xre 99 = _; decide +kernel, Or.inl ⟨rfl, xg4 150 (by decide +kernel) rfl, xg4 151 (by decide +kernel) rfl⟩⟩
theorem xm_100 : xMok 100 := ⟨⟨xg2 215 (by decide +kernel) rfl, xg1 0 (by decide +kernel) rfl⟩, ⟨by decide +kernel, by decide +kernel, by decide +kernel, by decide +kernel, by decide +kernel⟩, by show xre 100 = _; decide +kernel, Or.inr (Or.inl ⟨rfl, xg2 214 (by decide +kernel) rfl⟩)⟩
theorem xm_101 : xMok 101 := ⟨⟨xg3 28 (by decide +kernel) rfl, xg1 0 (by decide +kernel) rfl⟩, ⟨by decide +kernel, by decide +kernel, by decide +kernel, by decide +kernel, by decide +kernel⟩, by show xre 101 = _; decide +kernel, Or.inr (Or.inl ⟨rfl, xg3 27 (by decide +kernel) rfl⟩)⟩
theorem xm_102 : xMok 102 := ⟨⟨xg4 181 (by decide +kernel) rfl, xg1 0 (by decide +kernel) rfl⟩, ⟨by decide +kernel, by decide +kernel, by decide +kernel, by decide +kernel, by decide +kernel⟩, by show xre 102 = _; decide +kernel, Or.inr (Or.inl ⟨rfl, xg4 180 (by decide +kernel) rfl⟩)⟩
theorem xm_103 : xMok 103 := ⟨⟨xg3 25 (by decide +kernel) rfl, xg1 0 (by decide +kernel) rfl⟩, ⟨by decide +kernel, by decide +kernel, by decide +kernel, by decide +kernel, by decide +kernel⟩, by show xre 103 = _; decide +kernel, Or.inr (Or.inl ⟨rfl, xg3 24 (by decide +kernel) rfl⟩)⟩
theorem xm_104 : xMok 104 := ⟨⟨xg2 231 (by decide +kernel) rfl, xg1 0 (by decide +kernel) rfl⟩, ⟨by decide +kernel, by decide +kernel, by decide +kernel, by decide +kernel, by decide +kernel⟩, by show xre 104 = _; decide +kernel, Or.inr (Or.inl ⟨rfl, xg2 230 (by decide +kernel) rfl⟩)⟩
theorem xm_105 : xMok 105 := ⟨⟨xg4 157 (by decide +kernel) rfl, xg1 1 (by decide +kernel) rfl⟩, ⟨by decide +kernel, by decide +kernel, by decide +kernel, by decide +kernel, by decide +kernel⟩, by show xre 105 = _; decide +kernel, Or.inl ⟨rfl, xg4 155 (by decide +kernel) rfl, xg4 156 (by decide +kernel) rfl⟩⟩
theorem xm_106 : xMok 106 := ⟨⟨xg4 163 (by decide +kernel) rfl, xg1 1 (by decide +kernel) rfl⟩, ⟨by decide +kernel, by decide +kernel, by decide +kernel, by decide +kernel, by decide +kernel⟩, by show xre 106 = _; decide +kernel, Or.inl ⟨rfl, xg4 161 (by decide +kernel) rfl, xg4 162 (by decide +kernel) rfl⟩⟩
theorem xm_107 : xMok 107 := ⟨⟨xg4 136 (by decide +kernel) rfl, xg1 1 (by decide +kernel) rfl⟩, ⟨by decide +kernel, by decide +kernel, by decide +kernel, by decide +kernel, by decide +kernel⟩, by show xre 107 = _; decide +kernel, Or.inl ⟨rfl, xg4 134 (by decide +kernel) rfl, xg4 135 (by decide +kernel) rfl⟩⟩
theorem xm_108 : xMok 108 := ⟨⟨xg3 38 (by decide +kernel) rfl, xg1 1 (by decide +kernel) rfl⟩, ⟨by decide +kernel, by decide +kernel, by decide +kernel, by decide +kernel, by decide +kernel⟩, by show xre 108 = _; decide +kernel, Or.inr (Or.inl ⟨rfl, xg3 37 (by decide +kernel) rfl⟩)⟩
theorem xm_109 : xMok 109 := ⟨⟨xg5 75 (by decide +kernel) rfl, xg1 1 (by decide +kernel) rfl⟩, ⟨by decide +kernel, by decide +kernel, by decide +kernel, by decide +kernel, by decide +kernel⟩, by show xre 109 = _; decide +kernel, Or.inl ⟨rfl, xg5 73 (by decide +kernel) rfl, xg5 74 (by decide +kernel) rfl⟩⟩
theorem xm_110 : xMok 110 := ⟨⟨xg3 72 (by decide +kernel) rfl, xg1 1 (by decide +kernel) rfl⟩, ⟨by decide +kernel, by decide +kernel, by decide +kernel, by decide +kernel, by decide +kernel⟩, by show xre 110 = _; decide +kernel, Or.inl ⟨rfl, xg3 71 (by decide +kernel) rfl, xg 2 (by decide +kernel) rfl⟩⟩
theorem xm_111 : xMok 111 := ⟨⟨xg5 67 (by decide +kernel) rfl, xg1 1 (by decide +kernel) rfl⟩, ⟨by decide +kernel, by decide +kernel, by decide +kernel, by decide +kernel, by decide +kernel⟩, by show xre 111 = _; decide +kernel, Or.inl ⟨rfl, xg5 65 (by decide +kernel) rfl, xg5 66 (by decide +kernel) rfl⟩⟩
theorem xm_112 : xMok 112 := ⟨⟨xg3 95 (by decide +kernel) rfl, xg1 1 (by decide +kernel) rfl⟩, ⟨by decide +kernel, by decide +kernel, by decide +kernel, by decide +kernel, by decide +kernel⟩, by show xre 112 = _; decide +kernel, Or.inl ⟨rfl, xg3 94 (by decide +kernel) rfl, xg 3 (by decide +kernel) rfl⟩⟩
theorem xm_113 : xMok 113 := ⟨⟨xg3 99 (by decide +kernel) rfl, xg1 1 (by decide +kernel) rfl⟩, ⟨by decide +kernel, by decide +kernel, by decide +kernel, by decide +kernel, by decide +kernel⟩, by show xre 113 = _; decide +kernel, Or.inr (Or.inl ⟨rfl, xg3 98 (by decide +kernel) rfl⟩)⟩
theorem xm_114 : xMok 114 := ⟨⟨xg5 71 (by decide +kernel) rfl, xg1 1 (by decide +kernel) rfl⟩, ⟨by decide +kernel, by decide +kernel, by decide +kernel, by decide +kernel, by decide +kernel⟩, by show xre 114 = _; decide +kernel, Or.inl ⟨rfl, xg5 69 (by decide +kernel) rfl, xg5 70 (by decide +kernel) rfl⟩⟩
theorem xm_115 : xMok 115 := ⟨⟨xg3 171 (by decide +kernel) rfl, xg1 1 (by decide +kernel) rfl⟩, ⟨by decide +kernel, by decide +kernel, by decide +kernel, by decide +kernel, by decide +kernel⟩, by show xre 115 = _; decide +kernel, Or.inl ⟨rfl, xg3 170 (by decide +kernel) rfl, xg 13 (by decide +kernel) rfl⟩⟩
theorem xm_116 : xMok 116 := ⟨⟨xg4 189 (by decide +kernel) rfl, xg1 1 (by decide +kernel) rfl⟩, ⟨by decide +kernel, by decide +kernel, by decide +kernel, by decide +kernel, by decide +kernel⟩, by show xre 116 = _; decide +kernel, Or.inl ⟨rfl, xg4 187 (by decide +kernel) rfl, xg4 188 (by decide +kernel) rfl⟩⟩
theorem xm_117 : xMok 117 := ⟨⟨xg3 121 (by decide +kernel) rfl, xg1 1 (by decide +kernel) rfl⟩, ⟨by decide +kernel, by decide +kernel, by decide +kernel, by decide +kernel, by decide +kernel⟩, by show xre 117 = _; decide +kernel, Or.inl ⟨rfl, xg3 120 (by decide +kernel) rfl, xg 5 (by decide +kernel) rfl⟩⟩
theorem xm_118 : xMok 118 := ⟨⟨xg4 193 (by decide +kernel) rfl, xg1 1 (by decide +kernel) rfl⟩, ⟨by decide +kernel, by decide +kernel, by decide +kernel, by decide +kernel, by decide +kernel⟩, by show xre 118 = _; decide +kernel, Or.inl ⟨rfl, xg4 191 (by decide +kernel) rfl, xg4 192 (by decide +kernel) rfl⟩⟩
theorem xm_119 : xMok 119 := ⟨⟨xg4 201 (by decide +kernel) rfl, xg1 1 (by decide +kernel) rfl⟩, ⟨by decide +kernel, by decide +kernel, by decide +kernel, by decide +kernel, by decide +kernel⟩, by show xre 119 = _; decide +kernel, Or.inl ⟨rfl, xg4 199 (by decide +kernel) rfl, xg4 200 (by decide +kernel) rfl⟩⟩
theorem xm_120 : xMok 120 := ⟨⟨xg4 211 (by decide +kernel) rfl, xg1 1 (by decide +kernel) rfl⟩, ⟨by decide +kernel, by decide +kernel, by decide +kernel, by decide +kernel, by decide +kernel⟩, by show xre 120 = _; decide +kernel, Or.inl ⟨rfl, xg4 209 (by decide +kernel) rfl, xg4 210 (by decide +kernel) rfl⟩⟩
theorem xm_121 : xMok 121 := ⟨⟨xg4 219 (by decide +kernel) rfl, xg1 1 (by decide +kernel) rfl⟩, ⟨by decide +kernel, by decide +kernel, by decide +kernel, by decide +kernel, by decide +kernel⟩, by show xre 121 = _; decide +kernel, Or.inl ⟨rfl, xg4 217 (by decide +kernel) rfl, xg4 218 (by decide +kernel) rfl⟩⟩
theorem xm_122 : xMok 122 := ⟨⟨xg4 227 (by decide +kernel) rfl, xg1 1 (by decide +kernel) rfl⟩, ⟨by decide +kernel, by decide +kernel, by decide +kernel, by decide +kernel, by decide +kernel⟩, by show xre 122 = _; decide +kernel, Or.inl ⟨rfl, xg4 225 (by decide +kernel) rfl, xg4 226 (by decide +kernel) rfl⟩⟩
theorem xm_123 : xMok 123 := ⟨⟨xg4 235 (by decide +kernel) rfl, xg1 1 (by decide +kernel) rfl⟩, ⟨by decide +kernel, by decide +kernel, by decide +kernel, by decide +kernel, by decide +kernel⟩, by show xre 123 = _; decide +kernel, Or.inl ⟨rfl, xg4 233 (by decide +kernel) rfl, xg4 234 (by decide +kernel) rfl⟩⟩
theorem xm_124 : xMok 124 := ⟨⟨xg4 231 (by decide +kernel) rfl, xg1 1 (by decide +kernel) rfl⟩, ⟨by decide +kernel, by decide +kernel, by decide +kernel, by decide +kernel, by decide +kernel⟩, by show xre 124 = _; decide +kernel, Or.inl ⟨rfl, xg4 229 (by decide +kernel) rfl, xg4 230 (by decide +kernel) rfl⟩⟩
theorem xm_125 : xMok 125 := ⟨⟨xg2 219 (by decide +kernel) rfl, xg1 0 (by decide +kernel) rfl⟩, ⟨by decide +kernel, by decide +kernel, by decide +kernel, by decide +kernel, by decide +kernel⟩, by show xre 125 = _; decide +kernel, Or.inr (Or.inl ⟨rfl, xg2 218 (by decide +kernel) rfl⟩)⟩
theorem xm_126 : xMok 126 := ⟨⟨xg2 235 (by decide +kernel) rfl, xg1 1 (by decide +kernel) rfl⟩, ⟨by decide +kernel, by decide +kernel, by decide +kernel, by decide +kernel, by decide +kernel⟩, by show xre 126 = _; decide +kernel, Or.inl ⟨rfl, xg2 233 (by decide +kernel) rfl, xg2 234 (by decide +kernel) rfl⟩⟩
theorem xm_127 : xMok 127 := ⟨⟨xg2 238 (by decide +kernel) rfl, xg1 1 (by decide +kernel) rfl⟩, ⟨by decide +kernel, by decide +kernel, by decide +kernel, by decide +kernel, by decide +kernel⟩, by show xre 127 = _; decide +kernel, Or.inr (Or.inl ⟨rfl, xg2 237 (by decide +kernel) rfl⟩)⟩
theorem xm_128 : xMok 128 := ⟨⟨xg3 35 (by decide +kernel) rfl, xg1 1 (by decide +kernel) rfl⟩, ⟨by decide +kernel, by decide +kernel, by decide +kernel, by decide +kernel, by decide +kernel⟩, by show xre 128 = _; decide +kernel, Or.inl ⟨rfl, xg3 33 (by decide +kernel) rfl, xg3 34 (by decide +kernel) rfl⟩⟩
theorem xm_129 : xMok 129 := ⟨⟨xg3 68 (by decide +kernel) rfl, xg1 1 (by decide +kernel) rfl⟩, ⟨by decide +kernel, by decide +kernel, by decide +kernel, by decide +kernel, by decide +kernel⟩, by show xre 129 = _; decide +kernel, Or.inl ⟨rfl, xg3 66 (by decide +kernel) rfl, xg3 67 (by decide +kernel) rfl⟩⟩
theorem xm_130 : xMok 130 := ⟨⟨xg3 81 (by decide +kernel) rfl, xg1 1 (by decide +kernel) rfl⟩, ⟨by decide +kernel, by decide +kernel, by decide +kernel, by decide +kernel, by decide +kernel⟩, by show xre 130 = _; decide +kernel, Or.inl ⟨rfl, xg3 79 (by decide +kernel) rfl, xg3 80 (by decide +kernel) rfl⟩⟩
theorem xm_131 : xMok 131 := ⟨⟨xg3 86 (by decide +kernel) rfl, xg1 1 (by decide +kernel) rfl⟩, ⟨by decide +kernel, by decide +kernel, by decide +kernel, by decide +kernel, by decide +kernel⟩, by show xre 131 = _; decide +kernel, Or.inl ⟨rfl, xg3 84 (by decide +kernel) rfl, xg3 85 (by decide +kernel) rfl⟩⟩
theorem xm_132 : xMok 132 := ⟨⟨xg3 91 (by decide +kernel) rfl, xg1 1 (by decide +kernel) rfl⟩, ⟨by decide +kernel, by decide +kernel, by decide +kernel, by decide +kernel, by decide +kernel⟩, by show xre 132 = _; decide +kernel, Or.inl ⟨rfl, xg3 89 (by decide +kernel) rfl, xg3 90 (by decide +kernel) rfl⟩⟩
theorem xm_133 : xMok 133 := ⟨⟨xg3 104 (by decide +kernel) rfl, xg1 1 (by decide +kernel) rfl⟩, ⟨by decide +kernel, by decide +kernel, by decide +kernel, by decide +kernel, by decide +kernel⟩, by show xre 133 = _; decide +kernel, Or.inl ⟨rfl, xg3 102 (by decide +kernel) rfl, xg3 103 (by decide +kernel) rfl⟩⟩
theorem xm_134 : xMok 134 := ⟨⟨xg3 108 (by decide +kernel) rfl, xg1 1 (by decide +kernel) rfl⟩, ⟨by decide +kernel, by decide +kernel, by decide +kernel, by decide +kernel, by decide +kernel⟩, by show xre 134 = _; decide +kernel, Or.inl ⟨rfl, xg3 107 (by decide +kernel) rfl, xg 4 (by decide +kernel) rfl⟩⟩
theorem xm_135 : xMok 135 := ⟨⟨xg3 113 (by decide +kernel) rfl, xg1 1 (by decide +kernel) rfl⟩, ⟨by decide +kernel, by decide +kernel, by decide +kernel, by decide +kernel, by decide +kernel⟩, by show xre 135 = _; decide +kernel, Or.inl ⟨rfl, xg3 111 (by decide +kernel) rfl, xg3 112 (by decide +kernel) rfl⟩⟩
theorem xm_136 : xMok 136 := ⟨⟨xg4 140 (by decide +kernel) rfl, xg1 1 (by decide +kernel) rfl⟩, ⟨by decide +kernel, by decide +kernel, by decide +kernel, by decide +kernel, by decide +kernel⟩, by show xre 136 = _; decide +kernel, Or.inl ⟨rfl, xg4 138 (by decide +kernel) rfl, xg4 139 (by decide +kernel) rfl⟩⟩
theorem xm_137 : xMok 137 := ⟨⟨xg4 144 (by decide +kernel) rfl, xg1 1 (by decide +kernel) rfl⟩, ⟨by decide +kernel, by decide +kernel, by decide +kernel, by decide +kernel, by decide +kernel⟩, by show xre 137 = _; decide +kernel, Or.inl ⟨rfl, xg4 142 (by decide +kernel) rfl, xg4 143 (by decide +kernel) rfl⟩⟩
theorem xm_138 : xMok 138 := ⟨⟨xg3 117 (by decide +kernel) rfl, xg1 1 (by decide +kernel) rfl⟩, ⟨by decide +kernel, by decide +kernel, by decide +kernel, by decide +kernel, by decide +kernel⟩, by show xre 138 = _; decide +kernel, Or.inl ⟨rfl, xg3 115 (by decide +kernel) rfl, xg3 116 (by decide +kernel) rfl⟩⟩
theorem xm_139 : xMok 139 := ⟨⟨xg4 131 (by decide +kernel) rfl, xg1 1 (by decide +kernel) rfl⟩, ⟨by decide +kernel, by decide +kernel, by decide +kernel, by decide +kernel, by decide +kernel⟩, by show xre 139 = _; decide +kernel, Or.inl ⟨rfl, xg4 129 (by decide +kernel) rfl, xg4 130 (by decide +kernel) rfl⟩⟩
theorem xm_140 : xMok 140 := ⟨⟨xg4 185 (by decide +kernel) rfl, xg1 1 (by decide +kernel) rfl⟩, ⟨by decide +kernel, by decide +kernel, by decide +kernel, by decide +kernel, by decide +kernel⟩, by show xre 140 = _; decide +kernel, Or.inl ⟨rfl, xg4 183 (by decide +kernel) rfl, xg4 184 (by decide +kernel) rfl⟩⟩
theorem xm_141 : xMok 141 := ⟨⟨xg2 97 (by decide +kernel) rfl, xg1 1 (by decide +kernel) rfl⟩, ⟨by decide +kernel, by decide +kernel, by decide +kernel, by decide +kernel, by decide +kernel⟩, by show xre 141 = _; decide +kernel, Or.inl ⟨rfl, xg2 95 (by decide +kernel) rfl, xg2 96 (by decide +kernel) rfl⟩⟩
theorem xm_142 : xMok 142 := ⟨⟨xg3 22 (by decide +kernel) rfl, xg1 0 (by decide +kernel) rfl⟩, ⟨by decide +kernel, by decide +kernel, by decide +kernel, by decide +kernel, by decide +kernel⟩, by show xre 142 = _; decide +kernel, Or.inr (Or.inl ⟨rfl, xg3 21 (by decide +kernel) rfl⟩)⟩
theorem xm_143 : xMok 143 := ⟨⟨xg4 90 (by decide +kernel) rfl, xg1 0 (by decide +kernel) rfl⟩, ⟨by decide +kernel, by decide +kernel, by decide +kernel, by decide +kernel, by decide +kernel⟩, by show xre 143 = _; decide +kernel, Or.inr (Or.inl ⟨rfl, xg4 89 (by decide +kernel) rfl⟩)⟩
theorem xm_144 : xMok 144 := ⟨⟨xg4 148 (by decide +kernel) rfl, xg1 0 (by decide +kernel) rfl⟩, ⟨by decide +kernel, by decide +kernel, by decide +kernel, by decide +kernel, by decide +kernel⟩, by show xre 144 = _; decide +kernel, Or.inr (Or.inl ⟨rfl, xg4 147 (by decide +kernel) rfl⟩)⟩
theorem xm_145 : xMok 145 := ⟨⟨xg4 169 (by decide +kernel) rfl, xg1 0 (by decide +kernel) rfl⟩, ⟨by decide +kernel, by decide +kernel, by decide +kernel, by decide +kernel, by decide +kernel⟩, by show xre 145 = _; decide +kernel, Or.inr (Or.inl ⟨rfl, xg4 168 (by decide +kernel) rfl⟩)⟩
theorem xm_146 : xMok 146 := ⟨⟨xg5 63 (by decide +kernel) rfl, xg1 0 (by decide +kernel) rfl⟩, ⟨by decide +kernel, by decide +kernel, by decide +kernel, by decide +kernel, by decide +kernel⟩, by show xre 146 = _; decide +kernel, Or.inr (Or.inl ⟨rfl, xg5 62 (by decide +kernel) rfl⟩)⟩
def xMs_l0 : List (Nat) := [0, 1, 2, 3, 4, 5, 6, 7, 8, 9, 10, 11, 12, 13, 14, 15]
theorem xMs_b0 : ∀ q ∈ xMs_l0, xMok q := List.forall_mem_cons.mpr ⟨xm_0, List.forall_mem_cons.mpr ⟨xm_1, List.forall_mem_cons.mpr ⟨xm_2, List.forall_mem_cons.mpr ⟨xm_3, List.forall_mem_cons.mpr ⟨xm_4, List.forall_mem_cons.mpr ⟨xm_5, List.forall_mem_cons.mpr ⟨xm_6, List.forall_mem_cons.mpr ⟨xm_7, List.forall_mem_cons.mpr ⟨xm_8, List.forall_mem_cons.mpr ⟨xm_9, List.forall_mem_cons.mpr ⟨xm_10, List.forall_mem_cons.mpr ⟨xm_11, List.forall_mem_cons.mpr ⟨xm_12, List.forall_mem_cons.mpr ⟨xm_13, List.forall_mem_cons.mpr ⟨xm_14, List.forall_mem_cons.mpr ⟨xm_15, fun _ h => absurd h List.not_mem_nil⟩⟩⟩⟩⟩⟩⟩⟩⟩⟩⟩⟩⟩⟩⟩⟩
def xMs_l16 : List (Nat) := [16, 17, 18, 19, 20, 21, 22, 23, 24, 25, 26, 27, 28, 29, 30, 31]
theorem xMs_b16 : ∀ q ∈ xMs_l16, xMok q := List.forall_mem_cons.mpr ⟨xm_16, List.forall_mem_cons.mpr ⟨xm_17, List.forall_mem_cons.mpr ⟨xm_18, List.forall_mem_cons.mpr ⟨xm_19, List.forall_mem_cons.mpr ⟨xm_20, List.forall_mem_cons.mpr ⟨xm_21, List.forall_mem_cons.mpr ⟨xm_22, List.forall_mem_cons.mpr ⟨xm_23, List.forall_mem_cons.mpr ⟨xm_24, List.forall_mem_cons.mpr ⟨xm_25, List.forall_mem_cons.mpr ⟨xm_26, List.forall_mem_cons.mpr ⟨xm_27, List.forall_mem_cons.mpr ⟨xm_28, List.forall_mem_cons.mpr ⟨xm_29, List.forall_mem_cons.mpr ⟨xm_30, List.forall_mem_cons.mpr ⟨xm_31, fun _ h => absurd h List.not_mem_nil⟩⟩⟩⟩⟩⟩⟩⟩⟩⟩⟩⟩⟩⟩⟩⟩
def xMs_l32 : List (Nat) := [32, 33, 34, 35, 36, 37, 38, 39, 40, 41, 42, 43, 44, 45, 46, 47]
theorem xMs_b32 : ∀ q ∈ xMs_l32, xMok q := List.forall_mem_cons.mpr ⟨xm_32, List.forall_mem_cons.mpr ⟨xm_33, List.forall_mem_cons.mpr ⟨xm_34, List.forall_mem_cons.mpr ⟨xm_35, List.forall_mem_cons.mpr ⟨xm_36, List.forall_mem_cons.mpr ⟨xm_37, List.forall_mem_cons.mpr ⟨xm_38, List.forall_mem_cons.mpr ⟨xm_39, List.forall_mem_cons.mpr ⟨xm_40, List.forall_mem_cons.mpr ⟨xm_41, List.forall_mem_cons.mpr ⟨xm_42, List.forall_mem_cons.mpr ⟨xm_43, List.forall_mem_cons.mpr ⟨xm_44, List.forall_mem_cons.mpr ⟨xm_45, List.forall_mem_cons.mpr ⟨xm_46, List.forall_mem_cons.mpr ⟨xm_47, fun _ h => absurd h List.not_mem_nil⟩⟩⟩⟩⟩⟩⟩⟩⟩⟩⟩⟩⟩⟩⟩⟩
def xMs_l48 : List (Nat) := [48, 49, 50, 51, 52, 53, 54, 55, 56, 57, 58, 59, 60, 61, 62, 63]
theorem xMs_b48 : ∀ q ∈ xMs_l48, xMok q := List.forall_mem_cons.mpr ⟨xm_48, List.forall_mem_cons.mpr ⟨xm_49, List.forall_mem_cons.mpr ⟨xm_50, List.forall_mem_cons.mpr ⟨xm_51, List.forall_mem_cons.mpr ⟨xm_52, List.forall_mem_cons.mpr ⟨xm_53, List.forall_mem_cons.mpr ⟨xm_54, List.forall_mem_cons.mpr ⟨xm_55, List.forall_mem_cons.mpr ⟨xm_56, List.forall_mem_cons.mpr ⟨xm_57, List.forall_mem_cons.mpr ⟨xm_58, List.forall_mem_cons.mpr ⟨xm_59, List.forall_mem_cons.mpr ⟨xm_60, List.forall_mem_cons.mpr ⟨xm_61, List.forall_mem_cons.mpr ⟨xm_62, List.forall_mem_cons.mpr ⟨xm_63, fun _ h => absurd h List.not_mem_nil⟩⟩⟩⟩⟩⟩⟩⟩⟩⟩⟩⟩⟩⟩⟩⟩
def xMs_l64 : List (Nat) := [64, 65, 66, 67, 68, 69, 70, 71, 72, 73, 74, 75, 76, 77, 78, 79]
theorem xMs_b64 : ∀ q ∈ xMs_l64, xMok q := List.forall_mem_cons.mpr ⟨xm_64, List.forall_mem_cons.mpr ⟨xm_65, List.forall_mem_cons.mpr ⟨xm_66, List.forall_mem_cons.mpr ⟨xm_67, List.forall_mem_cons.mpr ⟨xm_68, List.forall_mem_cons.mpr ⟨xm_69, List.forall_mem_cons.mpr ⟨xm_70, List.forall_mem_cons.mpr ⟨xm_71, List.forall_mem_cons.mpr ⟨xm_72, List.forall_mem_cons.mpr ⟨xm_73, List.forall_mem_cons.mpr ⟨xm_74, List.forall_mem_cons.mpr ⟨xm_75, List.forall_mem_cons.mpr ⟨xm_76, List.forall_mem_cons.mpr ⟨xm_77, List.forall_mem_cons.mpr ⟨xm_78, List.forall_mem_cons.mpr ⟨xm_79, fun _ h => absurd h List.not_mem_nil⟩⟩⟩⟩⟩⟩⟩⟩⟩⟩⟩⟩⟩⟩⟩⟩
def xMs_l80 : List (Nat) := [80, 81, 82, 83, 84, 85, 86, 87, 88, 89, 90, 91, 92, 93, 94, 95]
theorem xMs_b80 : ∀ q ∈ xMs_l80, xMok q := List.forall_mem_cons.mpr ⟨xm_80, List.forall_mem_cons.mpr ⟨xm_81, List.forall_mem_cons.mpr ⟨xm_82, List.forall_mem_cons.mpr ⟨xm_83, List.forall_mem_cons.mpr ⟨xm_84, List.forall_mem_cons.mpr ⟨xm_85, List.forall_mem_cons.mpr ⟨xm_86, List.forall_mem_cons.mpr ⟨xm_87, List.forall_mem_cons.mpr ⟨xm_88, List.forall_mem_cons.mpr ⟨xm_89, List.forall_mem_cons.mpr ⟨xm_90, List.forall_mem_cons.mpr ⟨xm_91, List.forall_mem_cons.mpr ⟨xm_92, List.forall_mem_cons.mpr ⟨xm_93, List.forall_mem_cons.mpr ⟨xm_94, List.forall_mem_cons.mpr ⟨xm_95, fun _ h => absurd h List.not_mem_nil⟩⟩⟩⟩⟩⟩⟩⟩⟩⟩⟩⟩⟩⟩⟩⟩
def xMs_l96 : List (Nat) := [96, 97, 98, 99, 100, 101, 102, 103, 104, 105, 106, 107, 108, 109, 110, 111]
theorem xMs_b96 : ∀ q ∈ xMs_l96, xMok q := List.forall_mem_cons.mpr ⟨xm_96, List.forall_mem_cons.mpr ⟨xm_97, List.forall_mem_cons.mpr ⟨xm_98, List.forall_mem_cons.mpr ⟨xm_99, List.forall_mem_cons.mpr ⟨xm_100, List.forall_mem_cons.mpr ⟨xm_101, List.forall_mem_cons.mpr ⟨xm_102, List.forall_mem_cons.mpr ⟨xm_103, List.forall_mem_cons.mpr ⟨xm_104, List.forall_mem_cons.mpr ⟨xm_105, List.forall_mem_cons.mpr ⟨xm_106, List.forall_mem_cons.mpr ⟨xm_107, List.forall_mem_cons.mpr ⟨xm_108, List.forall_mem_cons.mpr ⟨xm_109, List.forall_mem_cons.mpr ⟨xm_110, List.forall_mem_cons.mpr ⟨xm_111, fun _ h => absurd h List.not_mem_nil⟩⟩⟩⟩⟩⟩⟩⟩⟩⟩⟩⟩⟩⟩⟩⟩
def xMs_l112 : List (Nat) := [112, 113, 114, 115, 116, 117, 118, 119, 120, 121, 122, 123, 124, 125, 126, 127]
theorem xMs_b112 : ∀ q ∈ xMs_l112, xMok q := List.forall_mem_cons.mpr ⟨xm_112, List.forall_mem_cons.mpr ⟨xm_113, List.forall_mem_cons.mpr ⟨xm_114, List.forall_mem_cons.mpr ⟨xm_115, List.forall_mem_cons.mpr ⟨xm_116, List.forall_mem_cons.mpr ⟨xm_117, List.forall_mem_cons.mpr ⟨xm_118, List.forall_mem_cons.mpr ⟨xm_119, List.forall_mem_cons.mpr ⟨xm_120, List.forall_mem_cons.mpr ⟨xm_121, List.forall_mem_cons.mpr ⟨xm_122, List.forall_mem_cons.mpr ⟨xm_123, List.forall_mem_cons.mpr ⟨xm_124, List.forall_mem_cons.mpr ⟨xm_125, List.forall_mem_cons.mpr ⟨xm_126, List.forall_mem_cons.mpr ⟨xm_127, fun _ h => absurd h List.not_mem_nil⟩⟩⟩⟩⟩⟩⟩⟩⟩⟩⟩⟩⟩⟩⟩⟩
def xMs_l128 : List (Nat) := [128, 129, 130, 131, 132, 133, 134, 135, 136, 137, 138, 139, 140, 141, 142, 143]
theorem xMs_b128 : ∀ q ∈ xMs_l128, xMok q := List.forall_mem_cons.mpr ⟨xm_128, List.forall_mem_cons.mpr ⟨xm_129, List.forall_mem_cons.mpr ⟨xm_130, List.forall_mem_cons.mpr ⟨xm_131, List.forall_mem_cons.mpr ⟨xm_132, List.forall_mem_cons.mpr ⟨xm_133, List.forall_mem_cons.mpr ⟨xm_134, List.forall_mem_cons.mpr ⟨xm_135, List.forall_mem_cons.mpr ⟨xm_136, List.forall_mem_cons.mpr ⟨xm_137, List.forall_mem_cons.mpr ⟨xm_138, List.forall_mem_cons.mpr ⟨xm_139, List.forall_mem_cons.mpr ⟨xm_140, List.forall_mem_cons.mpr ⟨xm_141, List.forall_mem_cons.mpr ⟨xm_142, List.forall_mem_cons.mpr ⟨xm_143, fun _ h => absurd h List.not_mem_nil⟩⟩⟩⟩⟩⟩⟩⟩⟩⟩⟩⟩⟩⟩⟩⟩
def xMs_l144 : List (Nat) := [144, 145, 146]
theorem xMs_b144 : ∀ q ∈ xMs_l144, xMok q := List.forall_mem_cons.mpr ⟨xm_144, List.forall_mem_cons.mpr ⟨xm_145, List.forall_mem_cons.mpr ⟨xm_146, fun _ h => absurd h List.not_mem_nil⟩⟩⟩
def xMs_l : List (Nat) := xMs_l0 ++ (xMs_l16 ++ (xMs_l32 ++ (xMs_l48 ++ (xMs_l64 ++ (xMs_l80 ++ (xMs_l96 ++ (xMs_l112 ++ (xMs_l128 ++ (xMs_l144)))))))))
theorem xMs_all : ∀ q ∈ xMs_l, xMok q := List.forall_mem_append.mpr ⟨xMs_b0, List.forall_mem_append.mpr ⟨xMs_b16, List.forall_mem_append.mpr ⟨xMs_b32, List.forall_mem_append.mpr ⟨xMs_b48, List.forall_mem_append.mpr ⟨xMs_b64, List.forall_mem_append.mpr ⟨xMs_b80, List.forall_mem_append.mpr ⟨xMs_b96, List.forall_mem_append.mpr ⟨xMs_b112, List.forall_mem_append.mpr ⟨xMs_b128, xMs_b144⟩⟩⟩⟩⟩⟩⟩⟩⟩
theorem xMs_range : ∀ mi, mi < 148 → mi ≠ 147 → mi ∈ xMs_l := by decide +kernel
theorem xMall {mi : Nat} (h : mi < 148) (h2 : mi ≠ 147) : xMok mi := xMs_all mi (xMs_range mi h h2)
def xLok (q : Nat × Nat × Nat) : Prop := q.2.2 < 148 ∧ q.2.2 ≠ 147 ∧ (xG (.methodLink (xRn q.1) q.2.1 (xy q.2.2)) ∨ Cond.methodLinkNest (xRn q.1) q.2.1 (xy q.2.2) "TemplateScopes" ∈ lw_tbl)
theorem xl_0_27 : xLok (0, 27, 2) := ⟨by decide, by decide, Or.inl (xg3 206 (by decide +kernel) rfl)⟩
theorem xl_0_37 : xLok (0, 37, 66) := ⟨by decide, by decide, Or.inl (xg4 5 (by decide +kernel) rfl)⟩
theorem xl_0_41 : xLok (0, 41, 31) := ⟨by decide, by decide, Or.inl (xg4 18 (by decide +kernel) rfl)⟩
theorem xl_0_47 : xLok (0, 47, 67) := ⟨by decide, by decide, Or.inl (xg4 47 (by decide +kernel) rfl)⟩
theorem xl_0_50 : xLok (0, 50, 34) := ⟨by decide, by decide, Or.inl (xg3 210 (by decide +kernel) rfl)⟩
theorem xl_0_54 : xLok (0, 54, 64) := ⟨by decide, by decide, Or.inl (xg3 214 (by decide +kernel) rfl)⟩
theorem xl_0_57 : xLok (0, 57, 65) := ⟨by decide, by decide, Or.inl (xg3 218 (by decide +kernel) rfl)⟩
theorem xl_0_60 : xLok (0, 60, 35) := ⟨by decide, by decide, Or.inl (xg3 222 (by decide +kernel) rfl)⟩
theorem xl_0_64 : xLok (0, 64, 3) := ⟨by decide, by decide, Or.inl (xg3 239 (by decide +kernel) rfl)⟩
theorem xl_0_67 : xLok (0, 67, 4) := ⟨by decide, by decide, Or.inl (xg4 31 (by decide +kernel) rfl)⟩
theorem xl_0_70 : xLok (0, 70, 6) := ⟨by decide, by decide, Or.inl (xg4 51 (by decide +kernel) rfl)⟩
theorem xl_0_73 : xLok (0, 73, 7) := ⟨by decide, by decide, Or.inl (xg4 59 (by decide +kernel) rfl)⟩
theorem xl_0_76 : xLok (0, 76, 68) := ⟨by decide, by decide, Or.inl (xg4 74 (by decide +kernel) rfl)⟩
theorem xl_0_79 : xLok (0, 79, 36) := ⟨by decide, by decide, Or.inl (xg4 78 (by decide +kernel) rfl)⟩
theorem xl_0_86 : xLok (0, 86, 45) := ⟨by decide, by decide, Or.inl (xg4 3 (by decide +kernel) rfl)⟩
theorem xl_0_99 : xLok (0, 99, 52) := ⟨by decide, by decide, Or.inl (xg4 4 (by decide +kernel) rfl)⟩
theorem xl_0_103 : xLok (0, 103, 30) := ⟨by decide, by decide, Or.inl (xg4 9 (by decide +kernel) rfl)⟩
theorem xl_0_107 : xLok (0, 107, 62) := ⟨by decide, by decide, Or.inl (xg4 13 (by decide +kernel) rfl)⟩
theorem xl_0_111 : xLok (0, 111, 61) := ⟨by decide, by decide, Or.inl (xg4 14 (by decide +kernel) rfl)⟩
theorem xl_0_114 : xLok (0, 114, 42) := ⟨by decide, by decide, Or.inl (xg4 23 (by decide +kernel) rfl)⟩
theorem xl_0_117 : xLok (0, 117, 63) := ⟨by decide, by decide, Or.inl (xg4 24 (by decide +kernel) rfl)⟩
theorem xl_0_82 : xLok (0, 82, 1) := ⟨by decide, by decide, Or.inl (xg4 25 (by decide +kernel) rfl)⟩
theorem xl_0_120 : xLok (0, 120, 46) := ⟨by decide, by decide, Or.inl (xg4 26 (by decide +kernel) rfl)⟩
theorem xl_0_123 : xLok (0, 123, 75) := ⟨by decide, by decide, Or.inl (xg4 35 (by decide +kernel) rfl)⟩
theorem xl_0_128 : xLok (0, 128, 47) := ⟨by decide, by decide, Or.inl (xg4 36 (by decide +kernel) rfl)⟩
theorem xl_0_132 : xLok (0, 132, 5) := ⟨by decide, by decide, Or.inl (xg4 43 (by decide +kernel) rfl)⟩
theorem xl_0_135 : xLok (0, 135, 37) := ⟨by decide, by decide, Or.inl (xg4 55 (by decide +kernel) rfl)⟩
theorem xl_0_139 : xLok (0, 139, 38) := ⟨by decide, by decide, Or.inl (xg4 63 (by decide +kernel) rfl)⟩
theorem xl_0_142 : xLok (0, 142, 39) := ⟨by decide, by decide, Or.inl (xg4 68 (by decide +kernel) rfl)⟩
theorem xl_1_24 : xLok (1, 24, 51) := ⟨by decide, by decide, Or.inl (xg1 216 (by decide +kernel) rfl)⟩
theorem xl_1_33 : xLok (1, 33, 73) := ⟨by decide, by decide, Or.inl (xg1 218 (by decide +kernel) rfl)⟩
theorem xl_1_56 : xLok (1, 56, 78) := ⟨by decide, by decide, Or.inl (xg5 0 (by decide +kernel) rfl)⟩
theorem xl_1_71 : xLok (1, 71, 75) := ⟨by decide, by decide, Or.inl (xg5 2 (by decide +kernel) rfl)⟩
theorem xl_1_75 : xLok (1, 75, 10) := ⟨by decide, by decide, Or.inl (xg5 3 (by decide +kernel) rfl)⟩
theorem xl_1_79 : xLok (1, 79, 11) := ⟨by decide, by decide, Or.inl (xg5 8 (by decide +kernel) rfl)⟩
theorem xl_1_82 : xLok (1, 82, 12) := ⟨by decide, by decide, Or.inl (xg5 13 (by decide +kernel) rfl)⟩
theorem xl_1_85 : xLok (1, 85, 14) := ⟨by decide, by decide, Or.inl (xg5 23 (by decide +kernel) rfl)⟩
theorem xl_1_137 : xLok (1, 137, 46) := ⟨by decide, by decide, Or.inl (xg5 7 (by decide +kernel) rfl)⟩
theorem xl_1_89 : xLok (1, 89, 76) := ⟨by decide, by decide, Or.inl (xg5 12 (by decide +kernel) rfl)⟩
theorem xl_1_153 : xLok (1, 153, 13) := ⟨by decide, by decide, Or.inl (xg5 17 (by decide +kernel) rfl)⟩
theorem xl_1_156 : xLok (1, 156, 39) := ⟨by decide, by decide, Or.inl (xg5 22 (by decide +kernel) rfl)⟩
theorem xl_1_143 : xLok (1, 143, 47) := ⟨by decide, by decide, Or.inl (xg5 21 (by decide +kernel) rfl)⟩
theorem xl_1_93 : xLok (1, 93, 34) := ⟨by decide, by decide, Or.inl (xg5 27 (by decide +kernel) rfl)⟩
theorem xl_1_96 : xLok (1, 96, 36) := ⟨by decide, by decide, Or.inl (xg5 28 (by decide +kernel) rfl)⟩
theorem xl_1_99 : xLok (1, 99, 85) := ⟨by decide, by decide, Or.inr (xh5 29 (by decide +kernel))⟩
theorem xl_1_102 : xLok (1, 102, 35) := ⟨by decide, by decide, Or.inl (xg5 30 (by decide +kernel) rfl)⟩
theorem xl_1_105 : xLok (1, 105, 15) := ⟨by decide, by decide, Or.inl (xg5 31 (by decide +kernel) rfl)⟩
theorem xl_1_108 : xLok (1, 108, 17) := ⟨by decide, by decide, Or.inl (xg5 43 (by decide +kernel) rfl)⟩
theorem xl_1_111 : xLok (1, 111, 19) := ⟨by decide, by decide, Or.inl (xg5 51 (by decide +kernel) rfl)⟩
theorem xl_1_114 : xLok (1, 114, 20) := ⟨by decide, by decide, Or.inl (xg5 56 (by decide +kernel) rfl)⟩
theorem xl_1_117 : xLok (1, 117, 45) := ⟨by decide, by decide, Or.inl (xg5 35 (by decide +kernel) rfl)⟩
theorem xl_1_123 : xLok (1, 123, 52) := ⟨by decide, by decide, Or.inl (xg5 36 (by decide +kernel) rfl)⟩
theorem xl_1_127 : xLok (1, 127, 62) := ⟨by decide, by decide, Or.inl (xg5 37 (by decide +kernel) rfl)⟩
theorem xl_1_130 : xLok (1, 130, 16) := ⟨by decide, by decide, Or.inl (xg5 38 (by decide +kernel) rfl)⟩
theorem xl_1_134 : xLok (1, 134, 42) := ⟨by decide, by decide, Or.inl (xg5 42 (by decide +kernel) rfl)⟩
theorem xl_1_140 : xLok (1, 140, 18) := ⟨by decide, by decide, Or.inl (xg5 47 (by decide +kernel) rfl)⟩
theorem xl_1_147 : xLok (1, 147, 37) := ⟨by decide, by decide, Or.inl (xg5 55 (by decide +kernel) rfl)⟩
theorem xl_1_151 : xLok (1, 151, 38) := ⟨by decide, by decide, Or.inl (xg5 60 (by decide +kernel) rfl)⟩
theorem xl_2_17 : xLok (2, 17, 48) := ⟨by decide, by decide, Or.inl (xg2 55 (by decide +kernel) rfl)⟩
theorem xl_2_22 : xLok (2, 22, 24) := ⟨by decide, by decide, Or.inl (xg3 60 (by decide +kernel) rfl)⟩
theorem xl_2_25 : xLok (2, 25, 49) := ⟨by decide, by decide, Or.inl (xg2 102 (by decide +kernel) rfl)⟩
theorem xl_3_11 : xLok (3, 11, 73) := ⟨by decide, by decide, Or.inl (xg1 115 (by decide +kernel) rfl)⟩
theorem xl_3_20 : xLok (3, 20, 74) := ⟨by decide, by decide, Or.inl (xg1 116 (by decide +kernel) rfl)⟩
theorem xl_3_47 : xLok (3, 47, 77) := ⟨by decide, by decide, Or.inl (xg2 129 (by decide +kernel) rfl)⟩
theorem xl_3_51 : xLok (3, 51, 28) := ⟨by decide, by decide, Or.inl (xg2 130 (by decide +kernel) rfl)⟩
theorem xl_3_55 : xLok (3, 55, 30) := ⟨by decide, by decide, Or.inl (xg4 22 (by decide +kernel) rfl)⟩
theorem xl_4_11 : xLok (4, 11, 26) := ⟨by decide, by decide, Or.inl (xg1 110 (by decide +kernel) rfl)⟩
theorem xl_4_20 : xLok (4, 20, 40) := ⟨by decide, by decide, Or.inl (xg1 158 (by decide +kernel) rfl)⟩
theorem xl_4_27 : xLok (4, 27, 73) := ⟨by decide, by decide, Or.inl (xg1 175 (by decide +kernel) rfl)⟩
theorem xl_4_34 : xLok (4, 34, 29) := ⟨by decide, by decide, Or.inl (xg3 176 (by decide +kernel) rfl)⟩
theorem xl_4_37 : xLok (4, 37, 41) := ⟨by decide, by decide, Or.inl (xg3 180 (by decide +kernel) rfl)⟩
theorem xl_4_63 : xLok (4, 63, 45) := ⟨by decide, by decide, Or.inl (xg3 226 (by decide +kernel) rfl)⟩
theorem xl_4_70 : xLok (4, 70, 75) := ⟨by decide, by decide, Or.inl (xg3 231 (by decide +kernel) rfl)⟩
theorem xl_4_73 : xLok (4, 73, 76) := ⟨by decide, by decide, Or.inl (xg3 232 (by decide +kernel) rfl)⟩
theorem xl_4_77 : xLok (4, 77, 113) := ⟨by decide, by decide, Or.inr (xh3 233 (by decide +kernel))⟩
theorem xl_4_81 : xLok (4, 81, 36) := ⟨by decide, by decide, Or.inl (xg3 234 (by decide +kernel) rfl)⟩
theorem xl_4_47 : xLok (4, 47, 79) := ⟨by decide, by decide, Or.inl (xg3 238 (by decide +kernel) rfl)⟩
theorem xl_4_84 : xLok (4, 84, 74) := ⟨by decide, by decide, Or.inl (xg4 67 (by decide +kernel) rfl)⟩
theorem xl_4_93 : xLok (4, 93, 44) := ⟨by decide, by decide, Or.inl (xg4 73 (by decide +kernel) rfl)⟩
theorem xl_5_11 : xLok (5, 11, 73) := ⟨by decide, by decide, Or.inl (xg1 163 (by decide +kernel) rfl)⟩
theorem xl_5_24 : xLok (5, 24, 42) := ⟨by decide, by decide, Or.inl (xg3 184 (by decide +kernel) rfl)⟩
theorem xl_5_28 : xLok (5, 28, 44) := ⟨by decide, by decide, Or.inl (xg3 193 (by decide +kernel) rfl)⟩
theorem xl_5_32 : xLok (5, 32, 43) := ⟨by decide, by decide, Or.inl (xg3 188 (by decide +kernel) rfl)⟩
theorem xl_5_36 : xLok (5, 36, 80) := ⟨by decide, by decide, Or.inl (xg3 192 (by decide +kernel) rfl)⟩
theorem xl_5_49 : xLok (5, 49, 78) := ⟨by decide, by decide, Or.inl (xg3 197 (by decide +kernel) rfl)⟩
theorem xl_5_46 : xLok (5, 46, 75) := ⟨by decide, by decide, Or.inl (xg3 230 (by decide +kernel) rfl)⟩
theorem xl_5_52 : xLok (5, 52, 74) := ⟨by decide, by decide, Or.inl (xg4 40 (by decide +kernel) rfl)⟩
theorem xl_5_55 : xLok (5, 55, 79) := ⟨by decide, by decide, Or.inl (xg4 41 (by decide +kernel) rfl)⟩
theorem xl_5_59 : xLok (5, 59, 76) := ⟨by decide, by decide, Or.inl (xg4 42 (by decide +kernel) rfl)⟩
theorem xl_6_11 : xLok (6, 11, 73) := ⟨by decide, by decide, Or.inl (xg2 23 (by decide +kernel) rfl)⟩
theorem xl_6_22 : xLok (6, 22, 26) := ⟨by decide, by decide, Or.inl (xg2 25 (by decide +kernel) rfl)⟩
theorem xl_6_27 : xLok (6, 27, 77) := ⟨by decide, by decide, Or.inl (xg2 106 (by decide +kernel) rfl)⟩
theorem xl_6_31 : xLok (6, 31, 27) := ⟨by decide, by decide, Or.inl (xg2 125 (by decide +kernel) rfl)⟩
theorem xl_6_51 : xLok (6, 51, 75) := ⟨by decide, by decide, Or.inl (xg4 83 (by decide +kernel) rfl)⟩
theorem xl_7_50 : xLok (7, 50, 75) := ⟨by decide, by decide, Or.inl (xg3 126 (by decide +kernel) rfl)⟩
theorem xl_7_62 : xLok (7, 62, 76) := ⟨by decide, by decide, Or.inl (xg3 127 (by decide +kernel) rfl)⟩
theorem xl_7_66 : xLok (7, 66, 53) := ⟨by decide, by decide, Or.inl (xg3 128 (by decide +kernel) rfl)⟩
theorem xl_7_76 : xLok (7, 76, 54) := ⟨by decide, by decide, Or.inl (xg3 132 (by decide +kernel) rfl)⟩
theorem xl_7_80 : xLok (7, 80, 55) := ⟨by decide, by decide, Or.inl (xg3 136 (by decide +kernel) rfl)⟩
theorem xl_7_83 : xLok (7, 83, 85) := ⟨by decide, by decide, Or.inr (xh3 139 (by decide +kernel))⟩
theorem xl_7_86 : xLok (7, 86, 56) := ⟨by decide, by decide, Or.inl (xg3 142 (by decide +kernel) rfl)⟩
theorem xl_7_90 : xLok (7, 90, 57) := ⟨by decide, by decide, Or.inl (xg3 146 (by decide +kernel) rfl)⟩
theorem xl_7_93 : xLok (7, 93, 58) := ⟨by decide, by decide, Or.inl (xg3 150 (by decide +kernel) rfl)⟩
theorem xl_7_97 : xLok (7, 97, 59) := ⟨by decide, by decide, Or.inl (xg3 154 (by decide +kernel) rfl)⟩
theorem xl_7_100 : xLok (7, 100, 60) := ⟨by decide, by decide, Or.inl (xg3 158 (by decide +kernel) rfl)⟩
theorem xl_7_70 : xLok (7, 70, 64) := ⟨by decide, by decide, Or.inl (xg4 206 (by decide +kernel) rfl)⟩
theorem xl_7_73 : xLok (7, 73, 65) := ⟨by decide, by decide, Or.inl (xg4 207 (by decide +kernel) rfl)⟩
theorem xl_8_39 : xLok (8, 39, 78) := ⟨by decide, by decide, Or.inl (xg2 110 (by decide +kernel) rfl)⟩
theorem xl_8_29 : xLok (8, 29, 75) := ⟨by decide, by decide, Or.inl (xg2 114 (by decide +kernel) rfl)⟩
theorem xl_8_36 : xLok (8, 36, 76) := ⟨by decide, by decide, Or.inl (xg2 121 (by decide +kernel) rfl)⟩
theorem xl_9_11 : xLok (9, 11, 73) := ⟨by decide, by decide, Or.inl (xg1 28 (by decide +kernel) rfl)⟩
theorem xl_9_18 : xLok (9, 18, 74) := ⟨by decide, by decide, Or.inl (xg1 47 (by decide +kernel) rfl)⟩
theorem xl_9_27 : xLok (9, 27, 51) := ⟨by decide, by decide, Or.inl (xg1 53 (by decide +kernel) rfl)⟩
theorem xl_9_36 : xLok (9, 36, 32) := ⟨by decide, by decide, Or.inl (xg1 104 (by decide +kernel) rfl)⟩
theorem xl_9_43 : xLok (9, 43, 0) := ⟨by decide, by decide, Or.inl (xg1 195 (by decide +kernel) rfl)⟩
theorem xl_9_52 : xLok (9, 52, 8) := ⟨by decide, by decide, Or.inl (xg1 211 (by decide +kernel) rfl)⟩
theorem xl_9_59 : xLok (9, 59, 48) := ⟨by decide, by decide, Or.inl (xg2 18 (by decide +kernel) rfl)⟩
theorem xl_9_69 : xLok (9, 69, 21) := ⟨by decide, by decide, Or.inl (xg2 49 (by decide +kernel) rfl)⟩
theorem xl_9_92 : xLok (9, 92, 75) := ⟨by decide, by decide, Or.inl (xg2 224 (by decide +kernel) rfl)⟩
theorem xl_9_96 : xLok (9, 96, 52) := ⟨by decide, by decide, Or.inl (xg3 122 (by decide +kernel) rfl)⟩
theorem xl_9_100 : xLok (9, 100, 61) := ⟨by decide, by decide, Or.inl (xg4 174 (by decide +kernel) rfl)⟩
theorem xl_9_104 : xLok (9, 104, 62) := ⟨by decide, by decide, Or.inl (xg3 163 (by decide +kernel) rfl)⟩
theorem xl_9_247 : xLok (9, 247, 22) := ⟨by decide, by decide, Or.inl (xg2 202 (by decide +kernel) rfl)⟩
theorem xl_9_188 : xLok (9, 188, 87) := ⟨by decide, by decide, Or.inl (xg4 84 (by decide +kernel) rfl)⟩
theorem xl_9_255 : xLok (9, 255, 93) := ⟨by decide, by decide, Or.inl (xg4 153 (by decide +kernel) rfl)⟩
theorem xl_9_197 : xLok (9, 197, 88) := ⟨by decide, by decide, Or.inl (xg4 158 (by decide +kernel) rfl)⟩
theorem xl_9_205 : xLok (9, 205, 89) := ⟨by decide, by decide, Or.inl (xg4 164 (by decide +kernel) rfl)⟩
theorem xl_9_210 : xLok (9, 210, 28) := ⟨by decide, by decide, Or.inl (xg4 166 (by decide +kernel) rfl)⟩
theorem xl_9_126 : xLok (9, 126, 108) := ⟨by decide, by decide, Or.inl (xg3 36 (by decide +kernel) rfl)⟩
theorem xl_9_138 : xLok (9, 138, 110) := ⟨by decide, by decide, Or.inl (xg3 69 (by decide +kernel) rfl)⟩
theorem xl_9_154 : xLok (9, 154, 112) := ⟨by decide, by decide, Or.inl (xg3 92 (by decide +kernel) rfl)⟩
theorem xl_9_177 : xLok (9, 177, 76) := ⟨by decide, by decide, Or.inl (xg3 96 (by decide +kernel) rfl)⟩
theorem xl_9_340 : xLok (9, 340, 113) := ⟨by decide, by decide, Or.inl (xg3 97 (by decide +kernel) rfl)⟩
theorem xl_9_81 : xLok (9, 81, 79) := ⟨by decide, by decide, Or.inl (xg3 15 (by decide +kernel) rfl)⟩
theorem xl_9_180 : xLok (9, 180, 115) := ⟨by decide, by decide, Or.inl (xg3 168 (by decide +kernel) rfl)⟩
theorem xl_9_234 : xLok (9, 234, 33) := ⟨by decide, by decide, Or.inl (xg3 172 (by decide +kernel) rfl)⟩
theorem xl_9_111 : xLok (9, 111, 63) := ⟨by decide, by decide, Or.inl (xg3 198 (by decide +kernel) rfl)⟩
theorem xl_9_343 : xLok (9, 343, 1) := ⟨by decide, by decide, Or.inr (xh3 202 (by decide +kernel))⟩
theorem xl_9_108 : xLok (9, 108, 117) := ⟨by decide, by decide, Or.inl (xg3 118 (by decide +kernel) rfl)⟩
theorem xl_9_114 : xLok (9, 114, 69) := ⟨by decide, by decide, Or.inl (xg4 194 (by decide +kernel) rfl)⟩
theorem xl_9_117 : xLok (9, 117, 70) := ⟨by decide, by decide, Or.inl (xg4 202 (by decide +kernel) rfl)⟩
theorem xl_9_120 : xLok (9, 120, 71) := ⟨by decide, by decide, Or.inl (xg4 212 (by decide +kernel) rfl)⟩
theorem xl_9_123 : xLok (9, 123, 72) := ⟨by decide, by decide, Or.inl (xg4 220 (by decide +kernel) rfl)⟩
theorem xl_9_237 : xLok (9, 237, 9) := ⟨by decide, by decide, Or.inl (xg4 236 (by decide +kernel) rfl)⟩
theorem xl_9_78 : xLok (9, 78, 127) := ⟨by decide, by decide, Or.inl (xg2 236 (by decide +kernel) rfl)⟩
theorem xl_9_134 : xLok (9, 134, 23) := ⟨by decide, by decide, Or.inl (xg3 56 (by decide +kernel) rfl)⟩
theorem xl_9_141 : xLok (9, 141, 80) := ⟨by decide, by decide, Or.inl (xg3 74 (by decide +kernel) rfl)⟩
theorem xl_9_150 : xLok (9, 150, 78) := ⟨by decide, by decide, Or.inl (xg3 87 (by decide +kernel) rfl)⟩
theorem xl_9_168 : xLok (9, 168, 134) := ⟨by decide, by decide, Or.inl (xg3 105 (by decide +kernel) rfl)⟩
theorem xl_9_184 : xLok (9, 184, 50) := ⟨by decide, by decide, Or.inl (xg4 79 (by decide +kernel) rfl)⟩
theorem xl_9_241 : xLok (9, 241, 25) := ⟨by decide, by decide, Or.inl (xg2 98 (by decide +kernel) rfl)⟩
theorem xl_11_8 : xLok (11, 8, 128) := ⟨by decide, by decide, Or.inl (xg3 32 (by decide +kernel) rfl)⟩
theorem xl_11_14 : xLok (11, 14, 129) := ⟨by decide, by decide, Or.inl (xg3 65 (by decide +kernel) rfl)⟩
theorem xl_11_18 : xLok (11, 18, 130) := ⟨by decide, by decide, Or.inl (xg3 78 (by decide +kernel) rfl)⟩
theorem xl_11_21 : xLok (11, 21, 131) := ⟨by decide, by decide, Or.inl (xg3 83 (by decide +kernel) rfl)⟩
theorem xl_11_24 : xLok (11, 24, 132) := ⟨by decide, by decide, Or.inl (xg3 88 (by decide +kernel) rfl)⟩
theorem xl_11_27 : xLok (11, 27, 133) := ⟨by decide, by decide, Or.inl (xg3 101 (by decide +kernel) rfl)⟩
theorem xl_11_30 : xLok (11, 30, 135) := ⟨by decide, by decide, Or.inl (xg3 110 (by decide +kernel) rfl)⟩
theorem xl_11_33 : xLok (11, 33, 138) := ⟨by decide, by decide, Or.inl (xg3 114 (by decide +kernel) rfl)⟩
theorem xl_11_43 : xLok (11, 43, 140) := ⟨by decide, by decide, Or.inl (xg4 182 (by decide +kernel) rfl)⟩
theorem xl_11_46 : xLok (11, 46, 100) := ⟨by decide, by decide, Or.inl (xg2 213 (by decide +kernel) rfl)⟩
theorem xl_11_51 : xLok (11, 51, 83) := ⟨by decide, by decide, Or.inl (xg2 225 (by decide +kernel) rfl)⟩
theorem xl_11_54 : xLok (11, 54, 126) := ⟨by decide, by decide, Or.inl (xg2 232 (by decide +kernel) rfl)⟩
theorem xl_11_57 : xLok (11, 57, 82) := ⟨by decide, by decide, Or.inl (xg2 220 (by decide +kernel) rfl)⟩
theorem xl_11_60 : xLok (11, 60, 104) := ⟨by decide, by decide, Or.inl (xg2 229 (by decide +kernel) rfl)⟩
theorem xl_11_64 : xLok (11, 64, 103) := ⟨by decide, by decide, Or.inl (xg3 23 (by decide +kernel) rfl)⟩
theorem xl_11_67 : xLok (11, 67, 101) := ⟨by decide, by decide, Or.inl (xg3 26 (by decide +kernel) rfl)⟩
theorem xl_11_71 : xLok (11, 71, 87) := ⟨by decide, by decide, Or.inl (xg4 91 (by decide +kernel) rfl)⟩
theorem xl_11_74 : xLok (11, 74, 88) := ⟨by decide, by decide, Or.inl (xg4 92 (by decide +kernel) rfl)⟩
theorem xl_11_78 : xLok (11, 78, 89) := ⟨by decide, by decide, Or.inl (xg4 96 (by decide +kernel) rfl)⟩
theorem xl_11_81 : xLok (11, 81, 90) := ⟨by decide, by decide, Or.inl (xg4 100 (by decide +kernel) rfl)⟩
theorem xl_11_84 : xLok (11, 84, 91) := ⟨by decide, by decide, Or.inl (xg4 104 (by decide +kernel) rfl)⟩
theorem xl_11_87 : xLok (11, 87, 92) := ⟨by decide, by decide, Or.inl (xg4 108 (by decide +kernel) rfl)⟩
theorem xl_11_90 : xLok (11, 90, 93) := ⟨by decide, by decide, Or.inl (xg4 112 (by decide +kernel) rfl)⟩
theorem xl_11_93 : xLok (11, 93, 94) := ⟨by decide, by decide, Or.inl (xg4 116 (by decide +kernel) rfl)⟩
theorem xl_11_96 : xLok (11, 96, 95) := ⟨by decide, by decide, Or.inl (xg4 120 (by decide +kernel) rfl)⟩
theorem xl_11_99 : xLok (11, 99, 96) := ⟨by decide, by decide, Or.inl (xg4 124 (by decide +kernel) rfl)⟩
theorem xl_11_102 : xLok (11, 102, 139) := ⟨by decide, by decide, Or.inl (xg4 128 (by decide +kernel) rfl)⟩
theorem xl_11_105 : xLok (11, 105, 107) := ⟨by decide, by decide, Or.inl (xg4 133 (by decide +kernel) rfl)⟩
theorem xl_11_109 : xLok (11, 109, 136) := ⟨by decide, by decide, Or.inl (xg4 137 (by decide +kernel) rfl)⟩
theorem xl_11_112 : xLok (11, 112, 137) := ⟨by decide, by decide, Or.inl (xg4 141 (by decide +kernel) rfl)⟩
theorem xl_11_115 : xLok (11, 115, 99) := ⟨by decide, by decide, Or.inl (xg4 149 (by decide +kernel) rfl)⟩
theorem xl_11_119 : xLok (11, 119, 105) := ⟨by decide, by decide, Or.inl (xg4 154 (by decide +kernel) rfl)⟩
theorem xl_11_122 : xLok (11, 122, 106) := ⟨by decide, by decide, Or.inl (xg4 160 (by decide +kernel) rfl)⟩
theorem xl_11_125 : xLok (11, 125, 84) := ⟨by decide, by decide, Or.inl (xg4 170 (by decide +kernel) rfl)⟩
theorem xl_11_128 : xLok (11, 128, 86) := ⟨by decide, by decide, Or.inl (xg4 175 (by decide +kernel) rfl)⟩
theorem xl_11_131 : xLok (11, 131, 102) := ⟨by decide, by decide, Or.inl (xg4 179 (by decide +kernel) rfl)⟩
theorem xl_11_135 : xLok (11, 135, 116) := ⟨by decide, by decide, Or.inl (xg4 186 (by decide +kernel) rfl)⟩
theorem xl_11_138 : xLok (11, 138, 118) := ⟨by decide, by decide, Or.inl (xg4 190 (by decide +kernel) rfl)⟩
theorem xl_11_141 : xLok (11, 141, 119) := ⟨by decide, by decide, Or.inl (xg4 198 (by decide +kernel) rfl)⟩
theorem xl_11_144 : xLok (11, 144, 120) := ⟨by decide, by decide, Or.inl (xg4 208 (by decide +kernel) rfl)⟩
theorem xl_11_147 : xLok (11, 147, 121) := ⟨by decide, by decide, Or.inl (xg4 216 (by decide +kernel) rfl)⟩
theorem xl_11_150 : xLok (11, 150, 122) := ⟨by decide, by decide, Or.inl (xg4 224 (by decide +kernel) rfl)⟩
theorem xl_11_153 : xLok (11, 153, 124) := ⟨by decide, by decide, Or.inl (xg4 228 (by decide +kernel) rfl)⟩
theorem xl_11_156 : xLok (11, 156, 123) := ⟨by decide, by decide, Or.inl (xg4 232 (by decide +kernel) rfl)⟩
theorem xl_11_159 : xLok (11, 159, 144) := ⟨by decide, by decide, Or.inl (xg4 146 (by decide +kernel) rfl)⟩
theorem xl_11_163 : xLok (11, 163, 141) := ⟨by decide, by decide, Or.inl (xg2 94 (by decide +kernel) rfl)⟩
theorem xl_11_166 : xLok (11, 166, 111) := ⟨by decide, by decide, Or.inl (xg5 64 (by decide +kernel) rfl)⟩
theorem xl_11_169 : xLok (11, 169, 114) := ⟨by decide, by decide, Or.inl (xg5 68 (by decide +kernel) rfl)⟩
theorem xl_11_172 : xLok (11, 172, 109) := ⟨by decide, by decide, Or.inl (xg5 72 (by decide +kernel) rfl)⟩
theorem xl_11_175 : xLok (11, 175, 81) := ⟨by decide, by decide, Or.inl (xg1 20 (by decide +kernel) rfl)⟩
theorem xl_11_176 : xLok (11, 176, 97) := ⟨by decide, by decide, Or.inl (xg2 210 (by decide +kernel) rfl)⟩
theorem xl_11_180 : xLok (11, 180, 125) := ⟨by decide, by decide, Or.inl (xg2 217 (by decide +kernel) rfl)⟩
theorem xl_11_184 : xLok (11, 184, 98) := ⟨by decide, by decide, Or.inl (xg2 206 (by decide +kernel) rfl)⟩
theorem xl_11_187 : xLok (11, 187, 142) := ⟨by decide, by decide, Or.inl (xg3 20 (by decide +kernel) rfl)⟩
theorem xl_11_191 : xLok (11, 191, 143) := ⟨by decide, by decide, Or.inl (xg4 88 (by decide +kernel) rfl)⟩
theorem xl_11_195 : xLok (11, 195, 145) := ⟨by decide, by decide, Or.inl (xg4 167 (by decide +kernel) rfl)⟩
theorem xl_11_199 : xLok (11, 199, 146) := ⟨by decide, by decide, Or.inl (xg5 61 (by decide +kernel) rfl)⟩
def xLs_l0 : List (Nat × Nat × Nat) := [(0, 27, 2), (0, 37, 66), (0, 41, 31), (0, 47, 67), (0, 50, 34), (0, 54, 64), (0, 57, 65), (0, 60, 35), (0, 64, 3), (0, 67, 4), (0, 70, 6), (0, 73, 7), (0, 76, 68), (0, 79, 36), (0, 86, 45), (0, 99, 52)]
theorem xLs_b0 : ∀ q ∈ xLs_l0, xLok q := List.forall_mem_cons.mpr ⟨xl_0_27, List.forall_mem_cons.mpr ⟨xl_0_37, List.forall_mem_cons.mpr ⟨xl_0_41, List.forall_mem_cons.mpr ⟨xl_0_47, List.forall_mem_cons.mpr ⟨xl_0_50, List.forall_mem_cons.mpr ⟨xl_0_54, List.forall_mem_cons.mpr ⟨xl_0_57, List.forall_mem_cons.mpr ⟨xl_0_60, List.forall_mem_cons.mpr ⟨xl_0_64, List.forall_mem_cons.mpr ⟨xl_0_67, List.forall_mem_cons.mpr ⟨xl_0_70, List.forall_mem_cons.mpr ⟨xl_0_73, List.forall_mem_cons.mpr ⟨xl_0_76, List.forall_mem_cons.mpr ⟨xl_0_79, List.forall_mem_cons.mpr ⟨xl_0_86, List.forall_mem_cons.mpr ⟨xl_0_99, fun _ h => absurd h List.not_mem_nil⟩⟩⟩⟩⟩⟩⟩⟩⟩⟩⟩⟩⟩⟩⟩⟩
def xLs_l16 : List (Nat × Nat × Nat) := [(0, 103, 30), (0, 107, 62), (0, 111, 61), (0, 114, 42), (0, 117, 63), (0, 82, 1), (0, 120, 46), (0, 123, 75), (0, 128, 47), (0, 132, 5), (0, 135, 37), (0, 139, 38), (0, 142, 39), (1, 24, 51), (1, 33, 73), (1, 56, 78)]
theorem xLs_b16 : ∀ q ∈ xLs_l16, xLok q := List.forall_mem_cons.mpr ⟨xl_0_103, List.forall_mem_cons.mpr ⟨xl_0_107, List.forall_mem_cons.mpr ⟨xl_0_111, List.forall_mem_cons.mpr ⟨xl_0_114, List.forall_mem_cons.mpr ⟨xl_0_117, List.forall_mem_cons.mpr ⟨xl_0_82, List.forall_mem_cons.mpr ⟨xl_0_120, List.forall_mem_cons.mpr ⟨xl_0_123, List.forall_mem_cons.mpr ⟨xl_0_128, List.forall_mem_cons.mpr ⟨xl_0_132, List.forall_mem_cons.mpr ⟨xl_0_135, List.forall_mem_cons.mpr ⟨xl_0_139, List.forall_mem_cons.mpr ⟨xl_0_142, List.forall_mem_cons.mpr ⟨xl_1_24, List.forall_mem_cons.mpr ⟨xl_1_33, List.forall_mem_cons.mpr ⟨xl_1_56, fun _ h => absurd h List.not_mem_nil⟩⟩⟩⟩⟩⟩⟩⟩⟩⟩⟩⟩⟩⟩⟩⟩
def xLs_l32 : List (Nat × Nat × Nat) := [(1, 71, 75), (1, 75, 10), (1, 79, 11), (1, 82, 12), (1, 85, 14), (1, 137, 46), (1, 89, 76), (1, 153, 13), (1, 156, 39), (1, 143, 47), (1, 93, 34), (1, 96, 36), (1, 99, 85), (1, 102, 35), (1, 105, 15), (1, 108, 17)]
theorem xLs_b32 : ∀ q ∈ xLs_l32, xLok q := List.forall_mem_cons.mpr ⟨xl_1_71, List.forall_mem_cons.mpr ⟨xl_1_75, List.forall_mem_cons.mpr ⟨xl_1_79, List.forall_mem_cons.mpr ⟨xl_1_82, List.forall_mem_cons.mpr ⟨xl_1_85, List.forall_mem_cons.mpr ⟨xl_1_137, List.forall_mem_cons.mpr ⟨xl_1_89, List.forall_mem_cons.mpr ⟨xl_1_153, List.forall_mem_cons.mpr ⟨xl_1_156, List.forall_mem_cons.mpr ⟨xl_1_143, List.forall_mem_cons.mpr ⟨xl_1_93, List.forall_mem_cons.mpr ⟨xl_1_96, List.forall_mem_cons.mpr ⟨xl_1_99, List.forall_mem_cons.mpr ⟨xl_1_102, List.forall_mem_cons.mpr ⟨xl_1_105, List.forall_mem_cons.mpr ⟨xl_1_108, fun _ h => absurd h List.not_mem_nil⟩⟩⟩⟩⟩⟩⟩⟩⟩⟩⟩⟩⟩⟩⟩⟩
def xLs_l48 : List (Nat × Nat × Nat) := [(1, 111, 19), (1, 114, 20), (1, 117, 45), (1, 123, 52), (1, 127, 62), (1, 130, 16), (1, 134, 42), (1, 140, 18), (1, 147, 37), (1, 151, 38), (2, 17, 48), (2, 22, 24), (2, 25, 49), (3, 11, 73), (3, 20, 74), (3, 47, 77)]
theorem xLs_b48 : ∀ q ∈ xLs_l48, xLok q := List.forall_mem_cons.mpr ⟨xl_1_111, List.forall_mem_cons.mpr ⟨xl_1_114, List.forall_mem_cons.mpr ⟨xl_1_117, List.forall_mem_cons.mpr ⟨xl_1_123, List.forall_mem_cons.mpr ⟨xl_1_127, List.forall_mem_cons.mpr ⟨xl_1_130, List.forall_mem_cons.mpr ⟨xl_1_134, List.forall_mem_cons.mpr ⟨xl_1_140, List.forall_mem_cons.mpr ⟨xl_1_147, List.forall_mem_cons.mpr ⟨xl_1_151, List.forall_mem_cons.mpr ⟨xl_2_17, List.forall_mem_cons.mpr ⟨xl_2_22, List.forall_mem_cons.mpr ⟨xl_2_25, List.forall_mem_cons.mpr ⟨xl_3_11, List.forall_mem_cons.mpr ⟨xl_3_20, List.forall_mem_cons.mpr ⟨xl_3_47, fun _ h => absurd h List.not_mem_nil⟩⟩⟩⟩⟩⟩⟩⟩⟩⟩⟩⟩⟩⟩⟩⟩
def xLs_l64 : List (Nat × Nat × Nat) := [(3, 51, 28), (3, 55, 30), (4, 11, 26), (4, 20, 40), (4, 27, 73), (4, 34, 29), (4, 37, 41), (4, 63, 45), (4, 70, 75), (4, 73, 76), (4, 77, 113), (4, 81, 36), (4, 47, 79), (4, 84, 74), (4, 93, 44), (5, 11, 73)]
theorem xLs_b64 : ∀ q ∈ xLs_l64, xLok q := List.forall_mem_cons.mpr ⟨xl_3_51, List.forall_mem_cons.mpr ⟨xl_3_55, List.forall_mem_cons.mpr ⟨xl_4_11, List.forall_mem_cons.mpr ⟨xl_4_20, List.forall_mem_cons.mpr ⟨xl_4_27, List.forall_mem_cons.mpr ⟨xl_4_34, List.forall_mem_cons.mpr ⟨xl_4_37, List.forall_mem_cons.mpr ⟨xl_4_63, List.forall_mem_cons.mpr ⟨xl_4_70, List.forall_mem_cons.mpr ⟨xl_4_73, List.forall_mem_cons.mpr ⟨xl_4_77, List.forall_mem_cons.mpr ⟨xl_4_81, List.forall_mem_cons.mpr ⟨xl_4_47, List.forall_mem_cons.mpr ⟨xl_4_84, List.forall_mem_cons.mpr ⟨xl_4_93, List.forall_mem_cons.mpr ⟨xl_5_11, fun _ h => absurd h List.not_mem_nil⟩⟩⟩⟩⟩⟩⟩⟩⟩⟩⟩⟩⟩⟩⟩⟩
def xLs_l80 : List (Nat × Nat × Nat) := [(5, 24, 42), (5, 28, 44), (5, 32, 43), (5, 36, 80), (5, 49, 78), (5, 46, 75), (5, 52, 74), (5, 55, 79), (5, 59, 76), (6, 11, 73), (6, 22, 26), (6, 27, 77), (6, 31, 27), (6, 51, 75), (7, 50, 75), (7, 62, 76)]
theorem xLs_b80 : ∀ q ∈ xLs_l80, xLok q := List.forall_mem_cons.mpr ⟨xl_5_24, List.forall_mem_cons.mpr ⟨xl_5_28, List.forall_mem_cons.mpr ⟨xl_5_32, List.forall_mem_cons.mpr ⟨xl_5_36, List.forall_mem_cons.mpr ⟨xl_5_49, List.forall_mem_cons.mpr ⟨xl_5_46, List.forall_mem_cons.mpr ⟨xl_5_52, List.forall_mem_cons.mpr ⟨xl_5_55, List.forall_mem_cons.mpr ⟨xl_5_59, List.forall_mem_cons.mpr ⟨xl_6_11, List.forall_mem_cons.mpr ⟨xl_6_22, List.forall_mem_cons.mpr ⟨xl_6_27, List.forall_mem_cons.mpr ⟨xl_6_31, List.forall_mem_cons.mpr ⟨xl_6_51, List.forall_mem_cons.mpr ⟨xl_7_50, List.forall_mem_cons.mpr ⟨xl_7_62, fun _ h => absurd h List.not_mem_nil⟩⟩⟩⟩⟩⟩⟩⟩⟩⟩⟩⟩⟩⟩⟩⟩
def xLs_l96 : List (Nat × Nat × Nat) := [(7, 66, 53), (7, 76, 54), (7, 80, 55), (7, 83, 85), (7, 86, 56), (7, 90, 57), (7, 93, 58), (7, 97, 59), (7, 100, 60), (7, 70, 64), (7, 73, 65), (8, 39, 78), (8, 29, 75), (8, 36, 76), (9, 11, 73), (9, 18, 74)]
theorem xLs_b96 : ∀ q ∈ xLs_l96, xLok q := List.forall_mem_cons.mpr ⟨xl_7_66, List.forall_mem_cons.mpr ⟨xl_7_76, List.forall_mem_cons.mpr ⟨xl_7_80, List.forall_mem_cons.mpr ⟨xl_7_83, List.forall_mem_cons.mpr ⟨xl_7_86, List.forall_mem_cons.mpr ⟨xl_7_90, List.forall_mem_cons.mpr ⟨xl_7_93, List.forall_mem_cons.mpr ⟨xl_7_97, List.forall_mem_cons.mpr ⟨xl_7_100, List.forall_mem_cons.mpr ⟨xl_7_70, List.forall_mem_cons.mpr ⟨xl_7_73, List.forall_mem_cons.mpr ⟨xl_8_39, List.forall_mem_cons.mpr ⟨xl_8_29, List.forall_mem_cons.mpr ⟨xl_8_36, List.forall_mem_cons.mpr ⟨xl_9_11, List.forall_mem_cons.mpr ⟨xl_9_18, fun _ h => absurd h List.not_mem_nil⟩⟩⟩⟩⟩⟩⟩⟩⟩⟩⟩⟩⟩⟩⟩⟩
def xLs_l112 : List (Nat × Nat × Nat) := [(9, 27, 51), (9, 36, 32), (9, 43, 0), (9, 52, 8), (9, 59, 48), (9, 69, 21), (9, 92, 75), (9, 96, 52), (9, 100, 61), (9, 104, 62), (9, 247, 22), (9, 188, 87), (9, 255, 93), (9, 197, 88), (9, 205, 89), (9, 210, 28)]
theorem xLs_b112 : ∀ q ∈ xLs_l112, xLok q := List.forall_mem_cons.mpr ⟨xl_9_27, List.forall_mem_cons.mpr ⟨xl_9_36, List.forall_mem_cons.mpr ⟨xl_9_43, List.forall_mem_cons.mpr ⟨xl_9_52, List.forall_mem_cons.mpr ⟨xl_9_59, List.forall_mem_cons.mpr ⟨xl_9_69, List.forall_mem_cons.mpr ⟨xl_9_92, List.forall_mem_cons.mpr ⟨xl_9_96, List.forall_mem_cons.mpr ⟨xl_9_100, List.forall_mem_cons.mpr ⟨xl_9_104, List.forall_mem_cons.mpr ⟨xl_9_247, List.forall_mem_cons.mpr ⟨xl_9_188, List.forall_mem_cons.mpr ⟨xl_9_255, List.forall_mem_cons.mpr ⟨xl_9_197, List.forall_mem_cons.mpr ⟨xl_9_205, List.forall_mem_cons.mpr ⟨xl_9_210, fun _ h => absurd h List.not_mem_nil⟩⟩⟩⟩⟩⟩⟩⟩⟩⟩⟩⟩⟩⟩⟩⟩
def xLs_l128 : List (Nat × Nat × Nat) := [(9, 126, 108), (9, 138, 110), (9, 154, 112), (9, 177, 76), (9, 340, 113), (9, 81, 79), (9, 180, 115), (9, 234, 33), (9, 111, 63), (9, 343, 1), (9, 108, 117), (9, 114, 69), (9, 117, 70), (9, 120, 71), (9, 123, 72), (9, 237, 9)]
theorem xLs_b128 : ∀ q ∈ xLs_l128, xLok q := List.forall_mem_cons.mpr ⟨xl_9_126, List.forall_mem_cons.mpr ⟨xl_9_138, List.forall_mem_cons.mpr ⟨xl_9_154, List.forall_mem_cons.mpr ⟨xl_9_177, List.forall_mem_cons.mpr ⟨xl_9_340, List.forall_mem_cons.mpr ⟨xl_9_81, List.forall_mem_cons.mpr ⟨xl_9_180, List.forall_mem_cons.mpr ⟨xl_9_234, List.forall_mem_cons.mpr ⟨xl_9_111, List.forall_mem_cons.mpr ⟨xl_9_343, List.forall_mem_cons.mpr ⟨xl_9_108, List.forall_mem_cons.mpr ⟨xl_9_114, List.forall_mem_cons.mpr ⟨xl_9_117, List.forall_mem_cons.mpr ⟨xl_9_120, List.forall_mem_cons.mpr ⟨xl_9_123, List.forall_mem_cons.mpr ⟨xl_9_237, fun _ h => absurd h List.not_mem_nil⟩⟩⟩⟩⟩⟩⟩⟩⟩⟩⟩⟩⟩⟩⟩⟩
def xLs_l144 : List (Nat × Nat × Nat) := [(9, 78, 127), (9, 134, 23), (9, 141, 80), (9, 150, 78), (9, 168, 134), (9, 184, 50), (9, 241, 25), (11, 8, 128), (11, 14, 129), (11, 18, 130), (11, 21, 131), (11, 24, 132), (11, 27, 133), (11, 30, 135), (11, 33, 138), (11, 43, 140)]
theorem xLs_b144 : ∀ q ∈ xLs_l144, xLok q := List.forall_mem_cons.mpr ⟨xl_9_78, List.forall_mem_cons.mpr ⟨xl_9_134, List.forall_mem_cons.mpr ⟨xl_9_141, List.forall_mem_cons.mpr ⟨xl_9_150, List.forall_mem_cons.mpr ⟨xl_9_168, List.forall_mem_cons.mpr ⟨xl_9_184, List.forall_mem_cons.mpr ⟨xl_9_241, List.forall_mem_cons.mpr ⟨xl_11_8, List.forall_mem_cons.mpr ⟨xl_11_14, List.forall_mem_cons.mpr ⟨xl_11_18, List.forall_mem_cons.mpr ⟨xl_11_21, List.forall_mem_cons.mpr ⟨xl_11_24, List.forall_mem_cons.mpr ⟨xl_11_27, List.forall_mem_cons.mpr ⟨xl_11_30, List.forall_mem_cons.mpr ⟨xl_11_33, List.forall_mem_cons.mpr ⟨xl_11_43, fun _ h => absurd h List.not_mem_nil⟩⟩⟩⟩⟩⟩⟩⟩⟩⟩⟩⟩⟩⟩⟩⟩
def xLs_l160 : List (Nat × Nat × Nat) := [(11, 46, 100), (11, 51, 83), (11, 54, 126), (11, 57, 82), (11, 60, 104), (11, 64, 103), (11, 67, 101), (11, 71, 87), (11, 74, 88), (11, 78, 89), (11, 81, 90), (11, 84, 91), (11, 87, 92), (11, 90, 93), (11, 93, 94), (11, 96, 95)]
theorem xLs_b160 : ∀ q ∈ xLs_l160, xLok q := List.forall_mem_cons.mpr ⟨xl_11_46, List.forall_mem_cons.mpr ⟨xl_11_51, List.forall_mem_cons.mpr ⟨xl_11_54, List.forall_mem_cons.mpr ⟨xl_11_57, List.forall_mem_cons.mpr ⟨xl_11_60, List.forall_mem_cons.mpr ⟨xl_11_64, List.forall_mem_cons.mpr ⟨xl_11_67, List.forall_mem_cons.mpr ⟨xl_11_71, List.forall_mem_cons.mpr ⟨xl_11_74, List.forall_mem_cons.mpr ⟨xl_11_78, List.forall_mem_cons.mpr ⟨xl_11_81, List.forall_mem_cons.mpr ⟨xl_11_84, List.forall_mem_cons.mpr ⟨xl_11_87, List.forall_mem_cons.mpr ⟨xl_11_90, List.forall_mem_cons.mpr ⟨xl_11_93, List.forall_mem_cons.mpr ⟨xl_11_96, fun _ h => absurd h List.not_mem_nil⟩⟩⟩⟩⟩⟩⟩⟩⟩⟩⟩⟩⟩⟩⟩⟩
def xLs_l176 : List (Nat × Nat × Nat) := [(11, 99, 96), (11, 102, 139), (11, 105, 107), (11, 109, 136), (11, 112, 137), (11, 115, 99), (11, 119, 105), (11, 122, 106), (11, 125, 84), (11, 128, 86), (11, 131, 102), (11, 135, 116), (11, 138, 118), (11, 141, 119), (11, 144, 120), (11, 147, 121)]
theorem xLs_b176 : ∀ q ∈ xLs_l176, xLok q := List.forall_mem_cons.mpr ⟨xl_11_99, List.forall_mem_cons.mpr ⟨xl_11_102, List.forall_mem_cons.mpr ⟨xl_11_105, List.forall_mem_cons.mpr ⟨xl_11_109, List.forall_mem_cons.mpr ⟨xl_11_112, List.forall_mem_cons.mpr ⟨xl_11_115, List.forall_mem_cons.mpr ⟨xl_11_119, List.forall_mem_cons.mpr ⟨xl_11_122, List.forall_mem_cons.mpr ⟨xl_11_125, List.forall_mem_cons.mpr ⟨xl_11_128, List.forall_mem_cons.mpr ⟨xl_11_131, List.forall_mem_cons.mpr ⟨xl_11_135, List.forall_mem_cons.mpr ⟨xl_11_138, List.forall_mem_cons.mpr ⟨xl_11_141, List.forall_mem_cons.mpr ⟨xl_11_144, List.forall_mem_cons.mpr ⟨xl_11_147, fun _ h => absurd h List.not_mem_nil⟩⟩⟩⟩⟩⟩⟩⟩⟩⟩⟩⟩⟩⟩⟩⟩
def xLs_l192 : List (Nat × Nat × Nat) := [(11, 150, 122), (11, 153, 124), (11, 156, 123), (11, 159, 144), (11, 163, 141), (11, 166, 111), (11, 169, 114), (11, 172, 109), (11, 175, 81), (11, 176, 97), (11, 180, 125), (11, 184, 98), (11, 187, 142), (11, 191, 143), (11, 195, 145), (11, 199, 146)]
theorem xLs_b192 : ∀ q ∈ xLs_l192, xLok q := List.forall_mem_cons.mpr ⟨xl_11_150, List.forall_mem_cons.mpr ⟨xl_11_153, List.forall_mem_cons.mpr ⟨xl_11_156, List.forall_mem_cons.mpr ⟨xl_11_159, List.forall_mem_cons.mpr ⟨xl_11_163, List.forall_mem_cons.mpr ⟨xl_11_166, List.forall_mem_cons.mpr ⟨xl_11_169, List.forall_mem_cons.mpr ⟨xl_11_172, List.forall_mem_cons.mpr ⟨xl_11_175, List.forall_mem_cons.mpr ⟨xl_11_176, List.forall_mem_cons.mpr ⟨xl_11_180, List.forall_mem_cons.mpr ⟨xl_11_184, List.forall_mem_cons.mpr ⟨xl_11_187, List.forall_mem_cons.mpr ⟨xl_11_191, List.forall_mem_cons.mpr ⟨xl_11_195, List.forall_mem_cons.mpr ⟨xl_11_199, fun _ h => absurd h List.not_mem_nil⟩⟩⟩⟩⟩⟩⟩⟩⟩⟩⟩⟩⟩⟩⟩⟩
def xLs_l : List (Nat × Nat × Nat) := xLs_l0 ++ (xLs_l16 ++ (xLs_l32 ++ (xLs_l48 ++ (xLs_l64 ++ (xLs_l80 ++ (xLs_l96 ++ (xLs_l112 ++ (xLs_l128 ++ (xLs_l144 ++ (xLs_l160 ++ (xLs_l176 ++ (xLs_l192))))))))))))
theorem xLs_all : ∀ q ∈ xLs_l, xLok q := List.forall_mem_append.mpr ⟨xLs_b0, List.forall_mem_append.mpr ⟨xLs_b16, List.forall_mem_append.mpr ⟨xLs_b32, List.forall_mem_append.mpr ⟨xLs_b48, List.forall_mem_append.mpr ⟨xLs_b64, List.forall_mem_append.mpr ⟨xLs_b80, List.forall_mem_append.mpr ⟨xLs_b96, List.forall_mem_append.mpr ⟨xLs_b112, List.forall_mem_append.mpr ⟨xLs_b128, List.forall_mem_append.mpr ⟨xLs_b144, List.forall_mem_append.mpr ⟨xLs_b160, List.forall_mem_append.mpr ⟨xLs_b176, xLs_b192⟩⟩⟩⟩⟩⟩⟩⟩⟩⟩⟩⟩
def xLin : Bool := (List.range 14).all (fun own => match xcalT[own]? with
  | some l => l.all (fun q => xLs_l.any (fun r => Nat.beq r.1 own && Nat.beq r.2.1 q.1 && Nat.beq r.2.2 q.2))
  | none => true)
theorem xLin_ok : xLin = true := by decide +kernel
theorem xcal_ok {own i mi' : Nat} (h : xcal own i = some mi') : xLok (own, i, mi') := by
  unfold xcal at h
  cases hl : xcalT[own]? with
  | none => rw [hl] at h; cases h
  | some l =>
    rw [hl] at h
    have hlt : own < xcalT.length := (List.getElem?_eq_some_iff.mp hl).1
    have hlen : xcalT.length = 14 := by decide +kernel
    have h1 := List.all_eq_true.mp xLin_ok own (List.mem_range.mpr (by omega))
    rw [hl] at h1
    have h2 := List.all_eq_true.mp h1 _ (xfin_mem h)
    obtain ⟨r, hr, h3⟩ := List.any_eq_true.mp h2
    simp only [Bool.and_eq_true] at h3
    obtain ⟨⟨e1, e2⟩, e3⟩ := h3
    have h4 := xLs_all r hr
    obtain ⟨r1, r2, r3⟩ := r
    have e1 := Nat.eq_of_beq_eq_true e1
    have e2 := Nat.eq_of_beq_eq_true e2
    have e3 := Nat.eq_of_beq_eq_true e3
    simp only at e1 e2 e3
    subst e1; subst e2; subst e3
    exact h4
