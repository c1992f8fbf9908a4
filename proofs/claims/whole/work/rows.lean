section
-- ===== PART A: goes FIRST, ahead of the names: the tables' words, and 'selects' of the private methods out of them =====
/-- a private method of a class that the tables say can be made, by its rows of tables_1 -/
def lw_okq (q : MethodName × Nat) : Prop := (q.1.cls ≠ "java/lang/invoke/MethodHandle" ∧ q.1.cls ≠ "java/lang/invoke/VarHandle") ∧ Cond.instantiable q.1.cls q.2 ∈ tables_1 ∧ Cond.privateMethod q.1 ∈ tables_1 ∧ Cond.instanceMethod q.1 ∈ tables_1
theorem lw_p0 : lw_okq (⟨"TemplateScopes$Template", "read", "(II)Z"⟩, 14) := ⟨⟨by decide +kernel, by decide +kernel⟩, List.mem_of_getElem? (i := 53) (by decide +kernel), List.mem_of_getElem? (i := 361) (by decide +kernel), List.mem_of_getElem? (i := 362) (by decide +kernel)⟩
theorem lw_p1 : lw_okq (⟨"TemplateScopes$Template", "setCode", "(I)V"⟩, 14) := ⟨⟨by decide +kernel, by decide +kernel⟩, List.mem_of_getElem? (i := 53) (by decide +kernel), List.mem_of_getElem? (i := 365) (by decide +kernel), List.mem_of_getElem? (i := 366) (by decide +kernel)⟩
theorem lw_p2 : lw_okq (⟨"TemplateScopes$Template", "setName", "(I)Z"⟩, 14) := ⟨⟨by decide +kernel, by decide +kernel⟩, List.mem_of_getElem? (i := 53) (by decide +kernel), List.mem_of_getElem? (i := 375) (by decide +kernel), List.mem_of_getElem? (i := 376) (by decide +kernel)⟩
theorem lw_p3 : lw_okq (⟨"TemplateScopes$Template", "setKind", "(I)Z"⟩, 14) := ⟨⟨by decide +kernel, by decide +kernel⟩, List.mem_of_getElem? (i := 53) (by decide +kernel), List.mem_of_getElem? (i := 379) (by decide +kernel), List.mem_of_getElem? (i := 380) (by decide +kernel)⟩
theorem lw_p4 : lw_okq (⟨"TemplateScopes$Template", "openLast", "()Z"⟩, 14) := ⟨⟨by decide +kernel, by decide +kernel⟩, List.mem_of_getElem? (i := 53) (by decide +kernel), List.mem_of_getElem? (i := 383) (by decide +kernel), List.mem_of_getElem? (i := 384) (by decide +kernel)⟩
theorem lw_p5 : lw_okq (⟨"TemplateScopes$Template", "closeInnermost", "()Z"⟩, 14) := ⟨⟨by decide +kernel, by decide +kernel⟩, List.mem_of_getElem? (i := 53) (by decide +kernel), List.mem_of_getElem? (i := 387) (by decide +kernel), List.mem_of_getElem? (i := 388) (by decide +kernel)⟩
theorem lw_p6 : lw_okq (⟨"TemplateScopes$Template", "addPart", "(II)Z"⟩, 14) := ⟨⟨by decide +kernel, by decide +kernel⟩, List.mem_of_getElem? (i := 53) (by decide +kernel), List.mem_of_getElem? (i := 391) (by decide +kernel), List.mem_of_getElem? (i := 392) (by decide +kernel)⟩
theorem lw_p7 : lw_okq (⟨"TemplateScopes", "hashOutcome", "(J)J"⟩, 10) := ⟨⟨by decide +kernel, by decide +kernel⟩, List.mem_of_getElem? (i := 20) (by decide +kernel), List.mem_of_getElem? (i := 497) (by decide +kernel), List.mem_of_getElem? (i := 498) (by decide +kernel)⟩
theorem lw_p8 : lw_okq (⟨"java/lang/Throwable", "fillInStackTrace", "(I)Ljava/lang/Throwable;"⟩, 6) := ⟨⟨by decide +kernel, by decide +kernel⟩, List.mem_of_getElem? (i := 555) (by decide +kernel), List.mem_of_getElem? (i := 553) (by decide +kernel), List.mem_of_getElem? (i := 554) (by decide +kernel)⟩
theorem lw_p9 : lw_okq (⟨"TemplateScopes", "requireValue", "(I)I"⟩, 10) := ⟨⟨by decide +kernel, by decide +kernel⟩, List.mem_of_getElem? (i := 20) (by decide +kernel), List.mem_of_getElem? (i := 626) (by decide +kernel), List.mem_of_getElem? (i := 627) (by decide +kernel)⟩
theorem lw_p10 : lw_okq (⟨"TemplateScopes", "escapeAside", "(I)I"⟩, 10) := ⟨⟨by decide +kernel, by decide +kernel⟩, List.mem_of_getElem? (i := 20) (by decide +kernel), List.mem_of_getElem? (i := 635) (by decide +kernel), List.mem_of_getElem? (i := 636) (by decide +kernel)⟩
theorem lw_p11 : lw_okq (⟨"TemplateScopes", "runByParts", "(I)V"⟩, 10) := ⟨⟨by decide +kernel, by decide +kernel⟩, List.mem_of_getElem? (i := 20) (by decide +kernel), List.mem_of_getElem? (i := 650) (by decide +kernel), List.mem_of_getElem? (i := 651) (by decide +kernel)⟩
theorem lw_p12 : lw_okq (⟨"TemplateScopes$Scopes", "innermostRow", "(I)I"⟩, 2) := ⟨⟨by decide +kernel, by decide +kernel⟩, List.mem_of_getElem? (i := 158) (by decide +kernel), List.mem_of_getElem? (i := 670) (by decide +kernel), List.mem_of_getElem? (i := 671) (by decide +kernel)⟩
theorem lw_p13 : lw_okq (⟨"TemplateScopes$ByParts", "runList", "(LTemplateScopes$Template;III)I"⟩, 3) := ⟨⟨by decide +kernel, by decide +kernel⟩, List.mem_of_getElem? (i := 195) (by decide +kernel), List.mem_of_getElem? (i := 687) (by decide +kernel), List.mem_of_getElem? (i := 688) (by decide +kernel)⟩
theorem lw_p14 : lw_okq (⟨"TemplateScopes$ByParts", "runPart", "(LTemplateScopes$Template;II)I"⟩, 3) := ⟨⟨by decide +kernel, by decide +kernel⟩, List.mem_of_getElem? (i := 195) (by decide +kernel), List.mem_of_getElem? (i := 691) (by decide +kernel), List.mem_of_getElem? (i := 692) (by decide +kernel)⟩
theorem lw_p15 : lw_okq (⟨"TemplateScopes$ByParts", "runIncluded", "(LTemplateScopes$Template;II)I"⟩, 3) := ⟨⟨by decide +kernel, by decide +kernel⟩, List.mem_of_getElem? (i := 195) (by decide +kernel), List.mem_of_getElem? (i := 724) (by decide +kernel), List.mem_of_getElem? (i := 725) (by decide +kernel)⟩
def lw_privs_1 : List (MethodName × Nat) := [(⟨"TemplateScopes$Template", "read", "(II)Z"⟩, 14), (⟨"TemplateScopes$Template", "setCode", "(I)V"⟩, 14), (⟨"TemplateScopes$Template", "setName", "(I)Z"⟩, 14), (⟨"TemplateScopes$Template", "setKind", "(I)Z"⟩, 14), (⟨"TemplateScopes$Template", "openLast", "()Z"⟩, 14), (⟨"TemplateScopes$Template", "closeInnermost", "()Z"⟩, 14), (⟨"TemplateScopes$Template", "addPart", "(II)Z"⟩, 14), (⟨"TemplateScopes", "hashOutcome", "(J)J"⟩, 10), (⟨"java/lang/Throwable", "fillInStackTrace", "(I)Ljava/lang/Throwable;"⟩, 6), (⟨"TemplateScopes", "requireValue", "(I)I"⟩, 10), (⟨"TemplateScopes", "escapeAside", "(I)I"⟩, 10), (⟨"TemplateScopes", "runByParts", "(I)V"⟩, 10), (⟨"TemplateScopes$Scopes", "innermostRow", "(I)I"⟩, 2), (⟨"TemplateScopes$ByParts", "runList", "(LTemplateScopes$Template;III)I"⟩, 3), (⟨"TemplateScopes$ByParts", "runPart", "(LTemplateScopes$Template;II)I"⟩, 3), (⟨"TemplateScopes$ByParts", "runIncluded", "(LTemplateScopes$Template;II)I"⟩, 3)]
theorem lw_r1 : ∀ q ∈ lw_privs_1, lw_okq q := List.forall_mem_cons.mpr ⟨lw_p0, List.forall_mem_cons.mpr ⟨lw_p1, List.forall_mem_cons.mpr ⟨lw_p2, List.forall_mem_cons.mpr ⟨lw_p3, List.forall_mem_cons.mpr ⟨lw_p4, List.forall_mem_cons.mpr ⟨lw_p5, List.forall_mem_cons.mpr ⟨lw_p6, List.forall_mem_cons.mpr ⟨lw_p7, List.forall_mem_cons.mpr ⟨lw_p8, List.forall_mem_cons.mpr ⟨lw_p9, List.forall_mem_cons.mpr ⟨lw_p10, List.forall_mem_cons.mpr ⟨lw_p11, List.forall_mem_cons.mpr ⟨lw_p12, List.forall_mem_cons.mpr ⟨lw_p13, List.forall_mem_cons.mpr ⟨lw_p14, List.forall_mem_cons.mpr ⟨lw_p15, fun _ h => absurd h List.not_mem_nil⟩⟩⟩⟩⟩⟩⟩⟩⟩⟩⟩⟩⟩⟩⟩⟩
theorem lw_p16 : lw_okq (⟨"TemplateScopes$ByParts", "runLoop", "(LTemplateScopes$Template;II)I"⟩, 3) := ⟨⟨by decide +kernel, by decide +kernel⟩, List.mem_of_getElem? (i := 195) (by decide +kernel), List.mem_of_getElem? (i := 753) (by decide +kernel), List.mem_of_getElem? (i := 754) (by decide +kernel)⟩
theorem lw_p17 : lw_okq (⟨"TemplateScopes$ByParts", "runWithin", "(LTemplateScopes$Template;II)I"⟩, 3) := ⟨⟨by decide +kernel, by decide +kernel⟩, List.mem_of_getElem? (i := 195) (by decide +kernel), List.mem_of_getElem? (i := 765) (by decide +kernel), List.mem_of_getElem? (i := 766) (by decide +kernel)⟩
theorem lw_p18 : lw_okq (⟨"TemplateScopes$ByParts", "runCondition", "(LTemplateScopes$Template;II)I"⟩, 3) := ⟨⟨by decide +kernel, by decide +kernel⟩, List.mem_of_getElem? (i := 195) (by decide +kernel), List.mem_of_getElem? (i := 773) (by decide +kernel), List.mem_of_getElem? (i := 774) (by decide +kernel)⟩
theorem lw_p19 : lw_okq (⟨"TemplateScopes$ByParts", "runSetting", "(LTemplateScopes$Template;II)I"⟩, 3) := ⟨⟨by decide +kernel, by decide +kernel⟩, List.mem_of_getElem? (i := 195) (by decide +kernel), List.mem_of_getElem? (i := 781) (by decide +kernel), List.mem_of_getElem? (i := 782) (by decide +kernel)⟩
theorem lw_p20 : lw_okq (⟨"TemplateScopes", "requireComplete", "()V"⟩, 10) := ⟨⟨by decide +kernel, by decide +kernel⟩, List.mem_of_getElem? (i := 20) (by decide +kernel), List.mem_of_getElem? (i := 806) (by decide +kernel), List.mem_of_getElem? (i := 807) (by decide +kernel)⟩
theorem lw_p21 : lw_okq (⟨"TemplateScopes$ByText", "endIncluded", "()Z"⟩, 12) := ⟨⟨by decide +kernel, by decide +kernel⟩, List.mem_of_getElem? (i := 211) (by decide +kernel), List.mem_of_getElem? (i := 860) (by decide +kernel), List.mem_of_getElem? (i := 861) (by decide +kernel)⟩
theorem lw_p22 : lw_okq (⟨"TemplateScopes$ByText", "codeAhead", "(I)I"⟩, 12) := ⟨⟨by decide +kernel, by decide +kernel⟩, List.mem_of_getElem? (i := 211) (by decide +kernel), List.mem_of_getElem? (i := 865) (by decide +kernel), List.mem_of_getElem? (i := 866) (by decide +kernel)⟩
theorem lw_p23 : lw_okq (⟨"TemplateScopes$ByText", "endBlock", "()Z"⟩, 12) := ⟨⟨by decide +kernel, by decide +kernel⟩, List.mem_of_getElem? (i := 211) (by decide +kernel), List.mem_of_getElem? (i := 870) (by decide +kernel), List.mem_of_getElem? (i := 871) (by decide +kernel)⟩
theorem lw_p24 : lw_okq (⟨"TemplateScopes$ByText", "beginNextPass", "(I)Z"⟩, 12) := ⟨⟨by decide +kernel, by decide +kernel⟩, List.mem_of_getElem? (i := 211) (by decide +kernel), List.mem_of_getElem? (i := 874) (by decide +kernel), List.mem_of_getElem? (i := 875) (by decide +kernel)⟩
theorem lw_p25 : lw_okq (⟨"TemplateScopes$ByText", "beginPart", "()I"⟩, 12) := ⟨⟨by decide +kernel, by decide +kernel⟩, List.mem_of_getElem? (i := 211) (by decide +kernel), List.mem_of_getElem? (i := 880) (by decide +kernel), List.mem_of_getElem? (i := 881) (by decide +kernel)⟩
theorem lw_p26 : lw_okq (⟨"TemplateScopes$ByText", "beginIncluded", "(I)I"⟩, 12) := ⟨⟨by decide +kernel, by decide +kernel⟩, List.mem_of_getElem? (i := 211) (by decide +kernel), List.mem_of_getElem? (i := 888) (by decide +kernel), List.mem_of_getElem? (i := 889) (by decide +kernel)⟩
theorem lw_p27 : lw_okq (⟨"TemplateScopes$ByText", "push", "(III)Z"⟩, 12) := ⟨⟨by decide +kernel, by decide +kernel⟩, List.mem_of_getElem? (i := 211) (by decide +kernel), List.mem_of_getElem? (i := 895) (by decide +kernel), List.mem_of_getElem? (i := 896) (by decide +kernel)⟩
theorem lw_p28 : lw_okq (⟨"TemplateScopes$ByText", "beginLoop", "(I)I"⟩, 12) := ⟨⟨by decide +kernel, by decide +kernel⟩, List.mem_of_getElem? (i := 211) (by decide +kernel), List.mem_of_getElem? (i := 900) (by decide +kernel), List.mem_of_getElem? (i := 901) (by decide +kernel)⟩
theorem lw_p29 : lw_okq (⟨"TemplateScopes$ByText", "skipBlock", "()V"⟩, 12) := ⟨⟨by decide +kernel, by decide +kernel⟩, List.mem_of_getElem? (i := 211) (by decide +kernel), List.mem_of_getElem? (i := 904) (by decide +kernel), List.mem_of_getElem? (i := 905) (by decide +kernel)⟩
theorem lw_p30 : lw_okq (⟨"TemplateScopes$ByText", "beginCondition", "(I)I"⟩, 12) := ⟨⟨by decide +kernel, by decide +kernel⟩, List.mem_of_getElem? (i := 211) (by decide +kernel), List.mem_of_getElem? (i := 908) (by decide +kernel), List.mem_of_getElem? (i := 909) (by decide +kernel)⟩
theorem lw_p31 : lw_okq (⟨"TemplateScopes$ByText", "beginSetting", "(I)I"⟩, 12) := ⟨⟨by decide +kernel, by decide +kernel⟩, List.mem_of_getElem? (i := 211) (by decide +kernel), List.mem_of_getElem? (i := 913) (by decide +kernel), List.mem_of_getElem? (i := 914) (by decide +kernel)⟩
def lw_privs_2 : List (MethodName × Nat) := [(⟨"TemplateScopes$ByParts", "runLoop", "(LTemplateScopes$Template;II)I"⟩, 3), (⟨"TemplateScopes$ByParts", "runWithin", "(LTemplateScopes$Template;II)I"⟩, 3), (⟨"TemplateScopes$ByParts", "runCondition", "(LTemplateScopes$Template;II)I"⟩, 3), (⟨"TemplateScopes$ByParts", "runSetting", "(LTemplateScopes$Template;II)I"⟩, 3), (⟨"TemplateScopes", "requireComplete", "()V"⟩, 10), (⟨"TemplateScopes$ByText", "endIncluded", "()Z"⟩, 12), (⟨"TemplateScopes$ByText", "codeAhead", "(I)I"⟩, 12), (⟨"TemplateScopes$ByText", "endBlock", "()Z"⟩, 12), (⟨"TemplateScopes$ByText", "beginNextPass", "(I)Z"⟩, 12), (⟨"TemplateScopes$ByText", "beginPart", "()I"⟩, 12), (⟨"TemplateScopes$ByText", "beginIncluded", "(I)I"⟩, 12), (⟨"TemplateScopes$ByText", "push", "(III)Z"⟩, 12), (⟨"TemplateScopes$ByText", "beginLoop", "(I)I"⟩, 12), (⟨"TemplateScopes$ByText", "skipBlock", "()V"⟩, 12), (⟨"TemplateScopes$ByText", "beginCondition", "(I)I"⟩, 12), (⟨"TemplateScopes$ByText", "beginSetting", "(I)I"⟩, 12)]
theorem lw_r2 : ∀ q ∈ lw_privs_2, lw_okq q := List.forall_mem_cons.mpr ⟨lw_p16, List.forall_mem_cons.mpr ⟨lw_p17, List.forall_mem_cons.mpr ⟨lw_p18, List.forall_mem_cons.mpr ⟨lw_p19, List.forall_mem_cons.mpr ⟨lw_p20, List.forall_mem_cons.mpr ⟨lw_p21, List.forall_mem_cons.mpr ⟨lw_p22, List.forall_mem_cons.mpr ⟨lw_p23, List.forall_mem_cons.mpr ⟨lw_p24, List.forall_mem_cons.mpr ⟨lw_p25, List.forall_mem_cons.mpr ⟨lw_p26, List.forall_mem_cons.mpr ⟨lw_p27, List.forall_mem_cons.mpr ⟨lw_p28, List.forall_mem_cons.mpr ⟨lw_p29, List.forall_mem_cons.mpr ⟨lw_p30, List.forall_mem_cons.mpr ⟨lw_p31, fun _ h => absurd h List.not_mem_nil⟩⟩⟩⟩⟩⟩⟩⟩⟩⟩⟩⟩⟩⟩⟩⟩
theorem lw_p32 : lw_okq (⟨"TemplateScopes$History", "dropOldest", "()V"⟩, 2) := ⟨⟨by decide +kernel, by decide +kernel⟩, List.mem_of_getElem? (i := 289) (by decide +kernel), List.mem_of_getElem? (i := 992) (by decide +kernel), List.mem_of_getElem? (i := 993) (by decide +kernel)⟩
theorem lw_p33 : lw_okq (⟨"TemplateScopes", "takeText", "(ILTemplateScopes$Texts;)I"⟩, 10) := ⟨⟨by decide +kernel, by decide +kernel⟩, List.mem_of_getElem? (i := 20) (by decide +kernel), List.mem_of_getElem? (i := 1037) (by decide +kernel), List.mem_of_getElem? (i := 1038) (by decide +kernel)⟩
theorem lw_p34 : lw_okq (⟨"TemplateScopesModel", "holds", "(I)Z"⟩, 45) := ⟨⟨by decide +kernel, by decide +kernel⟩, List.mem_of_getElem? (i := 1147) (by decide +kernel), List.mem_of_getElem? (i := 1300) (by decide +kernel), List.mem_of_getElem? (i := 1301) (by decide +kernel)⟩
theorem lw_p35 : lw_okq (⟨"TemplateScopesModel", "readsBuffer", "()I"⟩, 45) := ⟨⟨by decide +kernel, by decide +kernel⟩, List.mem_of_getElem? (i := 1147) (by decide +kernel), List.mem_of_getElem? (i := 1316) (by decide +kernel), List.mem_of_getElem? (i := 1317) (by decide +kernel)⟩
theorem lw_p36 : lw_okq (⟨"TemplateScopesModel", "reads", "(II)I"⟩, 45) := ⟨⟨by decide +kernel, by decide +kernel⟩, List.mem_of_getElem? (i := 1147) (by decide +kernel), List.mem_of_getElem? (i := 1320) (by decide +kernel), List.mem_of_getElem? (i := 1321) (by decide +kernel)⟩
theorem lw_p37 : lw_okq (⟨"TemplateScopesModel", "goesOn", "(II)I"⟩, 45) := ⟨⟨by decide +kernel, by decide +kernel⟩, List.mem_of_getElem? (i := 1147) (by decide +kernel), List.mem_of_getElem? (i := 1324) (by decide +kernel), List.mem_of_getElem? (i := 1325) (by decide +kernel)⟩
theorem lw_p38 : lw_okq (⟨"TemplateScopesModel", "part", "()V"⟩, 45) := ⟨⟨by decide +kernel, by decide +kernel⟩, List.mem_of_getElem? (i := 1147) (by decide +kernel), List.mem_of_getElem? (i := 1331) (by decide +kernel), List.mem_of_getElem? (i := 1332) (by decide +kernel)⟩
theorem lw_p39 : lw_okq (⟨"TemplateScopesModel", "isBufferWhole", "()Z"⟩, 45) := ⟨⟨by decide +kernel, by decide +kernel⟩, List.mem_of_getElem? (i := 1147) (by decide +kernel), List.mem_of_getElem? (i := 1339) (by decide +kernel), List.mem_of_getElem? (i := 1340) (by decide +kernel)⟩
theorem lw_p40 : lw_okq (⟨"TemplateScopesModel", "valueAt", "(I)I"⟩, 45) := ⟨⟨by decide +kernel, by decide +kernel⟩, List.mem_of_getElem? (i := 1147) (by decide +kernel), List.mem_of_getElem? (i := 1370) (by decide +kernel), List.mem_of_getElem? (i := 1371) (by decide +kernel)⟩
theorem lw_p41 : lw_okq (⟨"TemplateScopesModel", "save", "()V"⟩, 45) := ⟨⟨by decide +kernel, by decide +kernel⟩, List.mem_of_getElem? (i := 1147) (by decide +kernel), List.mem_of_getElem? (i := 1374) (by decide +kernel), List.mem_of_getElem? (i := 1375) (by decide +kernel)⟩
theorem lw_p42 : lw_okq (⟨"TemplateScopesModel", "has", "(I)Z"⟩, 45) := ⟨⟨by decide +kernel, by decide +kernel⟩, List.mem_of_getElem? (i := 1147) (by decide +kernel), List.mem_of_getElem? (i := 1378) (by decide +kernel), List.mem_of_getElem? (i := 1379) (by decide +kernel)⟩
theorem lw_p43 : lw_okq (⟨"TemplateScopesModel", "errorOfValue", "(I)I"⟩, 45) := ⟨⟨by decide +kernel, by decide +kernel⟩, List.mem_of_getElem? (i := 1147) (by decide +kernel), List.mem_of_getElem? (i := 1386) (by decide +kernel), List.mem_of_getElem? (i := 1387) (by decide +kernel)⟩
theorem lw_p44 : lw_okq (⟨"TemplateScopesModel", "specials", "(I)I"⟩, 45) := ⟨⟨by decide +kernel, by decide +kernel⟩, List.mem_of_getElem? (i := 1147) (by decide +kernel), List.mem_of_getElem? (i := 1402) (by decide +kernel), List.mem_of_getElem? (i := 1403) (by decide +kernel)⟩
theorem lw_p45 : lw_okq (⟨"TemplateScopesModel", "isWholeValue", "(I)Z"⟩, 45) := ⟨⟨by decide +kernel, by decide +kernel⟩, List.mem_of_getElem? (i := 1147) (by decide +kernel), List.mem_of_getElem? (i := 1433) (by decide +kernel), List.mem_of_getElem? (i := 1434) (by decide +kernel)⟩
theorem lw_p46 : lw_okq (⟨"TemplateScopesModel", "readsValue", "(I)I"⟩, 45) := ⟨⟨by decide +kernel, by decide +kernel⟩, List.mem_of_getElem? (i := 1147) (by decide +kernel), List.mem_of_getElem? (i := 1437) (by decide +kernel), List.mem_of_getElem? (i := 1438) (by decide +kernel)⟩
theorem lw_p47 : lw_okq (⟨"TemplateScopesModel", "renders", "(I)V"⟩, 45) := ⟨⟨by decide +kernel, by decide +kernel⟩, List.mem_of_getElem? (i := 1147) (by decide +kernel), List.mem_of_getElem? (i := 1453) (by decide +kernel), List.mem_of_getElem? (i := 1454) (by decide +kernel)⟩
def lw_privs_3 : List (MethodName × Nat) := [(⟨"TemplateScopes$History", "dropOldest", "()V"⟩, 2), (⟨"TemplateScopes", "takeText", "(ILTemplateScopes$Texts;)I"⟩, 10), (⟨"TemplateScopesModel", "holds", "(I)Z"⟩, 45), (⟨"TemplateScopesModel", "readsBuffer", "()I"⟩, 45), (⟨"TemplateScopesModel", "reads", "(II)I"⟩, 45), (⟨"TemplateScopesModel", "goesOn", "(II)I"⟩, 45), (⟨"TemplateScopesModel", "part", "()V"⟩, 45), (⟨"TemplateScopesModel", "isBufferWhole", "()Z"⟩, 45), (⟨"TemplateScopesModel", "valueAt", "(I)I"⟩, 45), (⟨"TemplateScopesModel", "save", "()V"⟩, 45), (⟨"TemplateScopesModel", "has", "(I)Z"⟩, 45), (⟨"TemplateScopesModel", "errorOfValue", "(I)I"⟩, 45), (⟨"TemplateScopesModel", "specials", "(I)I"⟩, 45), (⟨"TemplateScopesModel", "isWholeValue", "(I)Z"⟩, 45), (⟨"TemplateScopesModel", "readsValue", "(I)I"⟩, 45), (⟨"TemplateScopesModel", "renders", "(I)V"⟩, 45)]
theorem lw_r3 : ∀ q ∈ lw_privs_3, lw_okq q := List.forall_mem_cons.mpr ⟨lw_p32, List.forall_mem_cons.mpr ⟨lw_p33, List.forall_mem_cons.mpr ⟨lw_p34, List.forall_mem_cons.mpr ⟨lw_p35, List.forall_mem_cons.mpr ⟨lw_p36, List.forall_mem_cons.mpr ⟨lw_p37, List.forall_mem_cons.mpr ⟨lw_p38, List.forall_mem_cons.mpr ⟨lw_p39, List.forall_mem_cons.mpr ⟨lw_p40, List.forall_mem_cons.mpr ⟨lw_p41, List.forall_mem_cons.mpr ⟨lw_p42, List.forall_mem_cons.mpr ⟨lw_p43, List.forall_mem_cons.mpr ⟨lw_p44, List.forall_mem_cons.mpr ⟨lw_p45, List.forall_mem_cons.mpr ⟨lw_p46, List.forall_mem_cons.mpr ⟨lw_p47, fun _ h => absurd h List.not_mem_nil⟩⟩⟩⟩⟩⟩⟩⟩⟩⟩⟩⟩⟩⟩⟩⟩
theorem lw_p48 : lw_okq (⟨"TemplateScopesModel", "opensScope", "()V"⟩, 45) := ⟨⟨by decide +kernel, by decide +kernel⟩, List.mem_of_getElem? (i := 1147) (by decide +kernel), List.mem_of_getElem? (i := 1457) (by decide +kernel), List.mem_of_getElem? (i := 1458) (by decide +kernel)⟩
theorem lw_p49 : lw_okq (⟨"TemplateScopesModel", "opens", "(IIII)V"⟩, 45) := ⟨⟨by decide +kernel, by decide +kernel⟩, List.mem_of_getElem? (i := 1147) (by decide +kernel), List.mem_of_getElem? (i := 1464) (by decide +kernel), List.mem_of_getElem? (i := 1465) (by decide +kernel)⟩
theorem lw_p50 : lw_okq (⟨"TemplateScopesModel", "isAtEnd", "()Z"⟩, 45) := ⟨⟨by decide +kernel, by decide +kernel⟩, List.mem_of_getElem? (i := 1147) (by decide +kernel), List.mem_of_getElem? (i := 1468) (by decide +kernel), List.mem_of_getElem? (i := 1469) (by decide +kernel)⟩
theorem lw_p51 : lw_okq (⟨"TemplateScopesModel", "closes", "()V"⟩, 45) := ⟨⟨by decide +kernel, by decide +kernel⟩, List.mem_of_getElem? (i := 1147) (by decide +kernel), List.mem_of_getElem? (i := 1472) (by decide +kernel), List.mem_of_getElem? (i := 1473) (by decide +kernel)⟩
theorem lw_p52 : lw_okq (⟨"TemplateScopesModel", "beginsPass", "(I)V"⟩, 45) := ⟨⟨by decide +kernel, by decide +kernel⟩, List.mem_of_getElem? (i := 1147) (by decide +kernel), List.mem_of_getElem? (i := 1476) (by decide +kernel), List.mem_of_getElem? (i := 1477) (by decide +kernel)⟩
theorem lw_p53 : lw_okq (⟨"TemplateScopesModel", "rendersPart", "()V"⟩, 45) := ⟨⟨by decide +kernel, by decide +kernel⟩, List.mem_of_getElem? (i := 1147) (by decide +kernel), List.mem_of_getElem? (i := 1480) (by decide +kernel), List.mem_of_getElem? (i := 1481) (by decide +kernel)⟩
theorem lw_p54 : lw_okq (⟨"TemplateScopesModel", "fails", "(II)V"⟩, 45) := ⟨⟨by decide +kernel, by decide +kernel⟩, List.mem_of_getElem? (i := 1147) (by decide +kernel), List.mem_of_getElem? (i := 1484) (by decide +kernel), List.mem_of_getElem? (i := 1485) (by decide +kernel)⟩
theorem lw_p55 : lw_okq (⟨"TemplateScopesModel", "rendersBracket", "(II)V"⟩, 45) := ⟨⟨by decide +kernel, by decide +kernel⟩, List.mem_of_getElem? (i := 1147) (by decide +kernel), List.mem_of_getElem? (i := 1488) (by decide +kernel), List.mem_of_getElem? (i := 1489) (by decide +kernel)⟩
theorem lw_p56 : lw_okq (⟨"TemplateScopesModel", "valueOf", "(I)I"⟩, 45) := ⟨⟨by decide +kernel, by decide +kernel⟩, List.mem_of_getElem? (i := 1147) (by decide +kernel), List.mem_of_getElem? (i := 1492) (by decide +kernel), List.mem_of_getElem? (i := 1493) (by decide +kernel)⟩
theorem lw_p57 : lw_okq (⟨"TemplateScopesModel", "printsValue", "(IZI)V"⟩, 45) := ⟨⟨by decide +kernel, by decide +kernel⟩, List.mem_of_getElem? (i := 1147) (by decide +kernel), List.mem_of_getElem? (i := 1496) (by decide +kernel), List.mem_of_getElem? (i := 1497) (by decide +kernel)⟩
theorem lw_p58 : lw_okq (⟨"TemplateScopesModel", "prints", "(III)V"⟩, 45) := ⟨⟨by decide +kernel, by decide +kernel⟩, List.mem_of_getElem? (i := 1147) (by decide +kernel), List.mem_of_getElem? (i := 1500) (by decide +kernel), List.mem_of_getElem? (i := 1501) (by decide +kernel)⟩
theorem lw_p59 : lw_okq (⟨"TemplateScopesModel", "includes", "(II)V"⟩, 45) := ⟨⟨by decide +kernel, by decide +kernel⟩, List.mem_of_getElem? (i := 1147) (by decide +kernel), List.mem_of_getElem? (i := 1504) (by decide +kernel), List.mem_of_getElem? (i := 1505) (by decide +kernel)⟩
theorem lw_p60 : lw_okq (⟨"TemplateScopesModel", "goesRound", "(IIII)V"⟩, 45) := ⟨⟨by decide +kernel, by decide +kernel⟩, List.mem_of_getElem? (i := 1147) (by decide +kernel), List.mem_of_getElem? (i := 1508) (by decide +kernel), List.mem_of_getElem? (i := 1509) (by decide +kernel)⟩
theorem lw_p61 : lw_okq (⟨"TemplateScopesModel", "behind", "(II)I"⟩, 45) := ⟨⟨by decide +kernel, by decide +kernel⟩, List.mem_of_getElem? (i := 1147) (by decide +kernel), List.mem_of_getElem? (i := 1512) (by decide +kernel), List.mem_of_getElem? (i := 1513) (by decide +kernel)⟩
theorem lw_p62 : lw_okq (⟨"TemplateScopesModel", "lengthWithout", "(I)I"⟩, 45) := ⟨⟨by decide +kernel, by decide +kernel⟩, List.mem_of_getElem? (i := 1147) (by decide +kernel), List.mem_of_getElem? (i := 1572) (by decide +kernel), List.mem_of_getElem? (i := 1573) (by decide +kernel)⟩
theorem lw_p63 : lw_okq (⟨"TemplateScopesModel", "reasonNow", "()I"⟩, 45) := ⟨⟨by decide +kernel, by decide +kernel⟩, List.mem_of_getElem? (i := 1147) (by decide +kernel), List.mem_of_getElem? (i := 1585) (by decide +kernel), List.mem_of_getElem? (i := 1586) (by decide +kernel)⟩
def lw_privs_4 : List (MethodName × Nat) := [(⟨"TemplateScopesModel", "opensScope", "()V"⟩, 45), (⟨"TemplateScopesModel", "opens", "(IIII)V"⟩, 45), (⟨"TemplateScopesModel", "isAtEnd", "()Z"⟩, 45), (⟨"TemplateScopesModel", "closes", "()V"⟩, 45), (⟨"TemplateScopesModel", "beginsPass", "(I)V"⟩, 45), (⟨"TemplateScopesModel", "rendersPart", "()V"⟩, 45), (⟨"TemplateScopesModel", "fails", "(II)V"⟩, 45), (⟨"TemplateScopesModel", "rendersBracket", "(II)V"⟩, 45), (⟨"TemplateScopesModel", "valueOf", "(I)I"⟩, 45), (⟨"TemplateScopesModel", "printsValue", "(IZI)V"⟩, 45), (⟨"TemplateScopesModel", "prints", "(III)V"⟩, 45), (⟨"TemplateScopesModel", "includes", "(II)V"⟩, 45), (⟨"TemplateScopesModel", "goesRound", "(IIII)V"⟩, 45), (⟨"TemplateScopesModel", "behind", "(II)I"⟩, 45), (⟨"TemplateScopesModel", "lengthWithout", "(I)I"⟩, 45), (⟨"TemplateScopesModel", "reasonNow", "()I"⟩, 45)]
theorem lw_r4 : ∀ q ∈ lw_privs_4, lw_okq q := List.forall_mem_cons.mpr ⟨lw_p48, List.forall_mem_cons.mpr ⟨lw_p49, List.forall_mem_cons.mpr ⟨lw_p50, List.forall_mem_cons.mpr ⟨lw_p51, List.forall_mem_cons.mpr ⟨lw_p52, List.forall_mem_cons.mpr ⟨lw_p53, List.forall_mem_cons.mpr ⟨lw_p54, List.forall_mem_cons.mpr ⟨lw_p55, List.forall_mem_cons.mpr ⟨lw_p56, List.forall_mem_cons.mpr ⟨lw_p57, List.forall_mem_cons.mpr ⟨lw_p58, List.forall_mem_cons.mpr ⟨lw_p59, List.forall_mem_cons.mpr ⟨lw_p60, List.forall_mem_cons.mpr ⟨lw_p61, List.forall_mem_cons.mpr ⟨lw_p62, List.forall_mem_cons.mpr ⟨lw_p63, fun _ h => absurd h List.not_mem_nil⟩⟩⟩⟩⟩⟩⟩⟩⟩⟩⟩⟩⟩⟩⟩⟩
theorem lw_p64 : lw_okq (⟨"TemplateScopesModel", "share", "()D"⟩, 45) := ⟨⟨by decide +kernel, by decide +kernel⟩, List.mem_of_getElem? (i := 1147) (by decide +kernel), List.mem_of_getElem? (i := 1613) (by decide +kernel), List.mem_of_getElem? (i := 1614) (by decide +kernel)⟩
theorem lw_p65 : lw_okq (⟨"TemplateScopesModel", "takesIn", "(J)V"⟩, 45) := ⟨⟨by decide +kernel, by decide +kernel⟩, List.mem_of_getElem? (i := 1147) (by decide +kernel), List.mem_of_getElem? (i := 1622) (by decide +kernel), List.mem_of_getElem? (i := 1623) (by decide +kernel)⟩
theorem lw_p66 : lw_okq (⟨"TemplateScopesModel", "takesValue", "(I)V"⟩, 45) := ⟨⟨by decide +kernel, by decide +kernel⟩, List.mem_of_getElem? (i := 1147) (by decide +kernel), List.mem_of_getElem? (i := 1627) (by decide +kernel), List.mem_of_getElem? (i := 1628) (by decide +kernel)⟩
theorem lw_p67 : lw_okq (⟨"TemplateScopesModel", "takesTemplate", "()V"⟩, 45) := ⟨⟨by decide +kernel, by decide +kernel⟩, List.mem_of_getElem? (i := 1147) (by decide +kernel), List.mem_of_getElem? (i := 1631) (by decide +kernel), List.mem_of_getElem? (i := 1632) (by decide +kernel)⟩
def lw_privs_5 : List (MethodName × Nat) := [(⟨"TemplateScopesModel", "share", "()D"⟩, 45), (⟨"TemplateScopesModel", "takesIn", "(J)V"⟩, 45), (⟨"TemplateScopesModel", "takesValue", "(I)V"⟩, 45), (⟨"TemplateScopesModel", "takesTemplate", "()V"⟩, 45)]
theorem lw_r5 : ∀ q ∈ lw_privs_5, lw_okq q := List.forall_mem_cons.mpr ⟨lw_p64, List.forall_mem_cons.mpr ⟨lw_p65, List.forall_mem_cons.mpr ⟨lw_p66, List.forall_mem_cons.mpr ⟨lw_p67, fun _ h => absurd h List.not_mem_nil⟩⟩⟩⟩
def lw_privs : List (MethodName × Nat) := lw_privs_1 ++ (lw_privs_2 ++ (lw_privs_3 ++ (lw_privs_4 ++ (lw_privs_5))))
def lw_tbl : List Cond := k2_sels lw_privs ++ tables_1
theorem lw_privs_ok : ∀ q ∈ lw_privs, lw_okq q := by
  show ∀ q ∈ lw_privs_1 ++ (lw_privs_2 ++ (lw_privs_3 ++ (lw_privs_4 ++ (lw_privs_5)))), lw_okq q
  exact List.forall_mem_append.mpr ⟨lw_r1, List.forall_mem_append.mpr ⟨lw_r2, List.forall_mem_append.mpr ⟨lw_r3, List.forall_mem_append.mpr ⟨lw_r4, lw_r5⟩⟩⟩⟩
/-- the streams that the claim lets the run draw from -/
abbrev lw_cs : List Choice := [Jvm.Choice.named "NaN.bits"]
theorem lw_bits : nanBits ∈ lw_cs := by first | decide | exact List.mem_cons_self | simp [lw_cs, nanBits]

/-! ===== BEGIN words of one list among another's, by their places ===== -/
theorem goodIn_r {big : List Cond} (ws : List Cond) (ps : List Nat) (hp : ws = ps.filterMap (fun i => big[i]?)) (h : ws.all goodWord = true) : GoodIn big ws := by
  intro w hw
  have h1 := List.all_eq_true.mp h w hw
  rw [hp] at hw
  obtain ⟨i, -, hi⟩ := List.mem_filterMap.mp hw
  have hm : w ∈ big := by first | exact List.mem_of_getElem? hi | exact List.getElem?_mem hi
  exact ⟨hm, good_of_word h1⟩
theorem goodIn_app {big a b : List Cond} (ha : GoodIn big a) (hb : GoodIn big b) : GoodIn big (a ++ b) := fun w h => (List.mem_append.mp h).elim (ha w) (hb w)
theorem goodIn_ca {big a b : List Cond} {c : Cond} (ha : GoodIn big (c :: a)) (hb : GoodIn big b) : GoodIn big (c :: (a ++ b)) := fun w h => (List.mem_cons.mp h).elim (fun e => ha w (List.mem_cons.mpr (Or.inl e))) (fun h => (List.mem_append.mp h).elim (fun h => ha w (List.mem_cons.mpr (Or.inr h))) (hb w))
theorem goodIn_sub {big ws : List Cond} (hm : ∀ w ∈ ws, w ∈ big) (h : ws.all goodWord = true) : GoodIn big ws := fun w hw => ⟨hm w hw, good_of_word (List.all_eq_true.mp h w hw)⟩
/-! ===== END ===== -/

/-! ===== BEGIN exceptions that leave a method, and their catching by the caller (launches without stack traces) ===== -/
section VXA
/-! The laws vx_back, vx_callV, vx_callS, vx_callSW, vx_throw0, vx_throwS follow proofs of the library, with one case more: JvmDerived/Free/Laws.lean (Back.of_free), Shelf42/LK1.lean (callV, callS), Shelf/KitTraced.lean (throwNew0V, throwNewS). -/
/-- where a method has thrown q: the class by its name, the cell, what was written, the world -/
def vx_T (XC : String → State → State → Prop) (st : State) (q : Addr) (t : State) (mc ms : Nat) (free : Addr → Prop) : Prop :=
  ∃ (E : String) (ce : Cell) (L : List Loc), XC E st t ∧ t.heap[q]? = some ce ∧ ce.vm = .none ∧ st.vm.findClass E = some ce.cls ∧ st.WarmedH t.vm ∧ st.sameButNew ({ t with vm := st.vm } : State) L mc ms ∧ ∀ z ∈ L, free z.base
def vx_Q (Qc : Array Value → State → Outcome → State → Prop) (XC : String → State → State → Prop) (mc ms : Nat) (free : Addr → Prop) : Array Value → State → Outcome → State → Prop := fun a st o t =>
  (Qc a st o t ∧ ∃ L, FrameEnd st o t L mc ms ∧ ∀ q ∈ L, free q.base) ∨ ∃ q, o = .threw q ∧ vx_T XC st q t mc ms free
/-- a callee that returns or throws -/
def vx_Met (l : Launch) (y : MethodName) (ws : List Cond) (rm : Room) (Pc : Array Value → State → Prop) (Qc : Array Value → State → Outcome → State → Prop) (XC : String → State → State → Prop) (mc ms : Nat) (free : Addr → Prop) : Prop :=
  MetFree l y (headSpec ws rm) Pc (fun _ _ _ _ _ => True) (vx_Q Qc XC mc ms free)
def vx_Post (XC : String → State → State → Prop) (mc ms : Nat) (free : Addr → Prop) : Pt → Array Value → Addr → Pt → Prop := fun A a q B =>
  ∃ (g : JFrame) (mk : MethodId) (t : State) (L : List Loc) (E : String) (ce : Cell), B.U.heap = t.heap ∧ B.U.vm = t.vm ∧ XC E (A.U.calling g mk a) t ∧ t.heap[q]? = some ce ∧ ce.vm = .none ∧ A.U.vm.findClass E = some ce.cls ∧ B.locs = A.locs ++ L ∧ (∀ z ∈ L, free z.base) ∧ B.cells = A.cells + mc ∧ B.slots = A.slots + ms
def vx_Back (l : Launch) (R : Room) (p : Program) (e : Env) (below : List Frame) (s : State) (sargs : Array Value) (y : MethodName) (len W9 : Nat)
    (Pre : Pt → Array Value → Prop) (Post : Pt → Array Value → Option Value → Pt → Prop) (PostX : Pt → Array Value → Addr → Pt → Prop) : Prop :=
  ∀ (m : MethodId) (meth : Method) (c : Code) (A : Pt) (g : JFrame) (ig : Instr) (mk : MethodId) (a : Array Value),
    Stand p l e R s m sargs below meth c A.U A.locs A.cells A.slots → g.method = m → g.locals.size = c.maxLocals → decode c.code g.pc = .ok (ig, len) →
    2 * g.monitorRoom + (g.stack.map fun v => v.category).sum ≤ W9 → A.U.methodNamed? y = some mk → Pre A a →
    (∃ (v : Option Value) (B : Pt), Stand p l e R s m sargs below meth c B.U B.locs B.cells B.slots ∧ Post A a v B ∧
      Steps p.tables e below (doInvoke e (A.U.setTop g) [] mk a).1 (B.U.setTop { g with pc := g.pc + len, stack := v.toList ++ g.stack })) ∨
    (∃ (q : Addr) (B : Pt), Stand p l e R s m sargs below meth c B.U B.locs B.cells B.slots ∧ PostX A a q B ∧
      Steps p.tables e below (doInvoke e (A.U.setTop g) [] mk a).1 ((B.U.setTop g).pushFrame (.throwing q)))
section Payer
variable {l : Launch} {R : Room} {p : Program} {e : Env} {below : List Frame} {s : State} {sargs : Array Value} {y : MethodName} {len W9 : Nat}
theorem vx_back {ws : List Cond} {rm : Room} {Pc : Array Value → State → Prop} {Qc : Array Value → State → Outcome → State → Prop} {XC : String → State → State → Prop} {mc ms : Nat} {free : Addr → Prop} {bytes : ByteArray} {maxL : Nat} {ret : Option FieldType}
    (hM : vx_Met l y ws rm Pc Qc XC mc ms free) (hblind : FrameBlind Pc) (hrc : rm.cells = mc) (hrs : rm.slots = ms)
    (hframes : rm.frames + 1 ≤ R.frames) (hlocals : W9 + (maxL + 11) + rm.locals ≤ R.locals)
    (hws : ∀ w ∈ ws, ∀ a' U, s.WarmedH U.vm → w.before a' U = true) (hcode : Cond.code y bytes maxL ret ∈ ws) (hinit : ∀ a' U, s.WarmedH U.vm → (Cond.initialized y.cls).before a' U = true) :
    vx_Back l R p e below s sargs y len W9 (PreOf R mc ms Pc) (PostOf Qc mc ms free) (vx_Post XC mc ms free) := by
  intro m meth c A g ig mk a X hg hsize hdg hW hn hp
  have h1 : (headSpec ws rm).pre.before a A.U = true := atoms_intro fun w hw => hws w hw _ _ X.warmed
  have h2 : (Cond.code y bytes maxL ret).before a A.U = true := hws _ hcode _ _ X.warmed
  have h3 : (Cond.initialized y.cls).before a A.U = true := hinit _ _ X.warmed
  have h4 : A.cells + (headSpec ws rm).room.cells ≤ R.cells := by rw [show (headSpec ws rm).room.cells = mc from hrc]; exact hp.1
  have h5 : A.slots + (headSpec ws rm).room.slots ≤ R.slots := by rw [show (headSpec ws rm).room.slots = ms from hrs]; exact hp.2.1
  have hPc : Pc a (A.U.calling g mk a) := hblind _ _ _ _ hp.2.2
  obtain ⟨U, Ls, c0, s0⟩ := A
  dsimp only [Pt.U, Pt.locs, Pt.cells, Pt.slots] at h1 h2 h3 h4 h5 X hn hPc ⊢
  obtain ⟨methY, cY, hmY, hcY, -, hlY, -, -, -, -⟩ := Cond.code_spec hn h2
  obtain ⟨kY, hkY, -⟩ := className_of_methodNamed hn
  have hinitY : kY.init = .initialized := Cond.initialized_spec (findClass_of_methodNamed hn) hkY h3
  have h : At U g.method c below := by rw [hg]; exact X.here
  have hlocals9 : W9 + (maxL + 11) + (headSpec ws rm).room.locals ≤ R.locals := hlocals
  have happ : (headSpec ws rm).appliesLoose y e.platform (U.calling g mk a) = true :=
    Spec.appliesLoose_calling (g := g) h hdg hn hkY hinitY
      (X.room_calling (g := g) (R' := (headSpec ws rm).room) hsize hmY hcY hframes (by rw [hlY]; omega) h4 h5) h1
  obtain ⟨mid, hmid⟩ := h.above
  have hfr : (U.setTop g).frames = (.java g :: mid) ++ below := by rw [State.frames_setTop' g h.top, hmid]; rfl
  obtain ⟨o, s₂, hsteps, -, hend, hq⟩ := Steps.callFree hM p X.admits X.cas X.clock (acts := []) hfr happ hPc trivial
  have hq' : vx_Q Qc XC mc ms free a (U.calling g mk a) o s₂ := hq
  rw [State.frames_setTop' g h.top] at hend
  obtain ⟨g₀, hg0⟩ := Option.isSome_iff_exists.mp h.top
  obtain ⟨r, hr⟩ := State.topJava?_eq_some.mp hg0
  have hr' : (({ U with heap := s₂.heap, slotsUsed := s₂.slotsUsed } : State).setVm s₂.vm).frames = .java g₀ :: r := hr
  rcases hq' with ⟨hqc, L, hfe, hL⟩ | ⟨q, rfl, E, ce, L, hx, hce, hcv, hcl, hW₂, hsm, hL⟩
  · obtain ⟨⟨v, rfl⟩, hW₂, e2, q2, q3, q4, q5, q6⟩ := id hfe
    have e3 : s₂ = ({ (U.calling g mk a).setFrames s₂.frames with heap := s₂.heap, slotsUsed := s₂.slotsUsed } : State).setVm s₂.vm := by
      have : s₂ = ({ s₂ with vm := (U.calling g mk a).vm } : State).setVm s₂.vm := rfl
      rw [e2] at this
      exact this
    obtain ⟨c₂, i₂, len₂, hc₂, hd₂, hf₂⟩ := hend
    have hW' : U.WarmedH s₂.vm := hW₂
    have hcc : c₂ = c := by
      have h1 : s₂.code? g.method = U.code? g.method := by
        rw [State.code?_eq, State.code?_eq, hW'.alike.method?]
      exact Option.some.inj (hc₂.symm.trans (h1.trans h.code))
    subst hcc
    have hlen : len₂ = len := by rw [hdg] at hd₂; cases hd₂; rfl
    subst hlen
    have hs₂ : s₂ = (({ U with heap := s₂.heap, slotsUsed := s₂.slotsUsed } : State).setVm s₂.vm).setTop { g with pc := g.pc + len₂, stack := v.toList ++ g.stack } := by
      refine e3.trans ?_
      rw [hf₂, State.calling_eq h.top, State.setFrames_setFrames, State.setTop_of_frames _ hr', hr]
      rfl
    have hsame : U.sameButNew ({ U with heap := s₂.heap, slotsUsed := s₂.slotsUsed } : State) L mc ms := by
      refine ⟨?_, q2, q3, q4, q5, q6⟩
      obtain ⟨t, ht, -⟩ := State.frames_cons hr
      show ({ U with heap := s₂.heap, slotsUsed := s₂.slotsUsed } : State) = { U.setFrames U.frames with heap := s₂.heap, slotsUsed := s₂.slotsUsed }
      rw [State.setFrames_self ht]
    subst hg
    refine Or.inl ⟨v, ⟨(({ U with heap := s₂.heap, slotsUsed := s₂.slotsUsed } : State).setVm s₂.vm), Ls ++ L, c0 + mc, s0 + ms⟩,
      ⟨X.admits, X.cas, X.clock, X.frames, X.room, X.hears, X.method, X.code, (X.here.setHeapUsed s₂.heap s₂.slotsUsed).setVm hW'.alike, X.tail, State.WarmedH.trans X.warmed hW', X.limits, X.bytes, X.same.trans (hsame.setVm s.vm)⟩,
      ⟨g, mk, s₂, L, rfl, rfl, hqc, rfl, hL, rfl, rfl⟩, ?_⟩
    show Steps p.tables e below _ ((({ U with heap := s₂.heap, slotsUsed := s₂.slotsUsed } : State).setVm s₂.vm).setTop { g with pc := g.pc + len₂, stack := v.toList ++ g.stack })
    rw [← hs₂]
    exact hsteps
  · obtain ⟨e2, q2, q3, q4, q5, q6⟩ := id hsm
    have e3 : s₂ = ({ (U.calling g mk a).setFrames s₂.frames with heap := s₂.heap, slotsUsed := s₂.slotsUsed } : State).setVm s₂.vm := by
      have : s₂ = ({ s₂ with vm := (U.calling g mk a).vm } : State).setVm s₂.vm := rfl
      rw [e2] at this
      exact this
    have hf₂ : s₂.frames = .throwing q :: .java g :: U.frames.tail := hend
    have hW' : U.WarmedH s₂.vm := hW₂
    have hs₂ : s₂ = ((({ U with heap := s₂.heap, slotsUsed := s₂.slotsUsed } : State).setVm s₂.vm).setTop g).pushFrame (.throwing q) := by
      refine e3.trans ?_
      rw [hf₂, State.calling_eq h.top, State.setFrames_setFrames, State.pushFrame, State.frames_setTop _ hr', State.setTop_of_frames _ hr', State.setFrames_setFrames, hr]
      rfl
    have hsame : U.sameButNew ({ U with heap := s₂.heap, slotsUsed := s₂.slotsUsed } : State) L mc ms := by
      refine ⟨?_, q2, q3, q4, q5, q6⟩
      obtain ⟨t, ht, -⟩ := State.frames_cons hr
      show ({ U with heap := s₂.heap, slotsUsed := s₂.slotsUsed } : State) = { U.setFrames U.frames with heap := s₂.heap, slotsUsed := s₂.slotsUsed }
      rw [State.setFrames_self ht]
    subst hg
    refine Or.inr ⟨q, ⟨(({ U with heap := s₂.heap, slotsUsed := s₂.slotsUsed } : State).setVm s₂.vm), Ls ++ L, c0 + mc, s0 + ms⟩,
      ⟨X.admits, X.cas, X.clock, X.frames, X.room, X.hears, X.method, X.code, (X.here.setHeapUsed s₂.heap s₂.slotsUsed).setVm hW'.alike, X.tail, State.WarmedH.trans X.warmed hW', X.limits, X.bytes, X.same.trans (hsame.setVm s.vm)⟩,
      ⟨g, mk, s₂, L, E, ce, rfl, rfl, hx, hce, hcv, hcl, rfl, hL, rfl, rfl⟩, ?_⟩
    show Steps p.tables e below _ (((({ U with heap := s₂.heap, slotsUsed := s₂.slotsUsed } : State).setVm s₂.vm).setTop g).pushFrame (.throwing q))
    rw [← hs₂]
    exact hsteps
end Payer
section Calls
variable {p : Program} {l : Launch} {e : Env} {R : Room} {s : State} {m : MethodId} {args : Array Value} {below : List Frame} {meth : Method} {c : Code} {T : State} {locs : List Loc} {cells slots : Nat}
theorem vx_callV (X : Stand p l e R s m args below meth c T locs cells slots) (hexec : p.tables.exec = Jvm.exec) {own C : String} {index : Nat} {y : MethodName} {bytes : ByteArray} {maxL : Nat} {ret : Option FieldType}
    (hown : s.vm.findClass own = some m.cls) (hlink : (Cond.methodLink own index y).before args s = true) (hinst : (Cond.instanceMethod y).before args s = true) (hsel : (Cond.selects C y y).before args s = true)
    (hcode : (Cond.code y bytes maxL ret).before args s = true) (hy : y.cls ≠ "java/lang/invoke/MethodHandle" ∧ y.cls ≠ "java/lang/invoke/VarHandle")
    {W9 : Nat} {Pre : Pt → Array Value → Prop} {Post : Pt → Array Value → Option Value → Pt → Prop} {PostX : Pt → Array Value → Addr → Pt → Prop} (hK : vx_Back l R p e below s args y 3 W9 Pre Post PostX)
    {b : Addr} {cellB : Cell} (hcell : T.heap[b]? = some cellB) (hobj : cellB.vm.isStatics = false) (hcls : s.vm.findClass C = some cellB.cls)
    {g : JFrame} (hg : g.method = m) (hsize : g.locals.size = c.maxLocals) {argsL rest : List Value} (hlen : ∀ sig, parseMethodDescriptor y.desc = some sig → argsL.length = sig.parameters.length)
    (hstack : g.stack = argsL.reverse ++ .ref b :: rest) (hW : 2 * g.monitorRoom + (rest.map fun v => v.category).sum ≤ W9) (hdg : decode c.code g.pc = .ok (.invokevirtual index, 3))
    (hpre : ∀ vm₁, s.WarmedH vm₁ → Pre ⟨T.setVm vm₁, locs, cells, slots⟩ (Value.ref b :: argsL).toArray) :
    (∃ (v : Option Value) (vm₁ : Vm) (B : Pt), s.WarmedH vm₁ ∧ Stand p l e R s m args below meth c B.U B.locs B.cells B.slots ∧ Post ⟨T.setVm vm₁, locs, cells, slots⟩ (Value.ref b :: argsL).toArray v B ∧
      ∀ target, Steps p.tables e below (B.U.setTop { g with pc := g.pc + 3, stack := v.toList ++ rest }) target → Steps p.tables e below (T.setTop g) target) ∨
    (∃ (q : Addr) (vm₁ : Vm) (B : Pt), s.WarmedH vm₁ ∧ Stand p l e R s m args below meth c B.U B.locs B.cells B.slots ∧ PostX ⟨T.setVm vm₁, locs, cells, slots⟩ (Value.ref b :: argsL).toArray q B ∧
      Steps p.tables e below (T.setTop g) ((B.U.setTop { g with stack := rest }).pushFrame (.throwing q))) := by
  obtain ⟨mk, methM, hnamed, hmethM, hstM, habM⟩ := Cond.instanceMethod_spec hinst
  obtain ⟨methM', cM, hmethM', -, -, -, -, -, -, hsigM⟩ := Cond.code_spec hnamed hcode
  cases hmethM.symm.trans hmethM'
  obtain ⟨c2, r2, m2, q1, q2, q3, q4, kP, hkP, hkPi⟩ := Cond.selects_spec hsel
  cases hcls.symm.trans q1
  cases (State.methodFound?_of_named hnamed hy).symm.trans q2
  cases hnamed.symm.trans q3
  have hselP : selectMethod e.platform s.vm cellB.cls mk = .method mk := by rw [Launch.admits_selectMethod X.admits]; exact q4
  obtain ⟨vm₁, X₁, hstep₁⟩ := X.invokevirtual hexec hown hlink hnamed hmethM hstM hkP hkPi hy (a := b) (cell := cellB) hcell
    (fun z h => by rw [h] at hobj; cases hobj) hselP hmethM habM hkP hkPi (g := g) hg (argsL := argsL) (rest := rest) (hlen _ hsigM) hstack hdg
  rcases hK m meth c ⟨T.setVm vm₁, locs, cells, slots⟩ { g with stack := rest } (.invokevirtual index) mk (Value.ref b :: argsL).toArray X₁ hg hsize hdg hW (X₁.named hnamed) (hpre vm₁ X₁.warmed) with ⟨v, B, X', hpost, hsteps⟩ | ⟨q, B, X', hpost, hsteps⟩
  · exact Or.inl ⟨v, vm₁, B, X₁.warmed, X', hpost, fun target h => hstep₁ _ fun acts => by rw [doInvoke_state]; exact hsteps.trans h⟩
  · exact Or.inr ⟨q, vm₁, B, X₁.warmed, X', hpost, hstep₁ _ fun acts => by rw [doInvoke_state]; exact hsteps⟩
theorem vx_callS (X : Stand p l e R s m args below meth c T locs cells slots) (hexec : p.tables.exec = Jvm.exec) {own : String} {index : Nat} {y : MethodName} {bytes : ByteArray} {maxL : Nat} {ret : Option FieldType}
    (hown : s.vm.findClass own = some m.cls) (hlink : (Cond.methodLink own index y).before args s = true) (hstat : (Cond.static y).before args s = true) (hinit : (Cond.initialized y.cls).before args s = true)
    (hcode : (Cond.code y bytes maxL ret).before args s = true) (hy : y.cls ≠ "java/lang/invoke/MethodHandle" ∧ y.cls ≠ "java/lang/invoke/VarHandle")
    {W9 : Nat} {Pre : Pt → Array Value → Prop} {Post : Pt → Array Value → Option Value → Pt → Prop} {PostX : Pt → Array Value → Addr → Pt → Prop} (hK : vx_Back l R p e below s args y 3 W9 Pre Post PostX)
    {g : JFrame} (hg : g.method = m) (hsize : g.locals.size = c.maxLocals) {argsL rest : List Value} (hlen : ∀ sig, parseMethodDescriptor y.desc = some sig → argsL.length = sig.parameters.length)
    (hstack : g.stack = argsL.reverse ++ rest) (hW : 2 * g.monitorRoom + (rest.map fun v => v.category).sum ≤ W9) (hdg : decode c.code g.pc = .ok (.invokestatic index, 3))
    (hpre : ∀ vm₁, s.WarmedH vm₁ → Pre ⟨T.setVm vm₁, locs, cells, slots⟩ argsL.toArray) :
    (∃ (v : Option Value) (vm₁ : Vm) (B : Pt), s.WarmedH vm₁ ∧ Stand p l e R s m args below meth c B.U B.locs B.cells B.slots ∧ Post ⟨T.setVm vm₁, locs, cells, slots⟩ argsL.toArray v B ∧
      ∀ target, Steps p.tables e below (B.U.setTop { g with pc := g.pc + 3, stack := v.toList ++ rest }) target → Steps p.tables e below (T.setTop g) target) ∨
    (∃ (q : Addr) (vm₁ : Vm) (B : Pt), s.WarmedH vm₁ ∧ Stand p l e R s m args below meth c B.U B.locs B.cells B.slots ∧ PostX ⟨T.setVm vm₁, locs, cells, slots⟩ argsL.toArray q B ∧
      Steps p.tables e below (T.setTop g) ((B.U.setTop { g with stack := rest }).pushFrame (.throwing q))) := by
  obtain ⟨mk, hnamed⟩ := Cond.code_named hcode
  obtain ⟨methM, cM, hmethM, -, -, -, -, -, -, hsigM⟩ := Cond.code_spec hnamed hcode
  have hstatic : methM.isStatic = true := Cond.static_spec hnamed hmethM hstat
  obtain ⟨kP, hkP, -⟩ := className_of_methodNamed hnamed
  have hinitP : kP.init = .initialized := Cond.initialized_spec (findClass_of_methodNamed hnamed) hkP hinit
  obtain ⟨vm₁, X₁, hstep₁⟩ := X.invokestatic hexec hown hlink hnamed hmethM hstatic hkP hinitP hy (g := g) hg (argsL := argsL) (rest := rest) (hlen _ hsigM) hstack hdg
  rcases hK m meth c ⟨T.setVm vm₁, locs, cells, slots⟩ { g with stack := rest } (.invokestatic index) mk argsL.toArray X₁ hg hsize hdg hW (X₁.named hnamed) (hpre vm₁ X₁.warmed) with ⟨v, B, X', hpost, hsteps⟩ | ⟨q, B, X', hpost, hsteps⟩
  · exact Or.inl ⟨v, vm₁, B, X₁.warmed, X', hpost, fun target h => hstep₁ _ fun acts => by rw [doInvoke_state]; exact hsteps.trans h⟩
  · exact Or.inr ⟨q, vm₁, B, X₁.warmed, X', hpost, hstep₁ _ fun acts => by rw [doInvoke_state]; exact hsteps⟩
end Calls
theorem vx_cls {s : State} {T : State} {vm₁ : Vm} {E : String} {k : ClassId} (hW : s.WarmedH vm₁) (h : (T.setVm vm₁).vm.findClass E = some k) : s.vm.findClass E = some k := by
  have h1 : vm₁.findClass E = some k := h
  rw [hW.alike.findClass] at h1
  exact h1
/-- the method's frame g, with q thrown over it -/
def vx_W (p : Program) (l : Launch) (e : Env) (R : Room) (s : State) (m : MethodId) (args : Array Value) (below : List Frame) (meth : Method) (c : Code) (H : Heap) (locs : List Loc) (cells slots : Nat) (Q : State → Prop) (g : JFrame) (q : Addr) : Prop :=
  ∀ T : State, T.heap = H → Stand p l e R s m args below meth c T locs cells slots → ∃ t, Steps p.tables e below ((T.setTop g).pushFrame (.throwing q)) t ∧ Q t
def vx_Run (p : Program) (l : Launch) (e : Env) (R : Room) (s : State) (m : MethodId) (args : Array Value) (below : List Frame) (meth : Method) (c : Code) (H : Heap) (locs : List Loc) (cells slots mc ms : Nat) (g : JFrame) (rest : List Value) (Qa : State → Outcome → State → Prop) (XC : String → State → State → Prop) (free : Addr → Prop) : Prop :=
  ∀ T : State, T.heap = H → Stand p l e R s m args below meth c T locs cells slots →
    (∃ (v : Option Value) (st₀ t T' : State) (L : List Loc), st₀.heap = H ∧ Stand p l e R s m args below meth c T' (locs ++ L) (cells + mc) (slots + ms) ∧ (∀ q ∈ L, free q.base) ∧ T'.heap = t.heap ∧ T'.vm = t.vm ∧ Qa st₀ (.returned v) t ∧
      Goes p e below T g T' { g with pc := g.pc + 3, stack := v.toList ++ rest }) ∨
    (∃ (q : Addr) (st₀ t T' : State) (L : List Loc) (E : String) (ce : Cell), st₀.heap = H ∧ Stand p l e R s m args below meth c T' (locs ++ L) (cells + mc) (slots + ms) ∧ (∀ z ∈ L, free z.base) ∧ T'.heap = t.heap ∧ T'.vm = t.vm ∧ XC E st₀ t ∧ t.heap[q]? = some ce ∧ ce.vm = .none ∧ s.vm.findClass E = some ce.cls ∧
      Steps p.tables e below (T.setTop g) ((T'.setTop { g with stack := rest }).pushFrame (.throwing q)))
def vx_X {S : Type} (px : S → Prop) (B : String → S → State → Prop) (A : Nat → Prop) : String → State → State → Prop := fun E st t => ∃ u : S, px u ∧ B E u t ∧ va_F A st t
section Runs
variable {p : Program} {l : Launch} {e : Env} {R : Room} {s : State} {m : MethodId} {args : Array Value} {below : List Frame} {meth : Method} {c : Code} {H : Heap} {locs : List Loc} {cells slots : Nat}
variable {y : MethodName} {bytes cc : ByteArray} {maxL nL mc ms n index : Nat} {ret : Option FieldType} {ws : List Cond} {rm : Room} {Pc : Array Value → State → Prop} {Qc : Array Value → State → Outcome → State → Prop} {XC : String → State → State → Prop} {free : Addr → Prop} {Ts : List Cond} {own C : String} {b : Addr} {As rest : List Value} {g : JFrame}
theorem vx_callBack (cb : CallB R s args own index y bytes maxL ret ws rm mc ms n) (hM : vx_Met l y ws rm Pc Qc XC mc ms free) (hbl : FrameBlind Pc) : vx_Back l R p e below s args y 3 8 (PreOf R mc ms Pc) (PostOf Qc mc ms free) (vx_Post XC mc ms free) := by
  obtain ⟨hrc, hrs, hfr, hlo, hws, hcw, -, hini, -⟩ := cb
  exact vx_back (bytes := bytes) (maxL := maxL) (ret := ret) hM hbl hrc hrs hfr hlo hws hcw (fun a' U hW => word_at hW (Or.inl (by first | rfl | simp [Cond.onTables, Cond.keeps, Cond.steady])) hini)
theorem vx_runV (S : CallFix p m c cc nL s args Ts own) (hM : vx_Met l y ws rm Pc Qc XC mc ms free) (cw : CallW R s args own C index y bytes maxL ret ws rm mc ms n) (hp : PreV s H C b Pc As)
    (hg : g.method = m) (hn : As.length = n) (hsize : g.locals.size = nL) (hstack : g.stack = As.reverse ++ .ref b :: rest) (hW : 2 * g.monitorRoom + (rest.map fun v => v.category).sum ≤ 8) (hdg : decode cc g.pc = .ok (.invokevirtual index, 3)) (hf : cells + mc ≤ R.cells ∧ slots + ms ≤ R.slots) :
    vx_Run p l e R s m args below meth c H locs cells slots mc ms g rest (Qc (Value.ref b :: As).toArray) XC free := by
  have hK : vx_Back l R p e below s args y 3 8 (PreOf R mc ms Pc) (PostOf Qc mc ms free) (vx_Post XC mc ms free) := vx_callBack cw.1 hM hp.1
  obtain ⟨⟨-, -, -, -, -, -, hcode, -, hy, hlen, hl⟩, hin, hse⟩ := cw
  obtain ⟨hx, hb, hml, ho, -⟩ := S
  obtain ⟨-, ⟨cellB, hcB, hoB, hclB⟩, hPc⟩ := hp
  intro T hT X
  rcases vx_callV X hx (C := C) (bytes := bytes) (maxL := maxL) (ret := ret) ho hl hin hse hcode hy hK (by rw [hT]; exact hcB) hoB hclB hg (hsize.trans hml.symm) (argsL := As) (rest := rest) (fun sig h => hn.trans (hlen sig h)) hstack hW (by rw [hb]; exact hdg)
    (fun vm₁ hW₁ => ⟨hf.1, hf.2, hPc (T.setVm vm₁) hT hW₁⟩) with ⟨v, vm₁, ⟨U', l2, c2, s2⟩, hW₁, X', ⟨g', mk, t, L, e1, e2, hq, h1, hL, h2, h3⟩, st⟩ | ⟨q, vm₁, ⟨U', l2, c2, s2⟩, hW₁, X', ⟨g', mk, t, L, E, ce, e1, e2, hq, hce, hcv, hcl, h1, hL, h2, h3⟩, st⟩
  · dsimp only [Pt.U, Pt.locs, Pt.cells, Pt.slots] at X' e1 e2 h1 h2 h3 st
    subst h1; subst h2; subst h3
    exact Or.inl ⟨v, (T.setVm vm₁).calling g' mk (Value.ref b :: As).toArray, t, U', L, hT, X', hL, e1, e2, hq, st⟩
  · dsimp only [Pt.U, Pt.locs, Pt.cells, Pt.slots] at X' e1 e2 h1 h2 h3 st hcl
    subst h1; subst h2; subst h3
    exact Or.inr ⟨q, (T.setVm vm₁).calling g' mk (Value.ref b :: As).toArray, t, U', L, E, ce, hT, X', hL, e1, e2, hq, hce, hcv, vx_cls hW₁ hcl, st⟩
theorem vx_runS (S : CallFix p m c cc nL s args Ts own) (hM : vx_Met l y ws rm Pc Qc XC mc ms free) (cw : CallB R s args own index y bytes maxL ret ws rm mc ms n ∧ (Cond.static y).before args s = true) (hp : PreS s H Pc As)
    (hg : g.method = m) (hn : As.length = n) (hsize : g.locals.size = nL) (hstack : g.stack = As.reverse ++ rest) (hW : 2 * g.monitorRoom + (rest.map fun v => v.category).sum ≤ 8) (hdg : decode cc g.pc = .ok (.invokestatic index, 3)) (hf : cells + mc ≤ R.cells ∧ slots + ms ≤ R.slots) :
    vx_Run p l e R s m args below meth c H locs cells slots mc ms g rest (Qc As.toArray) XC free := by
  have hK : vx_Back l R p e below s args y 3 8 (PreOf R mc ms Pc) (PostOf Qc mc ms free) (vx_Post XC mc ms free) := vx_callBack cw.1 hM hp.1
  obtain ⟨⟨-, -, -, -, -, -, hcode, hini, hy, hlen, hl⟩, hstt⟩ := cw
  obtain ⟨hx, hb, hml, ho, -⟩ := S
  intro T hT X
  rcases vx_callS X hx (bytes := bytes) (maxL := maxL) (ret := ret) ho hl hstt hini hcode hy hK hg (hsize.trans hml.symm) (argsL := As) (rest := rest) (fun sig h => hn.trans (hlen sig h)) hstack hW (by rw [hb]; exact hdg)
    (fun vm₁ hW₁ => ⟨hf.1, hf.2, hp.2 (T.setVm vm₁) hT hW₁⟩) with ⟨v, vm₁, ⟨U', l2, c2, s2⟩, hW₁, X', ⟨g', mk, t, L, e1, e2, hq, h1, hL, h2, h3⟩, st⟩ | ⟨q, vm₁, ⟨U', l2, c2, s2⟩, hW₁, X', ⟨g', mk, t, L, E, ce, e1, e2, hq, hce, hcv, hcl, h1, hL, h2, h3⟩, st⟩
  · dsimp only [Pt.U, Pt.locs, Pt.cells, Pt.slots] at X' e1 e2 h1 h2 h3 st
    subst h1; subst h2; subst h3
    exact Or.inl ⟨v, (T.setVm vm₁).calling g' mk As.toArray, t, U', L, hT, X', hL, e1, e2, hq, st⟩
  · dsimp only [Pt.U, Pt.locs, Pt.cells, Pt.slots] at X' e1 e2 h1 h2 h3 st hcl
    subst h1; subst h2; subst h3
    exact Or.inr ⟨q, (T.setVm vm₁).calling g' mk As.toArray, t, U', L, E, ce, hT, X', hL, e1, e2, hq, hce, hcv, vx_cls hW₁ hcl, st⟩
end Runs
section Rows
variable {p : Program} {l : Launch} {e : Env} {R : Room} {s : State} {m : MethodId} {args : Array Value} {below : List Frame} {meth : Method} {c : Code} {H : Heap} {locs : List Loc} {cells slots : Nat} {Q : State → Prop}
variable {mc ms : Nat} {free : Addr → Prop} {A0 A1 : Nat → Prop} {H0 : Heap} {a : Array Value} {pc : Nat} {ls : Array Slot} {st0 rest : List Value}
theorem vx_keep {st₀ t T' : State} {L : List Loc} (h0 : st₀.heap = H) (e1 : T'.heap = t.heap) (hS : va_S A0 H0 H locs) (hA : ∀ q, q < H.size → A1 q → A0 q) (hf : ∀ q, free q → A0 q) (hL : ∀ q ∈ L, free q.base) (hF : va_F A1 st₀ t) :
    H.size ≤ T'.heap.size ∧ (∀ q : Nat, q < H.size → ¬ A1 q → T'.heap[q]? = H[q]?) ∧ va_S A0 H0 T'.heap (locs ++ L) := by
  obtain ⟨hz, hk⟩ := hF
  rw [h0] at hz hk
  exact ⟨by rw [e1]; exact hz, fun q h1 h2 => by rw [e1]; exact hk q h1 h2,
    ⟨Nat.le_trans hS.1 (by rw [e1]; exact hz), fun q h1 h2 => by rw [e1, hk q (Nat.lt_of_lt_of_le h1 hS.1) (fun z => h2 (hA q (Nat.lt_of_lt_of_le h1 hS.1) z))]; exact hS.2.1 q h1 h2, fun q hq => by
      rcases List.mem_append.mp hq with h | h
      · exact hS.2.2 q h
      · exact hf _ (hL q h)⟩⟩
theorem vx_calli {S SX : Type} {post : Int32 → S → Prop} {px : SX → Prop} {B : S → State → Prop} {BX : String → SX → State → Prop} {AX : Nat → Prop} (hr : vx_Run p l e R s m args below meth c H locs cells slots mc ms (F0 m pc ls st0) rest (va_Qi post B A1 a) (vx_X px BX AX) free) (hS : va_S A0 H0 H locs) (hA : ∀ q, q < H.size → A1 q → A0 q) (hf : ∀ q, free q → A0 q) (hAX : ∀ q, q < H.size → AX q → A0 q)
    (kx : ∀ (E : String) (ce : Cell) (q9 : Addr) (u : SX) (t : State) (H1 : Heap) (locs1 : List Loc), t.heap = H1 → s.vm.Alike t.vm → px u → BX E u t → H.size ≤ H1.size → (∀ q : Nat, q < H.size → ¬ AX q → H1[q]? = H[q]?) → va_S A0 H0 H1 locs1 → H1[q9]? = some ce → ce.vm = .none → s.vm.findClass E = some ce.cls → vx_W p l e R s m args below meth c H1 locs1 (cells + mc) (slots + ms) Q (F0 m pc ls rest) q9)
    (kk : ∀ (r : Int32) (u : S) (t : State) (H1 : Heap) (locs1 : List Loc), t.heap = H1 → s.vm.Alike t.vm → post r u → B u t → H.size ≤ H1.size → (∀ q : Nat, q < H.size → ¬ A1 q → H1[q]? = H[q]?) → va_S A0 H0 H1 locs1 → W p l e R s m args below meth c H1 locs1 (cells + mc) (slots + ms) Q (F0 m (pc + 3) ls (.int r :: rest))) : W p l e R s m args below meth c H locs cells slots Q (F0 m pc ls st0) := by
  intro T hT X
  rcases hr T hT X with ⟨v, st₀, t, T', L, h0, X', hL, e1, e2, ⟨⟨r, u, hv, hp, hb⟩, hF⟩, st⟩ | ⟨q, st₀, t, T', L, E, ce, h0, X', hL, e1, e2, ⟨u, hp, hb, hF⟩, hce, hcv, hcl, st⟩
  · cases hv
    obtain ⟨k1, k2, k3⟩ := vx_keep h0 e1 hS hA hf hL hF
    obtain ⟨t2, a1, b1⟩ := kk r u t T'.heap (locs ++ L) e1.symm (by rw [← e2]; exact X'.warmed.alike) hp hb k1 k2 k3 T' rfl X'
    exact ⟨t2, st t2 a1, b1⟩
  · obtain ⟨k1, k2, k3⟩ := vx_keep h0 e1 hS hAX hf hL hF
    obtain ⟨t2, a1, b1⟩ := kx E ce q u t T'.heap (locs ++ L) e1.symm (by rw [← e2]; exact X'.warmed.alike) hp hb k1 k2 k3 (by rw [e1]; exact hce) hcv hcl T' rfl X'
    exact ⟨t2, st.trans a1, b1⟩
theorem vx_calll {S SX : Type} {post : Int64 → S → Prop} {px : SX → Prop} {B : S → State → Prop} {BX : String → SX → State → Prop} {AX : Nat → Prop} (hr : vx_Run p l e R s m args below meth c H locs cells slots mc ms (F0 m pc ls st0) rest (va_Ql post B A1 a) (vx_X px BX AX) free) (hS : va_S A0 H0 H locs) (hA : ∀ q, q < H.size → A1 q → A0 q) (hf : ∀ q, free q → A0 q) (hAX : ∀ q, q < H.size → AX q → A0 q)
    (kx : ∀ (E : String) (ce : Cell) (q9 : Addr) (u : SX) (t : State) (H1 : Heap) (locs1 : List Loc), t.heap = H1 → s.vm.Alike t.vm → px u → BX E u t → H.size ≤ H1.size → (∀ q : Nat, q < H.size → ¬ AX q → H1[q]? = H[q]?) → va_S A0 H0 H1 locs1 → H1[q9]? = some ce → ce.vm = .none → s.vm.findClass E = some ce.cls → vx_W p l e R s m args below meth c H1 locs1 (cells + mc) (slots + ms) Q (F0 m pc ls rest) q9)
    (kk : ∀ (r : Int64) (u : S) (t : State) (H1 : Heap) (locs1 : List Loc), t.heap = H1 → s.vm.Alike t.vm → post r u → B u t → H.size ≤ H1.size → (∀ q : Nat, q < H.size → ¬ A1 q → H1[q]? = H[q]?) → va_S A0 H0 H1 locs1 → W p l e R s m args below meth c H1 locs1 (cells + mc) (slots + ms) Q (F0 m (pc + 3) ls (.long r :: rest))) : W p l e R s m args below meth c H locs cells slots Q (F0 m pc ls st0) := by
  intro T hT X
  rcases hr T hT X with ⟨v, st₀, t, T', L, h0, X', hL, e1, e2, ⟨⟨r, u, hv, hp, hb⟩, hF⟩, st⟩ | ⟨q, st₀, t, T', L, E, ce, h0, X', hL, e1, e2, ⟨u, hp, hb, hF⟩, hce, hcv, hcl, st⟩
  · cases hv
    obtain ⟨k1, k2, k3⟩ := vx_keep h0 e1 hS hA hf hL hF
    obtain ⟨t2, a1, b1⟩ := kk r u t T'.heap (locs ++ L) e1.symm (by rw [← e2]; exact X'.warmed.alike) hp hb k1 k2 k3 T' rfl X'
    exact ⟨t2, st t2 a1, b1⟩
  · obtain ⟨k1, k2, k3⟩ := vx_keep h0 e1 hS hAX hf hL hF
    obtain ⟨t2, a1, b1⟩ := kx E ce q u t T'.heap (locs ++ L) e1.symm (by rw [← e2]; exact X'.warmed.alike) hp hb k1 k2 k3 (by rw [e1]; exact hce) hcv hcl T' rfl X'
    exact ⟨t2, st.trans a1, b1⟩
theorem vx_callf {S SX : Type} {post : UInt32 → S → Prop} {px : SX → Prop} {B : S → State → Prop} {BX : String → SX → State → Prop} {AX : Nat → Prop} (hr : vx_Run p l e R s m args below meth c H locs cells slots mc ms (F0 m pc ls st0) rest (va_Qf post B A1 a) (vx_X px BX AX) free) (hS : va_S A0 H0 H locs) (hA : ∀ q, q < H.size → A1 q → A0 q) (hf : ∀ q, free q → A0 q) (hAX : ∀ q, q < H.size → AX q → A0 q)
    (kx : ∀ (E : String) (ce : Cell) (q9 : Addr) (u : SX) (t : State) (H1 : Heap) (locs1 : List Loc), t.heap = H1 → s.vm.Alike t.vm → px u → BX E u t → H.size ≤ H1.size → (∀ q : Nat, q < H.size → ¬ AX q → H1[q]? = H[q]?) → va_S A0 H0 H1 locs1 → H1[q9]? = some ce → ce.vm = .none → s.vm.findClass E = some ce.cls → vx_W p l e R s m args below meth c H1 locs1 (cells + mc) (slots + ms) Q (F0 m pc ls rest) q9)
    (kk : ∀ (r : UInt32) (u : S) (t : State) (H1 : Heap) (locs1 : List Loc), t.heap = H1 → s.vm.Alike t.vm → post r u → B u t → H.size ≤ H1.size → (∀ q : Nat, q < H.size → ¬ A1 q → H1[q]? = H[q]?) → va_S A0 H0 H1 locs1 → W p l e R s m args below meth c H1 locs1 (cells + mc) (slots + ms) Q (F0 m (pc + 3) ls (.float r :: rest))) : W p l e R s m args below meth c H locs cells slots Q (F0 m pc ls st0) := by
  intro T hT X
  rcases hr T hT X with ⟨v, st₀, t, T', L, h0, X', hL, e1, e2, ⟨⟨r, u, hv, hp, hb⟩, hF⟩, st⟩ | ⟨q, st₀, t, T', L, E, ce, h0, X', hL, e1, e2, ⟨u, hp, hb, hF⟩, hce, hcv, hcl, st⟩
  · cases hv
    obtain ⟨k1, k2, k3⟩ := vx_keep h0 e1 hS hA hf hL hF
    obtain ⟨t2, a1, b1⟩ := kk r u t T'.heap (locs ++ L) e1.symm (by rw [← e2]; exact X'.warmed.alike) hp hb k1 k2 k3 T' rfl X'
    exact ⟨t2, st t2 a1, b1⟩
  · obtain ⟨k1, k2, k3⟩ := vx_keep h0 e1 hS hAX hf hL hF
    obtain ⟨t2, a1, b1⟩ := kx E ce q u t T'.heap (locs ++ L) e1.symm (by rw [← e2]; exact X'.warmed.alike) hp hb k1 k2 k3 (by rw [e1]; exact hce) hcv hcl T' rfl X'
    exact ⟨t2, st.trans a1, b1⟩
theorem vx_calld {S SX : Type} {post : UInt64 → S → Prop} {px : SX → Prop} {B : S → State → Prop} {BX : String → SX → State → Prop} {AX : Nat → Prop} (hr : vx_Run p l e R s m args below meth c H locs cells slots mc ms (F0 m pc ls st0) rest (va_Qd post B A1 a) (vx_X px BX AX) free) (hS : va_S A0 H0 H locs) (hA : ∀ q, q < H.size → A1 q → A0 q) (hf : ∀ q, free q → A0 q) (hAX : ∀ q, q < H.size → AX q → A0 q)
    (kx : ∀ (E : String) (ce : Cell) (q9 : Addr) (u : SX) (t : State) (H1 : Heap) (locs1 : List Loc), t.heap = H1 → s.vm.Alike t.vm → px u → BX E u t → H.size ≤ H1.size → (∀ q : Nat, q < H.size → ¬ AX q → H1[q]? = H[q]?) → va_S A0 H0 H1 locs1 → H1[q9]? = some ce → ce.vm = .none → s.vm.findClass E = some ce.cls → vx_W p l e R s m args below meth c H1 locs1 (cells + mc) (slots + ms) Q (F0 m pc ls rest) q9)
    (kk : ∀ (r : UInt64) (u : S) (t : State) (H1 : Heap) (locs1 : List Loc), t.heap = H1 → s.vm.Alike t.vm → post r u → B u t → H.size ≤ H1.size → (∀ q : Nat, q < H.size → ¬ A1 q → H1[q]? = H[q]?) → va_S A0 H0 H1 locs1 → W p l e R s m args below meth c H1 locs1 (cells + mc) (slots + ms) Q (F0 m (pc + 3) ls (.double r :: rest))) : W p l e R s m args below meth c H locs cells slots Q (F0 m pc ls st0) := by
  intro T hT X
  rcases hr T hT X with ⟨v, st₀, t, T', L, h0, X', hL, e1, e2, ⟨⟨r, u, hv, hp, hb⟩, hF⟩, st⟩ | ⟨q, st₀, t, T', L, E, ce, h0, X', hL, e1, e2, ⟨u, hp, hb, hF⟩, hce, hcv, hcl, st⟩
  · cases hv
    obtain ⟨k1, k2, k3⟩ := vx_keep h0 e1 hS hA hf hL hF
    obtain ⟨t2, a1, b1⟩ := kk r u t T'.heap (locs ++ L) e1.symm (by rw [← e2]; exact X'.warmed.alike) hp hb k1 k2 k3 T' rfl X'
    exact ⟨t2, st t2 a1, b1⟩
  · obtain ⟨k1, k2, k3⟩ := vx_keep h0 e1 hS hAX hf hL hF
    obtain ⟨t2, a1, b1⟩ := kx E ce q u t T'.heap (locs ++ L) e1.symm (by rw [← e2]; exact X'.warmed.alike) hp hb k1 k2 k3 (by rw [e1]; exact hce) hcv hcl T' rfl X'
    exact ⟨t2, st.trans a1, b1⟩
theorem vx_callv {S SX : Type} {post : S → Prop} {px : SX → Prop} {B : S → State → Prop} {BX : String → SX → State → Prop} {AX : Nat → Prop} (hr : vx_Run p l e R s m args below meth c H locs cells slots mc ms (F0 m pc ls st0) rest (va_Qv post B A1 a) (vx_X px BX AX) free) (hS : va_S A0 H0 H locs) (hA : ∀ q, q < H.size → A1 q → A0 q) (hf : ∀ q, free q → A0 q) (hAX : ∀ q, q < H.size → AX q → A0 q)
    (kx : ∀ (E : String) (ce : Cell) (q9 : Addr) (u : SX) (t : State) (H1 : Heap) (locs1 : List Loc), t.heap = H1 → s.vm.Alike t.vm → px u → BX E u t → H.size ≤ H1.size → (∀ q : Nat, q < H.size → ¬ AX q → H1[q]? = H[q]?) → va_S A0 H0 H1 locs1 → H1[q9]? = some ce → ce.vm = .none → s.vm.findClass E = some ce.cls → vx_W p l e R s m args below meth c H1 locs1 (cells + mc) (slots + ms) Q (F0 m pc ls rest) q9)
    (kk : ∀ (u : S) (t : State) (H1 : Heap) (locs1 : List Loc), t.heap = H1 → s.vm.Alike t.vm → post u → B u t → H.size ≤ H1.size → (∀ q : Nat, q < H.size → ¬ A1 q → H1[q]? = H[q]?) → va_S A0 H0 H1 locs1 → W p l e R s m args below meth c H1 locs1 (cells + mc) (slots + ms) Q (F0 m (pc + 3) ls (rest))) : W p l e R s m args below meth c H locs cells slots Q (F0 m pc ls st0) := by
  intro T hT X
  rcases hr T hT X with ⟨v, st₀, t, T', L, h0, X', hL, e1, e2, ⟨⟨u, hv, hp, hb⟩, hF⟩, st⟩ | ⟨q, st₀, t, T', L, E, ce, h0, X', hL, e1, e2, ⟨u, hp, hb, hF⟩, hce, hcv, hcl, st⟩
  · cases hv
    obtain ⟨k1, k2, k3⟩ := vx_keep h0 e1 hS hA hf hL hF
    obtain ⟨t2, a1, b1⟩ := kk u t T'.heap (locs ++ L) e1.symm (by rw [← e2]; exact X'.warmed.alike) hp hb k1 k2 k3 T' rfl X'
    exact ⟨t2, st t2 a1, b1⟩
  · obtain ⟨k1, k2, k3⟩ := vx_keep h0 e1 hS hAX hf hL hF
    obtain ⟨t2, a1, b1⟩ := kx E ce q u t T'.heap (locs ++ L) e1.symm (by rw [← e2]; exact X'.warmed.alike) hp hb k1 k2 k3 (by rw [e1]; exact hce) hcv hcl T' rfl X'
    exact ⟨t2, st.trans a1, b1⟩
/-- caught by the row x of this method's table; the rows ahead don't take it -/
theorem vx_catch {own name : String} {E : String} {ce : Cell} {q : Addr} (hown : s.vm.findClass own = some m.cls) (pre : List ExceptionTableEntry) (x : ExceptionTableEntry) (suf : List ExceptionTableEntry) (hsplit : c.exceptionTable.toList = pre ++ x :: suf)
    (hpass : ∀ z ∈ pre, covers z pc = false ∨ (z.catchType ≠ 0 ∧ ∃ nm : String, (Cond.classLink own z.catchType nm).before args s = true ∧ va_Nc E nm s)) (hx : covers x pc = true) (h0 : x.catchType ≠ 0)
    (hlink : (Cond.classLink own x.catchType name).before args s = true) (hcast : (Cond.castable E name).before args s = true) (hcell : H[q]? = some ce) (hv : ce.vm = .none) (hcl : s.vm.findClass E = some ce.cls)
    (kk : W p l e R s m args below meth c H locs cells slots Q (F0 m x.handlerPc ls [.ref q])) : vx_W p l e R s m args below meth c H locs cells slots Q (F0 m pc ls rest) q := by
  intro T hT X
  have hpl : e.platform.magicAccessors = ({} : Platform).magicAccessors := by rw [X.admits.platform]
  obtain ⟨c3, c4, hc3, hc4, hasg⟩ := Cond.castable_spec hcast
  cases Option.some.inj (hc3.symm.trans hcl)
  obtain ⟨c5, hc5, hcl5⟩ := Cond.classLink_spec hown hlink e.platform hpl
  cases Option.some.inj (hc4.symm.trans hc5)
  obtain ⟨vm', X', st⟩ := X.thenCaughtThrough q (g := F0 m pc ls rest) rfl (Steps.refl _) (by rw [hT]; exact hcell) (by rw [hv]; rfl) (by obtain ⟨k9, h9, -⟩ := Vm.findClass_spec hcl; exact ⟨k9, h9⟩) pre x suf hsplit
    (fun z hz => by
      rcases hpass z hz with h | ⟨hz0, nm, hl1, hn1⟩
      · exact Or.inl h
      · obtain ⟨c6, hc6, hcl6⟩ := Cond.classLink_spec hown hl1 e.platform hpl
        obtain ⟨a8, b8, h1, h2, h3⟩ := hn1
        cases Option.some.inj (h1.symm.trans hcl)
        cases Option.some.inj (h2.symm.trans hc6)
        exact Or.inr ⟨hz0, _, hcl6, h3⟩) hx (Or.inr ⟨h0, c4, hcl5, hasg⟩)
  obtain ⟨t, a1, b1⟩ := kk (T.setVm vm') hT X'
  exact ⟨t, st.trans a1, b1⟩
end Rows
section Ends
variable {p : Program} {l : Launch} {e : Env} {R : Room} {s : State} {m : MethodId} {args : Array Value} {below : List Frame} {meth : Method} {c : Code} {H : Heap} {locs : List Loc} {cells slots : Nat} {Q : State → Prop}
variable {mc ms : Nat} {free : Addr → Prop} {A0 A1 : Nat → Prop} {H0 : Heap} {a : Array Value} {ls : Array Slot} {st0 rest : List Value}
variable {Qc : Array Value → State → Outcome → State → Prop} {XC : String → State → State → Prop}
/-- what a body that may throw owes at its end -/
def vx_MQ (below : List Frame) (Qc : Array Value → State → Outcome → State → Prop) (XC : String → State → State → Prop) (a : Array Value) (s : State) (mc ms : Nat) (free : Addr → Prop) : State → Prop := fun t =>
  ∃ o, t.status = .running ∧ Ended t below o ∧ vx_Q Qc XC mc ms free a s o t
theorem vx_ret {g : JFrame} {mc ms : Nat} (k : W p l e R s m args below meth c H locs cells slots (MQ below Qc args s mc ms free) g) : W p l e R s m args below meth c H locs cells slots (vx_MQ below Qc XC args s mc ms free) g := by
  intro T hT X
  obtain ⟨t, a1, o, b1, b2, b3, b4⟩ := k T hT X
  exact ⟨t, a1, o, b1, b2, Or.inl ⟨b3, b4⟩⟩
/-- not caught here: it goes on to the caller -/
theorem vx_widen {g : JFrame} {q : Addr} {k n : Nat} (h1 : cells ≤ k) (h2 : slots ≤ n) (kk : vx_W p l e R s m args below meth c H locs k n Q g q) : vx_W p l e R s m args below meth c H locs cells slots Q g q := fun T hT X => kk T hT (stand_widen X h1 h2)
theorem vx_out {pc : Nat} {E : String} {ce : Cell} {q : Addr} {mc ms : Nat} (hout : ∀ x ∈ c.exceptionTable.toList, covers x pc = false) (hlocks : meth.locks = false) (hcell : H[q]? = some ce) (hv : ce.vm = .none) (hcl : s.vm.findClass E = some ce.cls)
    (hx : ∀ t : State, t.heap = H → s.vm.Alike t.vm → XC E s t) (hf : ∀ z ∈ locs, free z.base) (hc : cells ≤ mc) (hs : slots ≤ ms) :
    vx_W p l e R s m args below meth c H locs cells slots (vx_MQ below Qc XC args s mc ms free) (F0 m pc ls rest) q := by
  intro T hT X
  obtain ⟨st1, hrun, hend, hW, hsm⟩ := X.leaveThrown q (g := F0 m pc ls rest) rfl rfl rfl hout hlocks
  have hcell9 : (T.setFrames (.throwing q :: below)).heap[q]? = some ce := by
    show T.heap[q]? = some ce
    rw [hT]; exact hcell
  exact ⟨_, st1, .threw q, hrun, hend, Or.inr ⟨q, rfl, E, ce, locs, hx _ hT hW.alike, hcell9, hv, hcl, hW, hsm.mono hc hs, hf⟩⟩
theorem vx_frame {U : State} {k n : Nat} (h : s.sameButNew ({ U with vm := s.vm } : State) locs k n) : s.heap.size ≤ U.heap.size ∧ ∀ q : Nat, q < s.heap.size → (∀ z ∈ locs, z.base ≠ q) → U.heap[q]? = s.heap[q]? := by
  obtain ⟨-, h2, -, -, -, h6⟩ := h
  refine ⟨h2, fun q hq hz => ?_⟩
  obtain ⟨c9, e1, e2, e3, e4⟩ := h6 q _ (Array.getElem?_eq_getElem hq)
  have hs : c9.slots = (s.heap[q]).slots := Array.ext_getElem? fun i => e4 i fun hm => hz _ hm rfl
  have h9 : c9 = s.heap[q] := by
    rw [hs] at e2
    exact e2
  have e5 : U.heap[q]? = some c9 := e1
  rw [e5, h9, Array.getElem?_eq_getElem hq]
/-- the words of a throw but the four that speak of the heap -/
def vx_no (w : Cond) : Bool := decide (w ≠ .isRef (.static Bundle.tN "UNASSIGNED_STACK" Bundle.steD)) && decide (w ≠ .isRef (.static Bundle.tN "SUPPRESSED_SENTINEL" Bundle.listD)) && decide (w ≠ .laysStatic Bundle.tN "UNASSIGNED_STACK" Bundle.steD) && decide (w ≠ .laysStatic Bundle.tN "SUPPRESSED_SENTINEL" Bundle.listD)
def vx_at0 (own : String) (ic : Nat) (X : String) (names : List String) : List Cond := (Bundle.ownAtoms0 own ic X names).filter vx_no
def vx_atS (own : String) (ic : Nat) (X : String) (names : List String) : List Cond := (Bundle.ownAtoms own ic X names).filter vx_no
/-- a word that the tables alone decide, or a good one -/
def vx_ot (w : Cond) : Bool := w.onTables || goodWord w
theorem vx_ot_at {args a' : Array Value} {s U : State} {w : Cond} (hW : s.WarmedH U.vm) (hvm : s.vm = U.vm) (hg : vx_ot w = true) (h : w.before args s = true) : w.before a' U = true := by
  simp only [vx_ot, Bool.or_eq_true] at hg
  rcases hg with hg | hg
  · exact va_tabs hg hvm h
  · exact word_at hW (good_of_word hg) h
/-- a list's words: the good ones out of the method's own list, the others by premises of their own -/
theorem vx_hat {args : Array Value} {s : State} {L B : List Cond} (h1 : ∀ w ∈ L.filter goodWord, w.before args s = true) (h2 : ∀ w ∈ L.filter (fun w => !goodWord w), w ∈ B) (h3 : ∀ w ∈ B, w.before args s = true) : ∀ w ∈ L, w.before args s = true := by
  intro w hw
  by_cases g : goodWord w = true
  · exact h1 w (List.mem_filter.mpr ⟨hw, g⟩)
  · refine h3 w (h2 w (List.mem_filter.mpr ⟨hw, ?_⟩))
    show (!goodWord w) = true
    cases hgw : goodWord w
    · rfl
    · exact absurd hgw g
theorem vx_c {args : Array Value} {s : State} {w : Cond} {B : List Cond} (h : w.before args s = true) (t : ∀ w ∈ B, w.before args s = true) : ∀ w' ∈ w :: B, w'.before args s = true := fun w' h' => (List.mem_cons.mp h').elim (fun e => by rw [e]; exact h) (t w')
theorem vx_n {args : Array Value} {s : State} : ∀ w ∈ ([] : List Cond), w.before args s = true := fun _ h => nomatch h
theorem vx_own {args : Array Value} {s : State} {L : List Cond} (h1 : ∀ w ∈ L.filter vx_no, w.before args s = true)
    (hU : (Cond.isRef (.static Bundle.tN "UNASSIGNED_STACK" Bundle.steD)).before args s = true) (hN : (Cond.isRef (.static Bundle.tN "SUPPRESSED_SENTINEL" Bundle.listD)).before args s = true)
    (lU : (Cond.laysStatic Bundle.tN "UNASSIGNED_STACK" Bundle.steD).before args s = true) (lN : (Cond.laysStatic Bundle.tN "SUPPRESSED_SENTINEL" Bundle.listD).before args s = true) : ∀ w ∈ L, w.before args s = true := by
  intro w hw
  by_cases e1 : w = .isRef (.static Bundle.tN "UNASSIGNED_STACK" Bundle.steD)
  · rw [e1]; exact hU
  · by_cases e2 : w = .isRef (.static Bundle.tN "SUPPRESSED_SENTINEL" Bundle.listD)
    · rw [e2]; exact hN
    · by_cases e3 : w = .laysStatic Bundle.tN "UNASSIGNED_STACK" Bundle.steD
      · rw [e3]; exact lU
      · by_cases e4 : w = .laysStatic Bundle.tN "SUPPRESSED_SENTINEL" Bundle.listD
        · rw [e4]; exact lN
        · exact h1 w (List.mem_filter.mpr ⟨hw, by unfold vx_no; rw [decide_eq_true e1, decide_eq_true e2, decide_eq_true e3, decide_eq_true e4]; rfl⟩)
/-- where a static field lies, its class's statics cell in H -/
def vx_L (C n d : String) (A : Nat → Prop) (U : State) (H : Heap) : Prop := ∃ (c : ClassId) (k : Class) (i : Nat) (f : Field) (a : Nat) (cell : Cell), U.vm.findClass C = some c ∧ U.fieldFound? C n d = some (c, k, i, f) ∧ f.isStatic = true ∧ k.statics = some a ∧ H[a]? = some cell ∧ cell.vm.isStatics = true ∧ cell.cls = c ∧ f.slot < cell.slots.size ∧ k.staticTypes[f.slot]? = some f.type ∧ ¬ A a
theorem vx_L.moved {C n d : String} {A : Nat → Prop} {u U : State} {H : Heap} (hvm : u.vm.Alike U.vm) (h : vx_L C n d A u H) : vx_L C n d A U H := by
  obtain ⟨c, k, i, f, a, cell, h1, h2, h3, h4, h5, h6, h7, h8, h9, h10⟩ := h
  obtain ⟨k', hi', he⟩ := State.fieldFound?_setVm hvm h2
  exact ⟨c, k', i, f, a, cell, by rw [hvm.findClass]; exact h1, hi', h3, by rw [he]; exact h4, h5, h6, h7, h8, by rw [he]; exact h9, h10⟩
theorem vx_L.kept {C n d : String} {A : Nat → Prop} {U : State} {H H1 : Heap} (h : vx_L C n d A U H) (hq : ∀ a : Nat, a < H.size → ¬ A a → H1[a]? = H[a]?) : vx_L C n d A U H1 := by
  obtain ⟨c, k, i, f, a, cell, h1, h2, h3, h4, h5, h6, h7, h8, h9, h10⟩ := h
  exact ⟨c, k, i, f, a, cell, h1, h2, h3, h4, by rw [hq a (Array.getElem?_eq_some_iff.mp h5).1 h10]; exact h5, h6, h7, h8, h9, h10⟩
theorem vx_L.narrow {C n d : String} {A B : Nat → Prop} {U : State} {H : Heap} (h : vx_L C n d A U H) (hAB : ∀ q, B q → A q) : vx_L C n d B U H := by
  obtain ⟨c, k, i, f, a, cell, h1, h2, h3, h4, h5, h6, h7, h8, h9, h10⟩ := h
  exact ⟨c, k, i, f, a, cell, h1, h2, h3, h4, h5, h6, h7, h8, h9, fun z => h10 (hAB _ z)⟩
theorem vx_L.word {C n d : String} {A : Nat → Prop} {s : State} {args : Array Value} (h : vx_L C n d A s s.heap) : (Cond.laysStatic C n d).before args s = true := by
  obtain ⟨c, k, i, f, a, cell, h1, h2, h3, h4, h5, h6, h7, h8, h9, -⟩ := h
  show (Cond.laysStatic C n d).holds args s none s [] = true
  exact Cond.laysStatic_of h1 h2 h3 h4 h5 h6 h7 h8 h9
/-- .. and what it holds: null or some reference -/
def vx_Zq (C n d : String) (A : Nat → Prop) (U : State) (H : Heap) : Prop := va_Zq C n d A U H ∧ vx_L C n d A U H
theorem vx_Zq.moved {C n d : String} {A : Nat → Prop} {u U : State} {H : Heap} (hvm : u.vm.Alike U.vm) (h : vx_Zq C n d A u H) : vx_Zq C n d A U H := ⟨va_Zq.moved hvm h.1, vx_L.moved hvm h.2⟩
theorem vx_Zq.kept {C n d : String} {A : Nat → Prop} {U : State} {H H1 : Heap} (h : vx_Zq C n d A U H) (hq : ∀ a : Nat, a < H.size → ¬ A a → H1[a]? = H[a]?) : vx_Zq C n d A U H1 := ⟨va_Zq.kept h.1 hq, vx_L.kept h.2 hq⟩
theorem vx_Zq.narrow {C n d : String} {A B : Nat → Prop} {U : State} {H : Heap} (h : vx_Zq C n d A U H) (hAB : ∀ q, B q → A q) : vx_Zq C n d B U H := ⟨va_Zq.narrow h.1 hAB, vx_L.narrow h.2 hAB⟩
theorem vx_Zqof {args : Array Value} {s : State} {C n d : String} {A : Nat → Prop} (hl : (Cond.laysStatic C n d).before args s = true) (hini : (Cond.initialized C).before args s = true) (h : (Cond.isRef (.static C n d)).before args s = true) (hA : ∀ a : Nat, a < s.heap.size → ¬ A a) : vx_Zq C n d A s s.heap := by
  refine ⟨va_Zqof hl hini h hA, ?_⟩
  obtain ⟨c, k, i, f, a, cell, h1, h2, h3, h4, h5, h6, h7, h8, h9⟩ := Cond.laysStatic_spec hl
  exact ⟨c, k, i, f, a, cell, h1, h2, h3, h4, h5, h6, h7, h8, h9, hA a (Array.getElem?_eq_some_iff.mp h5).1⟩
theorem vx_isRef {C n d : String} {v : Value} {A : Nat → Prop} {s : State} {args : Array Value} (h : va_Z C n d v A s s.heap) (hv : v.isRef = true) : (Cond.isRef (.static C n d)).before args s = true := by
  obtain ⟨cf, kf, fi, f, a, cell, h1, h2, h3, h4, h5, h6, h7, -⟩ := h
  have he : (Term.static C n d).eval args s none [] s = some v := by
    simp [Term.eval, State.fieldNamed?, h1, h2, h4, h5, h6, h7]
  simp only [Cond.before, Cond.holds, Cond.value, he]
  cases v <;> simp_all [Value.isRef]
theorem vx_isRefq {C n d : String} {A : Nat → Prop} {s : State} {args : Array Value} (h : va_Zq C n d A s s.heap) : (Cond.isRef (.static C n d)).before args s = true := by
  rcases h with h | ⟨t, h⟩
  · exact vx_isRef h rfl
  · exact vx_isRef h rfl
/-- the same frame, seen from here: as if the method were called anew in this heap -/
theorem vx_rebase {T : State} (X : Stand p l e R s m args below meth c T locs cells slots) {R' : Room} (hf : R'.frames ≤ R.frames) (hl : R'.locals ≤ R.locals) (hc : cells + R'.cells ≤ R.cells) (hs : slots + R'.slots ≤ R.slots) :
    Stand p l e R' ((T.setVm s.vm).setFrames (.invoking m args :: below)) m args below meth c T [] 0 0 := by
  have htop : (T.setVm s.vm).topJava?.isSome := X.here.top
  have hF : ((T.setVm s.vm).setFrames (.invoking m args :: below)).frames = .invoking m args :: below := State.frames_setFrames _ (State.cur_lt_of_top htop)
  obtain ⟨g₀, hg0⟩ := Option.isSome_iff_exists.mp htop
  obtain ⟨r, hr⟩ := State.topJava?_eq_some.mp hg0
  have hl9 : e.platform.stackLimits (T.setVm s.vm).me = e.platform.stackLimits s.me := X.limits
  have hb9 : (T.setVm s.vm).me.stackBytes = s.me.stackBytes := X.bytes
  refine ⟨X.admits, X.cas, X.clock, hF, ?_, X.hears, X.method, X.code, X.here, X.tail, X.warmed, ?_, ?_, ?_⟩
  · have h := X.room
    have hU : ((T.setVm s.vm).setFrames (.invoking m args :: below)).localsInUse = s.localsInUse := by
      rw [State.localsInUse_invoking hF (meth := meth) (c := c) X.method X.code, State.localsInUse_invoking X.frames X.method X.code]
    simp only [State.hasRoom, Bool.and_eq_true, decide_eq_true_eq] at h ⊢
    obtain ⟨⟨⟨⟨h1, h2, h3, h4, h5, h6⟩, h7⟩, h8⟩, h9⟩ := h
    rw [X.frames, List.length_cons] at h2 h3
    have q1 := X.heapSize
    have q2 := X.used
    simp only [hF, hU, List.length_cons, State.stackLimits_setFrames, State.stackBytes_setFrames, hl9, hb9]
    refine ⟨⟨⟨⟨by omega, by omega, by omega, by omega, by omega, h6⟩, ?_⟩, ?_⟩, X.book⟩
    · show T.heap.size + R'.cells ≤ e.platform.maxCells
      omega
    · show T.slotsUsed + R'.slots ≤ e.platform.maxSlots
      omega
  · rw [State.stackLimits_setFrames]; rfl
  · rw [State.stackBytes_setFrames]; rfl
  · refine ⟨?_, Nat.le_refl _, Nat.le_refl _, ?_, ?_, fun a c9 h9 => ⟨c9, h9, rfl, rfl, fun _ _ => rfl⟩⟩
    · obtain ⟨t, ht, -⟩ := State.frames_cons hr
      show T.setVm s.vm = { ((T.setVm s.vm).setFrames (.invoking m args :: below)).setFrames (T.setVm s.vm).frames with heap := T.heap, slotsUsed := T.slotsUsed }
      rw [State.setFrames_setFrames, State.setFrames_self ht]
      rfl
    · show T.slotsUsed = T.slotsUsed + ((T.heap.toList.drop T.heap.size).map (·.slots.size)).sum
      rw [List.drop_eq_nil_of_le (Nat.le_of_eq Array.length_toList)]
      rfl
    · show ((T.heap.toList.drop T.heap.size).map (·.slots.size)).sum ≤ 0
      rw [List.drop_eq_nil_of_le (Nat.le_of_eq Array.length_toList)]
      exact Nat.le_refl _
/-- 'throw new E()': new; dup; invokespecial; athrow -/
theorem vx_throw0 {cc : ByteArray} {pc : Nat} (hexec : p.tables.exec = Jvm.exec) (hb : c.code = cc) (hl : l.stackTraces = false) {own cls : String} {names : List String} {ik ic mc ms : Nat} {A : Nat → Prop}
    (hown : s.vm.findClass own = some m.cls) (hcls : Bundle.fit cls = true) (hnames : ∀ n ∈ names, Bundle.fit n = true)
    (hk : (Cond.classLink own ik cls).before args s = true) (hini : (Cond.initialized cls).before args s = true) (hat : ∀ w ∈ vx_at0 own ic cls names, w.before args s = true)
    (hgood : ∀ w ∈ Cond.classLink own ik cls :: Cond.initialized cls :: vx_at0 own ic cls names, vx_ot w = true)
    (hU : vx_Zq Bundle.tN "UNASSIGNED_STACK" Bundle.steD A s s.heap) (hN : vx_Zq Bundle.tN "SUPPRESSED_SENTINEL" Bundle.listD A s s.heap) (hS : va_S A s.heap H locs) (hsize : ls.size = c.maxLocals)
    (d0 : decode cc pc = .ok (.new ik, 3)) (d3 : decode cc (pc + 3) = .ok (.dup, 1)) (d4 : decode cc (pc + 4) = .ok (.invokespecial ic, 3)) (d7 : decode cc (pc + 7) = .ok (.athrow, 1))
    (hout : ∀ x ∈ c.exceptionTable.toList, covers x (pc + 7) = false)
    (hRframes : names.length + 3 < R.frames) (hRlocals : (rest.map fun v => v.category).sum + (13 * (names.length + 1) + 42) ≤ R.locals) (hRcells : cells + 1 ≤ R.cells) (hRslots : slots + 6 ≤ R.slots) (hlocks : meth.locks = false)
    (hx : ∀ t : State, s.vm.Alike t.vm → H.size ≤ t.heap.size → (∀ q : Nat, q < H.size → t.heap[q]? = H[q]?) → XC cls s t)
    (hf : ∀ z ∈ locs, free z.base) (hc : cells + 1 ≤ mc) (hs : slots + 6 ≤ ms) :
    W p l e R s m args below meth c H locs cells slots (vx_MQ below Qc XC args s mc ms free) (F0 m pc ls rest) := by
  intro T hT X
  have htr : e.platform.stackTraces = false := (show e.platform.stackTraces = l.stackTraces by rw [X.admits.platform]).trans hl
  have Y := vx_rebase X (R' := { frames := R.frames, locals := R.locals, cells := 1, slots := 6 }) (Nat.le_refl _) (Nat.le_refl _) hRcells hRslots
  obtain ⟨s', hA⟩ : ∃ z, z = (T.setVm s.vm).setFrames (.invoking m args :: below) := ⟨_, rfl⟩
  rw [← hA] at Y
  have hvm : s'.vm = s.vm := by rw [hA]; rfl
  have hhp : s'.heap = H := by rw [hA]; exact hT
  have hW0 : s.WarmedH s'.vm := by rw [hvm]; exact State.WarmedH.refl s
  have hat' : ∀ w ∈ vx_at0 own ic cls names, w.before args s' = true := fun w hw => vx_ot_at hW0 hvm.symm (hgood w (List.mem_cons_of_mem _ (List.mem_cons_of_mem _ hw))) (hat w hw)
  have hk' : (Cond.classLink own ik cls).before args s' = true := vx_ot_at hW0 hvm.symm (hgood _ List.mem_cons_self) hk
  have hini' : (Cond.initialized cls).before args s' = true := vx_ot_at hW0 hvm.symm (hgood _ (List.mem_cons_of_mem _ List.mem_cons_self)) hini
  have hU' : vx_Zq Bundle.tN "UNASSIGNED_STACK" Bundle.steD A s' s'.heap := by rw [hhp]; exact vx_Zq.moved hW0.alike (hU.kept hS.2.1)
  have hN' : vx_Zq Bundle.tN "SUPPRESSED_SENTINEL" Bundle.listD A s' s'.heap := by rw [hhp]; exact vx_Zq.moved hW0.alike (hN.kept hS.2.1)
  have h : ∀ w ∈ Bundle.ownAtoms0 own ic cls names, w.before args s' = true := vx_own hat' (vx_isRefq hU'.1) (vx_isRefq hN'.1) hU'.2.word hN'.2.word
  have hown' : s'.vm.findClass own = some m.cls := by rw [hvm]; exact hown
  have hins : (Cond.instantiable cls 6).before args s' = true := h _ (by simp [Bundle.ownAtoms0])
  obtain ⟨vm₁, cX, kX, hfX, hkX, -, -, X₁, st1⟩ := Y.newCold hexec (own := own) (C := cls) (index := ik) (n := 6) hown' hk' hins hini'
    (g := F0 m pc ls rest) rfl (by rw [hb]; exact d0) (Nat.le_refl _) (Nat.le_refl _)
  generalize hT1 : (T.setVm vm₁).pushCell { cls := cX, slots := kX.instanceTypes.map defaultValue, vm := .none } = T1 at X₁ st1
  have hcat : (Value.ref T.heap.size).category = 1 := rfl
  have hcellA : T1.heap[T.heap.size]? = some (freshCell cX kX) := by rw [← hT1]; exact State.heap_pushCell_size _ _
  have d3' : decode c.code (pc + 3) = .ok (.dup, 1) := by rw [hb]; exact d3
  obtain ⟨U, hsteps, hrun, hend, hW, hsame, ce, hce, hO⟩ := X₁.ctorThrow0 hexec htr (own := own) (cls := cls) (names := names) (ic := ic) hown' hcls hnames h (fun x hx => nomatch hx) hfX hkX hcellA (by rw [hhp, hT]; exact Nat.le_refl _)
    (g := { method := m, pc := pc + 4, locals := ls, stack := .ref T.heap.size :: .ref T.heap.size :: rest, locked := none }) rfl hsize rfl rfl (rest := rest) rfl
    (by rw [hb]; exact d4) (by rw [hb]; exact d7) hout hRframes (by simp only [List.map_cons, List.sum_cons, hcat]; omega) hlocks
  obtain ⟨f1, f2⟩ := vx_frame hsame
  rw [hhp] at f1 f2
  have hWs : s.WarmedH U.vm := State.WarmedH.trans hW0 hW
  have hcl : s.vm.findClass cls = some ce.cls := by
    have h9 := hO.cls
    rw [hvm] at h9
    exact h9
  have hall : s.sameButNew ({ U with vm := s.vm } : State) locs mc ms := by
    subst hA
    obtain ⟨e1, e2⟩ := hsame
    rw [State.setFrames_setFrames] at e1
    have h2 : (T.setVm s.vm).sameButNew ({ U with vm := s.vm } : State) [] (0 + 1) (0 + 6) := ⟨e1, e2⟩
    have h3 := X.same.trans h2
    rw [List.append_nil] at h3
    exact h3.mono hc hs
  refine ⟨U, ?_, .threw T.heap.size, hrun, hend, Or.inr ⟨T.heap.size, rfl, cls, ce, locs, hx U hWs.alike f1 (fun q hq => f2 q hq (fun z hz => nomatch hz)), hce, hO.vm, hcl, hWs, hall, hf⟩⟩
  refine st1 _ ?_
  show Steps p.tables e below (T1.setTop { method := m, pc := pc + 3, locals := ls, stack := .ref T.heap.size :: rest, locked := none }) _
  jvm_step X₁.here [X₁.here.top, hexec, d3', Value.category]
  exact hsteps
/-- 'throw new E("text")': new; dup; ldc; invokespecial; athrow -/
theorem vx_throwS {cc : ByteArray} {pc : Nat} (hexec : p.tables.exec = Jvm.exec) (hb : c.code = cc) (hl : l.stackTraces = false) {own cls text : String} {names : List String} {ik is ic mc ms sa : Nat} {A : Nat → Prop}
    (hown : s.vm.findClass own = some m.cls) (hcls : Bundle.fit cls = true) (hnames : ∀ n ∈ names, Bundle.fit n = true)
    (hk : (Cond.classLink own ik cls).before args s = true) (hini : (Cond.initialized cls).before args s = true) (hstr : vk_R own is text sa s) (hat : ∀ w ∈ vx_atS own ic cls names, w.before args s = true)
    (hgood : ∀ w ∈ Cond.classLink own ik cls :: Cond.initialized cls :: vx_atS own ic cls names, vx_ot w = true)
    (hU : vx_Zq Bundle.tN "UNASSIGNED_STACK" Bundle.steD A s s.heap) (hN : vx_Zq Bundle.tN "SUPPRESSED_SENTINEL" Bundle.listD A s s.heap) (hS : va_S A s.heap H locs) (hsize : ls.size = c.maxLocals)
    (d0 : decode cc pc = .ok (.new ik, 3)) (d3 : decode cc (pc + 3) = .ok (.dup, 1)) (d4 : decode cc (pc + 4) = .ok (.ldc is, 2)) (d6 : decode cc (pc + 6) = .ok (.invokespecial ic, 3)) (d9 : decode cc (pc + 9) = .ok (.athrow, 1))
    (hout : ∀ x ∈ c.exceptionTable.toList, covers x (pc + 9) = false)
    (hRframes : names.length + 3 < R.frames) (hRlocals : (rest.map fun v => v.category).sum + (13 * (names.length + 1) + 43) ≤ R.locals) (hRcells : cells + 1 ≤ R.cells) (hRslots : slots + 6 ≤ R.slots) (hlocks : meth.locks = false)
    (hx : ∀ t : State, s.vm.Alike t.vm → H.size ≤ t.heap.size → (∀ q : Nat, q < H.size → t.heap[q]? = H[q]?) → XC cls s t)
    (hf : ∀ z ∈ locs, free z.base) (hc : cells + 1 ≤ mc) (hs : slots + 6 ≤ ms) :
    W p l e R s m args below meth c H locs cells slots (vx_MQ below Qc XC args s mc ms free) (F0 m pc ls rest) := by
  intro T hT X
  have htr : e.platform.stackTraces = false := (show e.platform.stackTraces = l.stackTraces by rw [X.admits.platform]).trans hl
  have Y := vx_rebase X (R' := { frames := R.frames, locals := R.locals, cells := 1, slots := 6 }) (Nat.le_refl _) (Nat.le_refl _) hRcells hRslots
  obtain ⟨s', hA⟩ : ∃ z, z = (T.setVm s.vm).setFrames (.invoking m args :: below) := ⟨_, rfl⟩
  rw [← hA] at Y
  have hvm : s'.vm = s.vm := by rw [hA]; rfl
  have hhp : s'.heap = H := by rw [hA]; exact hT
  have hW0 : s.WarmedH s'.vm := by rw [hvm]; exact State.WarmedH.refl s
  have hat' : ∀ w ∈ vx_atS own ic cls names, w.before args s' = true := fun w hw => vx_ot_at hW0 hvm.symm (hgood w (List.mem_cons_of_mem _ (List.mem_cons_of_mem _ hw))) (hat w hw)
  have hk' : (Cond.classLink own ik cls).before args s' = true := vx_ot_at hW0 hvm.symm (hgood _ List.mem_cons_self) hk
  have hini' : (Cond.initialized cls).before args s' = true := vx_ot_at hW0 hvm.symm (hgood _ (List.mem_cons_of_mem _ List.mem_cons_self)) hini
  have hU' : vx_Zq Bundle.tN "UNASSIGNED_STACK" Bundle.steD A s' s'.heap := by rw [hhp]; exact vx_Zq.moved hW0.alike (hU.kept hS.2.1)
  have hN' : vx_Zq Bundle.tN "SUPPRESSED_SENTINEL" Bundle.listD A s' s'.heap := by rw [hhp]; exact vx_Zq.moved hW0.alike (hN.kept hS.2.1)
  have h : ∀ w ∈ Bundle.ownAtoms own ic cls names, w.before args s' = true := vx_own hat' (vx_isRefq hU'.1) (vx_isRefq hN'.1) hU'.2.word hN'.2.word
  have hown' : s'.vm.findClass own = some m.cls := by rw [hvm]; exact hown
  have hins : (Cond.instantiable cls 6).before args s' = true := h _ (by simp [Bundle.ownAtoms])
  obtain ⟨vm₁, cX, kX, hfX, hkX, -, -, X₁, st1⟩ := Y.newCold hexec (own := own) (C := cls) (index := ik) (n := 6) hown' hk' hins hini'
    (g := F0 m pc ls rest) rfl (by rw [hb]; exact d0) (Nat.le_refl _) (Nat.le_refl _)
  generalize hT1 : (T.setVm vm₁).pushCell { cls := cX, slots := kX.instanceTypes.map defaultValue, vm := .none } = T1 at X₁ st1
  have hcat : (Value.ref T.heap.size).category = 1 := rfl
  have hcellA : T1.heap[T.heap.size]? = some (freshCell cX kX) := by rw [← hT1]; exact State.heap_pushCell_size _ _
  have d3' : decode c.code (pc + 3) = .ok (.dup, 1) := by rw [hb]; exact d3
  have d4' : decode c.code (pc + 4) = .ok (.ldc is, 2) := by rw [hb]; exact d4
  have hstr' : vk_R own is text sa s' := vk_R.warm hW0 hstr
  obtain ⟨U, hsteps, hrun, hend, hW, hsame, ce, hce, hO⟩ := X₁.ctorThrowS hexec htr (own := own) (cls := cls) (names := names) (ic := ic) hown' hcls hnames h (fun x hx => nomatch hx) hfX hkX hcellA (by rw [hhp, hT]; exact Nat.le_refl _) (msg := .ref sa) rfl
    (g := { method := m, pc := pc + 6, locals := ls, stack := .ref sa :: .ref T.heap.size :: .ref T.heap.size :: rest, locked := none }) rfl hsize rfl rfl (rest := rest) rfl
    (by rw [hb]; exact d6) (by rw [hb]; exact d9) hout hRframes (by simp only [List.map_cons, List.sum_cons, hcat]; omega) hlocks
  obtain ⟨f1, f2⟩ := vx_frame hsame
  rw [hhp] at f1 f2
  have hWs : s.WarmedH U.vm := State.WarmedH.trans hW0 hW
  have hcl : s.vm.findClass cls = some ce.cls := by
    have h9 := hO.cls
    rw [hvm] at h9
    exact h9
  have hall : s.sameButNew ({ U with vm := s.vm } : State) locs mc ms := by
    subst hA
    obtain ⟨e1, e2⟩ := hsame
    rw [State.setFrames_setFrames] at e1
    have h2 : (T.setVm s.vm).sameButNew ({ U with vm := s.vm } : State) [] (0 + 1) (0 + 6) := ⟨e1, e2⟩
    have h3 := X.same.trans h2
    rw [List.append_nil] at h3
    exact h3.mono hc hs
  refine ⟨U, ?_, .threw T.heap.size, hrun, hend, Or.inr ⟨T.heap.size, rfl, cls, ce, locs, hx U hWs.alike f1 (fun q hq => f2 q hq (fun z hz => nomatch hz)), hce, hO.vm, hcl, hWs, hall, hf⟩⟩
  refine st1 _ ?_
  show Steps p.tables e below (T1.setTop { method := m, pc := pc + 3, locals := ls, stack := .ref T.heap.size :: rest, locked := none }) _
  jvm_step X₁.here [X₁.here.top, hexec, d3', Value.category]
  exact X₁.ldcString hexec (own := own) (text := text) (index := is) (a := sa) hown' hstr'.1 hstr'.2
    (g := { method := m, pc := pc + 4, locals := ls, stack := .ref T.heap.size :: .ref T.heap.size :: rest, locked := none }) rfl d4' _ hsteps
/-- 'throw new E("text")', the text by a wide index -/
theorem vx_throwSW {cc : ByteArray} {pc : Nat} (hexec : p.tables.exec = Jvm.exec) (hb : c.code = cc) (hl : l.stackTraces = false) {own cls text : String} {names : List String} {ik is ic mc ms sa : Nat} {A : Nat → Prop}
    (hown : s.vm.findClass own = some m.cls) (hcls : Bundle.fit cls = true) (hnames : ∀ n ∈ names, Bundle.fit n = true)
    (hk : (Cond.classLink own ik cls).before args s = true) (hini : (Cond.initialized cls).before args s = true) (hstr : vk_R own is text sa s) (hat : ∀ w ∈ vx_atS own ic cls names, w.before args s = true)
    (hgood : ∀ w ∈ Cond.classLink own ik cls :: Cond.initialized cls :: vx_atS own ic cls names, vx_ot w = true)
    (hU : vx_Zq Bundle.tN "UNASSIGNED_STACK" Bundle.steD A s s.heap) (hN : vx_Zq Bundle.tN "SUPPRESSED_SENTINEL" Bundle.listD A s s.heap) (hS : va_S A s.heap H locs) (hsize : ls.size = c.maxLocals)
    (d0 : decode cc pc = .ok (.new ik, 3)) (d3 : decode cc (pc + 3) = .ok (.dup, 1)) (d4 : decode cc (pc + 4) = .ok (.ldc_w is, 3)) (d7 : decode cc (pc + 7) = .ok (.invokespecial ic, 3)) (d10 : decode cc (pc + 10) = .ok (.athrow, 1))
    (hout : ∀ x ∈ c.exceptionTable.toList, covers x (pc + 10) = false)
    (hRframes : names.length + 3 < R.frames) (hRlocals : (rest.map fun v => v.category).sum + (13 * (names.length + 1) + 43) ≤ R.locals) (hRcells : cells + 1 ≤ R.cells) (hRslots : slots + 6 ≤ R.slots) (hlocks : meth.locks = false)
    (hx : ∀ t : State, s.vm.Alike t.vm → H.size ≤ t.heap.size → (∀ q : Nat, q < H.size → t.heap[q]? = H[q]?) → XC cls s t)
    (hf : ∀ z ∈ locs, free z.base) (hc : cells + 1 ≤ mc) (hs : slots + 6 ≤ ms) :
    W p l e R s m args below meth c H locs cells slots (vx_MQ below Qc XC args s mc ms free) (F0 m pc ls rest) := by
  intro T hT X
  have htr : e.platform.stackTraces = false := (show e.platform.stackTraces = l.stackTraces by rw [X.admits.platform]).trans hl
  have Y := vx_rebase X (R' := { frames := R.frames, locals := R.locals, cells := 1, slots := 6 }) (Nat.le_refl _) (Nat.le_refl _) hRcells hRslots
  obtain ⟨s', hA⟩ : ∃ z, z = (T.setVm s.vm).setFrames (.invoking m args :: below) := ⟨_, rfl⟩
  rw [← hA] at Y
  have hvm : s'.vm = s.vm := by rw [hA]; rfl
  have hhp : s'.heap = H := by rw [hA]; exact hT
  have hW0 : s.WarmedH s'.vm := by rw [hvm]; exact State.WarmedH.refl s
  have hat' : ∀ w ∈ vx_atS own ic cls names, w.before args s' = true := fun w hw => vx_ot_at hW0 hvm.symm (hgood w (List.mem_cons_of_mem _ (List.mem_cons_of_mem _ hw))) (hat w hw)
  have hk' : (Cond.classLink own ik cls).before args s' = true := vx_ot_at hW0 hvm.symm (hgood _ List.mem_cons_self) hk
  have hini' : (Cond.initialized cls).before args s' = true := vx_ot_at hW0 hvm.symm (hgood _ (List.mem_cons_of_mem _ List.mem_cons_self)) hini
  have hU' : vx_Zq Bundle.tN "UNASSIGNED_STACK" Bundle.steD A s' s'.heap := by rw [hhp]; exact vx_Zq.moved hW0.alike (hU.kept hS.2.1)
  have hN' : vx_Zq Bundle.tN "SUPPRESSED_SENTINEL" Bundle.listD A s' s'.heap := by rw [hhp]; exact vx_Zq.moved hW0.alike (hN.kept hS.2.1)
  have h : ∀ w ∈ Bundle.ownAtoms own ic cls names, w.before args s' = true := vx_own hat' (vx_isRefq hU'.1) (vx_isRefq hN'.1) hU'.2.word hN'.2.word
  have hown' : s'.vm.findClass own = some m.cls := by rw [hvm]; exact hown
  have hins : (Cond.instantiable cls 6).before args s' = true := h _ (by simp [Bundle.ownAtoms])
  obtain ⟨vm₁, cX, kX, hfX, hkX, -, -, X₁, st1⟩ := Y.newCold hexec (own := own) (C := cls) (index := ik) (n := 6) hown' hk' hins hini'
    (g := F0 m pc ls rest) rfl (by rw [hb]; exact d0) (Nat.le_refl _) (Nat.le_refl _)
  generalize hT1 : (T.setVm vm₁).pushCell { cls := cX, slots := kX.instanceTypes.map defaultValue, vm := .none } = T1 at X₁ st1
  have hcat : (Value.ref T.heap.size).category = 1 := rfl
  have hcellA : T1.heap[T.heap.size]? = some (freshCell cX kX) := by rw [← hT1]; exact State.heap_pushCell_size _ _
  have d3' : decode c.code (pc + 3) = .ok (.dup, 1) := by rw [hb]; exact d3
  have d4' : decode c.code (pc + 4) = .ok (.ldc_w is, 3) := by rw [hb]; exact d4
  have hstr' : vk_R own is text sa s' := vk_R.warm hW0 hstr
  obtain ⟨U, hsteps, hrun, hend, hW, hsame, ce, hce, hO⟩ := X₁.ctorThrowS hexec htr (own := own) (cls := cls) (names := names) (ic := ic) hown' hcls hnames h (fun x hx => nomatch hx) hfX hkX hcellA (by rw [hhp, hT]; exact Nat.le_refl _) (msg := .ref sa) rfl
    (g := { method := m, pc := pc + 7, locals := ls, stack := .ref sa :: .ref T.heap.size :: .ref T.heap.size :: rest, locked := none }) rfl hsize rfl rfl (rest := rest) rfl
    (by rw [hb]; exact d7) (by rw [hb]; exact d10) hout hRframes (by simp only [List.map_cons, List.sum_cons, hcat]; omega) hlocks
  obtain ⟨f1, f2⟩ := vx_frame hsame
  rw [hhp] at f1 f2
  have hWs : s.WarmedH U.vm := State.WarmedH.trans hW0 hW
  have hcl : s.vm.findClass cls = some ce.cls := by
    have h9 := hO.cls
    rw [hvm] at h9
    exact h9
  have hall : s.sameButNew ({ U with vm := s.vm } : State) locs mc ms := by
    subst hA
    obtain ⟨e1, e2⟩ := hsame
    rw [State.setFrames_setFrames] at e1
    have h2 : (T.setVm s.vm).sameButNew ({ U with vm := s.vm } : State) [] (0 + 1) (0 + 6) := ⟨e1, e2⟩
    have h3 := X.same.trans h2
    rw [List.append_nil] at h3
    exact h3.mono hc hs
  refine ⟨U, ?_, .threw T.heap.size, hrun, hend, Or.inr ⟨T.heap.size, rfl, cls, ce, locs, hx U hWs.alike f1 (fun q hq => f2 q hq (fun z hz => nomatch hz)), hce, hO.vm, hcl, hWs, hall, hf⟩⟩
  refine st1 _ ?_
  show Steps p.tables e below (T1.setTop { method := m, pc := pc + 3, locals := ls, stack := .ref T.heap.size :: rest, locked := none }) _
  jvm_step X₁.here [X₁.here.top, hexec, d3', Value.category]
  exact X₁.ldcStringW hexec (own := own) (text := text) (index := is) (a := sa) hown' hstr'.1 hstr'.2
    (g := { method := m, pc := pc + 4, locals := ls, stack := .ref T.heap.size :: .ref T.heap.size :: rest, locked := none }) rfl d4' _ hsteps
end Ends
section Bodies
variable {l : Launch}
theorem vx_ofW {y : MethodName} {ws ws' : List Cond} {rm : Room} {Pc : Array Value → State → Prop} {Qc : Array Value → State → Outcome → State → Prop} {XC : String → State → State → Prop} {mc ms : Nat} {free : Addr → Prop} {cc : ByteArray} {maxL : Nat} {ret : Option FieldType}
    (hy : plainName y.cls = true) (hw : ws = Cond.code y cc maxL ret :: ws')
    (body : ∀ p e s m args below meth c s₁, BodyLoose p l y (headSpec ws rm) cc maxL ret e s m args below meth c s₁ → c.maxLocals = maxL → (∀ x ∈ c.exceptionTable.toList, False) → Pc args s →
      W p l e (headSpec ws rm).room s m args below meth c s.heap [] 0 0 (vx_MQ below Qc XC args s mc ms free) (entryFrame m args maxL)) : vx_Met l y ws rm Pc Qc XC mc ms free := by
  refine MetFree.of_bodyS (code := cc) (maxLocals := maxL) (ret := ret) hy ?_ ?_
  · intro args s m h hn
    obtain ⟨meth, c, h1, h2, h3, h4, h5, h6, -, -⟩ := Cond.code_spec hn (atoms_spec (ws := ws) h _ (by rw [hw]; exact List.mem_cons_self))
    exact ⟨meth, c, h1, h2, h3, h4, h5, h6⟩
  · intro p e s m args below meth c s₁ B hml hP _
    have hh0 : s₁.heap = s.heap := by rw [B.state]; rfl
    have ht : ∀ x ∈ c.exceptionTable.toList, False := by
      obtain ⟨meth9, c9, h1, h2, -, -, -, -, h7, -⟩ := Cond.code_spec B.named (atoms_spec (ws := ws) B.pre _ (by rw [hw]; exact List.mem_cons_self))
      cases Option.some.inj (h1.symm.trans B.method)
      cases Option.some.inj (h2.symm.trans (Stand.of_body B).code)
      intro x hx
      rw [Array.isEmpty_iff.mp h7] at hx
      cases hx
    obtain ⟨t, a1, o, b1, b2, b3⟩ := body p e s m args below meth c s₁ B hml ht hP s₁ hh0 (Stand.of_body B)
    exact ⟨t, o, a1, b1, b2, b3⟩
/-- the table of a body with handlers -/
theorem vx_table {p : Program} {x y : MethodName} {S : Spec} {cc bytes : ByteArray} {maxL maxL' : Nat} {ret ret' : Option FieldType} {e : Env} {s s₁ : State} {m : MethodId} {args : Array Value} {below : List Frame} {meth : Method} {c : Code} {hh : List (Nat × Nat × Nat × Nat)}
    (B : BodyLoose p l y S cc maxL ret e s m args below meth c s₁) (h : (Cond.codeWith y bytes maxL' ret' hh).before args s = true) : c.exceptionTable.toList = tableOf hh := by
  obtain ⟨m9, meth9, c9, hn9, h1, h2, -, -, h6, -⟩ := Cond.codeWith_spec h
  cases Option.some.inj (hn9.symm.trans B.named)
  cases Option.some.inj (h1.symm.trans B.method)
  cases Option.some.inj (h2.symm.trans (Stand.of_body B).code)
  rw [← h6, table_eq]
end Bodies
end VXA
/-! ===== END ===== -/
/-! ===== BEGIN a static call of a method with an exception table ===== -/
section VXS
variable {p : Program} {l : Launch} {e : Env} {R : Room} {s : State} {m : MethodId} {args : Array Value} {below : List Frame} {meth : Method} {c : Code} {T : State} {H : Heap} {locs : List Loc} {cells slots : Nat}
abbrev vx_CSW (R : Room) (s : State) (args : Array Value) (own : String) (index : Nat) (y : MethodName) (bytes : ByteArray) (maxL : Nat) (ret : Option FieldType) (hh : List (Nat × Nat × Nat × Nat)) (ws : List Cond) (rm : Room) (mc ms n : Nat) : Prop :=
  (rm.cells = mc ∧ rm.slots = ms ∧ rm.frames + 1 ≤ R.frames ∧ 8 + (maxL + 11) + rm.locals ≤ R.locals ∧ (∀ w ∈ ws, ∀ (a' : Array Value) (U : State), s.WarmedH U.vm → w.before a' U = true) ∧ Cond.codeWith y bytes maxL ret hh ∈ ws) ∧
  (Cond.codeWith y bytes maxL ret hh).before args s = true ∧ (Cond.initialized y.cls).before args s = true ∧ (y.cls ≠ "java/lang/invoke/MethodHandle" ∧ y.cls ≠ "java/lang/invoke/VarHandle") ∧
  (∀ sig, parseMethodDescriptor y.desc = some sig → n = sig.parameters.length) ∧ (Cond.methodLink own index y).before args s = true ∧ (Cond.static y).before args s = true
theorem vx_cwSW {own : String} {index maxL mc ms : Nat} {y : MethodName} {bytes : ByteArray} {ret : Option FieldType} {hh : List (Nat × Nat × Nat × Nat)} {Ts ws ws' : List Cond} {rm : Room} (n : Nat) (ht : ∀ w ∈ Ts, w.before args s = true) (hT : GoodIn Ts (va_wsS own index y ws)) (hw : ws = Cond.codeWith y bytes maxL ret hh :: ws') (hrc : rm.cells = mc) (hrs : rm.slots = ms)
    (hd : y.cls ≠ "java/lang/invoke/MethodHandle" ∧ y.cls ≠ "java/lang/invoke/VarHandle" ∧ (parseMethodDescriptor y.desc).map (fun d => d.parameters.length) = some n) (hR : rm.frames + 1 ≤ R.frames ∧ 8 + (maxL + 11) + rm.locals ≤ R.locals) :
    vx_CSW R s args own index y bytes maxL ret hh ws rm mc ms n := by
  have ok : ∀ w ∈ va_wsS own index y ws, w.before args s = true := fun w h => ht w (hT w h).1
  have hG : GoodIn Ts ws := fun w h => hT w (by unfold va_wsS; exact List.mem_append_right _ h)
  have hc : Cond.codeWith y bytes maxL ret hh ∈ ws := by rw [hw]; exact List.mem_cons_self
  refine ⟨⟨hrc, hrs, hR.1, hR.2, pay_in ht hG, hc⟩, ht _ (hG _ hc).1, ok _ (by simp [va_wsS]), ⟨hd.1, hd.2.1⟩, fun sig h => ?_, ok _ (by simp [va_wsS]), ok _ (by simp [va_wsS])⟩
  have h2 := hd.2.2
  rw [h] at h2
  exact (Option.some.inj h2).symm
theorem vx_callSW (X : Stand p l e R s m args below meth c T locs cells slots) (hexec : p.tables.exec = Jvm.exec) {own : String} {index : Nat} {y : MethodName} {bytes : ByteArray} {maxL : Nat} {ret : Option FieldType} {hh : List (Nat × Nat × Nat × Nat)}
    (hown : s.vm.findClass own = some m.cls) (hlink : (Cond.methodLink own index y).before args s = true) (hstat : (Cond.static y).before args s = true) (hinit : (Cond.initialized y.cls).before args s = true)
    (hcode : (Cond.codeWith y bytes maxL ret hh).before args s = true) (hy : y.cls ≠ "java/lang/invoke/MethodHandle" ∧ y.cls ≠ "java/lang/invoke/VarHandle")
    {W9 : Nat} {Pre : Pt → Array Value → Prop} {Post : Pt → Array Value → Option Value → Pt → Prop} (hK : Back l R p e below s args y 3 W9 Pre Post)
    {g : JFrame} (hg : g.method = m) (hsize : g.locals.size = c.maxLocals) {argsL rest : List Value} (hlen : ∀ sig, parseMethodDescriptor y.desc = some sig → argsL.length = sig.parameters.length)
    (hstack : g.stack = argsL.reverse ++ rest) (hW : 2 * g.monitorRoom + (rest.map fun v => v.category).sum ≤ W9) (hdg : decode c.code g.pc = .ok (.invokestatic index, 3))
    (hpre : ∀ vm₁, s.WarmedH vm₁ → Pre ⟨T.setVm vm₁, locs, cells, slots⟩ argsL.toArray) :
    ∃ (v : Option Value) (vm₁ : Vm) (B : Pt), s.WarmedH vm₁ ∧ Stand p l e R s m args below meth c B.U B.locs B.cells B.slots ∧ Post ⟨T.setVm vm₁, locs, cells, slots⟩ argsL.toArray v B ∧
      ∀ target, Steps p.tables e below (B.U.setTop { g with pc := g.pc + 3, stack := v.toList ++ rest }) target → Steps p.tables e below (T.setTop g) target := by
  obtain ⟨mk, methM, cM, hnamed, hmethM, -, -, -, -, -, -, hsigM⟩ := Cond.codeWith_spec hcode
  have hstatic : methM.isStatic = true := Cond.static_spec hnamed hmethM hstat
  obtain ⟨kP, hkP, -⟩ := className_of_methodNamed hnamed
  have hinitP : kP.init = .initialized := Cond.initialized_spec (findClass_of_methodNamed hnamed) hkP hinit
  obtain ⟨vm₁, X₁, hstep₁⟩ := X.invokestatic hexec hown hlink hnamed hmethM hstatic hkP hinitP hy (g := g) hg (argsL := argsL) (rest := rest) (hlen _ hsigM) hstack hdg
  obtain ⟨v, B, X', hpost, hsteps⟩ := hK m meth c ⟨T.setVm vm₁, locs, cells, slots⟩ { g with stack := rest } (.invokestatic index) mk argsL.toArray X₁ hg hsize hdg hW (X₁.named hnamed) (hpre vm₁ X₁.warmed)
  exact ⟨v, vm₁, B, X₁.warmed, X', hpost, fun target h => hstep₁ _ fun acts => by rw [doInvoke_state]; exact hsteps.trans h⟩
theorem vx_runSW {y : MethodName} {bytes cc : ByteArray} {maxL nL mc ms n index : Nat} {ret : Option FieldType} {hh : List (Nat × Nat × Nat × Nat)} {ws : List Cond} {rm : Room} {Pc : Array Value → State → Prop} {Qc : Array Value → State → Outcome → State → Prop} {free : Addr → Prop} {Ts : List Cond} {own : String} {As rest : List Value} {g : JFrame}
    (S : CallFix p m c cc nL s args Ts own) (hM : Met l y ws rm Pc Qc mc ms free) (cw : vx_CSW R s args own index y bytes maxL ret hh ws rm mc ms n) (hp : PreS s H Pc As)
    (hg : g.method = m) (hn : As.length = n) (hsize : g.locals.size = nL) (hstack : g.stack = As.reverse ++ rest) (hW : 2 * g.monitorRoom + (rest.map fun v => v.category).sum ≤ 8) (hdg : decode cc g.pc = .ok (.invokestatic index, 3)) (hf : cells + mc ≤ R.cells ∧ slots + ms ≤ R.slots) :
    va_Run p l e R s m args below meth c H locs cells slots mc ms g rest (Qc As.toArray) (free) := by
  obtain ⟨⟨hrc, hrs, hfr, hlo, hws, hcw⟩, hcode, hini, hy, hlen, hl, hstt⟩ := cw
  have hK : Back l R p e below s args y 3 8 (PreOf R mc ms Pc) (PostOf Qc mc ms free) := va_backW (hh := hh) (bytes := bytes) (maxL := maxL) (ret := ret) hM hp.1 hrc hrs hfr hlo hws hcw (fun a' U hW => word_at hW (Or.inl (by first | rfl | simp [Cond.onTables, Cond.keeps, Cond.steady])) hini)
  obtain ⟨hx, hb, hml, ho, -⟩ := S
  intro T hT X
  obtain ⟨v, vm₁, ⟨U', l2, c2, s2⟩, hW₁, X', ⟨g', mk, t, L, e1, e2, hq, h1, hL, h2, h3⟩, st⟩ := vx_callSW X hx (hh := hh) (bytes := bytes) (maxL := maxL) (ret := ret) ho hl hstt hini hcode hy hK hg (hsize.trans hml.symm) (argsL := As) (rest := rest) (fun sig h => hn.trans (hlen sig h)) hstack hW (by rw [hb]; exact hdg)
    (fun vm₁ hW₁ => ⟨hf.1, hf.2, hp.2 (T.setVm vm₁) hT hW₁⟩)
  dsimp only [Pt.U, Pt.locs, Pt.cells, Pt.slots] at X' e1 e2 h1 h2 h3 st
  subst h1; subst h2; subst h3
  exact ⟨v, (T.setVm vm₁).calling g' mk As.toArray, t, U', L, hT, X', hL, e1, e2, hq, st⟩
/-- not caught here, past rows that name other classes: it goes on to the caller -/
theorem vx_outP {p : Program} {l : Launch} {e : Env} {R : Room} {s : State} {m : MethodId} {args : Array Value} {below : List Frame} {meth : Method} {c : Code} {H : Heap} {locs : List Loc} {cells slots : Nat} {free : Addr → Prop} {ls : Array Slot} {rest : List Value} {Qc : Array Value → State → Outcome → State → Prop} {XC : String → State → State → Prop}
    {pc : Nat} {own E : String} {ce : Cell} {q : Addr} {mc ms : Nat} (hown : s.vm.findClass own = some m.cls) (hlocks : meth.locks = false)
    (hpass : ∀ z ∈ c.exceptionTable.toList, covers z pc = false ∨ (z.catchType ≠ 0 ∧ ∃ nm : String, (Cond.classLink own z.catchType nm).before args s = true ∧ va_Nc E nm s)) (hcell : H[q]? = some ce) (hv : ce.vm = .none) (hcl : s.vm.findClass E = some ce.cls)
    (hx : ∀ t : State, t.heap = H → s.vm.Alike t.vm → XC E s t) (hf : ∀ z ∈ locs, free z.base) (hc : cells ≤ mc) (hs : slots ≤ ms) :
    vx_W p l e R s m args below meth c H locs cells slots (vx_MQ below Qc XC args s mc ms free) (F0 m pc ls rest) q := by
  intro T hT X
  have hpl : e.platform.magicAccessors = ({} : Platform).magicAccessors := by rw [X.admits.platform]
  obtain ⟨vm', hW', X', st⟩ := X.outThrough hlocks q (g := F0 m pc ls rest) rfl rfl rfl (cell := ce) (by rw [hT]; exact hcell) (by rw [hv]; rfl)
    (by obtain ⟨k9, h9, -⟩ := Vm.findClass_spec hcl; exact ⟨k9, h9⟩) (fun z hz => by
      rcases hpass z hz with h | ⟨hz0, nm, hl1, hn1⟩
      · exact Or.inl h
      · obtain ⟨c6, hc6, hcl6⟩ := Cond.classLink_spec hown hl1 e.platform hpl
        obtain ⟨a8, b8, h1, h2, h3⟩ := hn1
        cases Option.some.inj (h1.symm.trans hcl)
        cases Option.some.inj (h2.symm.trans hc6)
        exact Or.inr ⟨hz0, _, hcl6, h3⟩)
  obtain ⟨g₀, hfr⟩ := X'.frames_eq
  have hcell9 : ((T.setVm vm').setFrames (.throwing q :: below)).heap[q]? = some ce := by
    show T.heap[q]? = some ce
    rw [hT]; exact hcell
  have hend : Ended ((T.setVm vm').setFrames (.throwing q :: below)) below (.threw q) := State.frames_setFrames _ (State.cur_lt_of_frames hfr)
  refine ⟨(T.setVm vm').setFrames (.throwing q :: below), ?_, .threw q, X'.here.running, hend, Or.inr ⟨q, rfl, E, ce, locs, hx _ hT (X'.ends _).1.alike, hcell9, hv, hcl, (X'.ends _).1, (X'.ends _).2.mono hc hs, hf⟩⟩
  rw [X.pushThrowing_eq]
  exact st
/-- a thing of a world lies in the heap -/
theorem vx_lt {D : va_G} {cl : List vw_C} {ws : va_W} {H1 : Heap} (h : va_P D cl ws H1) {k : Nat} {q : Nat × va_E} (hk : ws[k]? = some q) : q.1 < H1.size := (h k q hk).lt
end VXS
/-! ===== END ===== -/
/-! ===== BEGIN methods with a table of their own: called by a name, returning or throwing ===== -/
section VXH
/-! vx_backW, vx_callVX, vx_callSX, vx_callVW, vx_runVW, vx_runVX, vx_runSX, vx_ofWH follow the same proofs as their sisters above (Free/Laws.lean, Shelf42/LK1.lean); vx_outP calls Shelf42/NT130.lean (outThrough). -/
section
variable {l : Launch} {R : Room} {p : Program} {e : Env} {below : List Frame} {s : State} {sargs : Array Value} {y : MethodName} {len W9 : Nat}
theorem vx_backW {ws : List Cond} {rm : Room} {Pc : Array Value → State → Prop} {Qc : Array Value → State → Outcome → State → Prop} {XC : String → State → State → Prop} {mc ms : Nat} {free : Addr → Prop} {bytes : ByteArray} {maxL : Nat} {ret : Option FieldType} {hh : List (Nat × Nat × Nat × Nat)}
    (hM : vx_Met l y ws rm Pc Qc XC mc ms free) (hblind : FrameBlind Pc) (hrc : rm.cells = mc) (hrs : rm.slots = ms)
    (hframes : rm.frames + 1 ≤ R.frames) (hlocals : W9 + (maxL + 11) + rm.locals ≤ R.locals)
    (hws : ∀ w ∈ ws, ∀ a' U, s.WarmedH U.vm → w.before a' U = true) (hcode : Cond.codeWith y bytes maxL ret hh ∈ ws) (hinit : ∀ a' U, s.WarmedH U.vm → (Cond.initialized y.cls).before a' U = true) :
    vx_Back l R p e below s sargs y len W9 (PreOf R mc ms Pc) (PostOf Qc mc ms free) (vx_Post XC mc ms free) := by
  intro m meth c A g ig mk a X hg hsize hdg hW hn hp
  have h1 : (headSpec ws rm).pre.before a A.U = true := atoms_intro fun w hw => hws w hw _ _ X.warmed
  have h2 : (Cond.codeWith y bytes maxL ret hh).before a A.U = true := hws _ hcode _ _ X.warmed
  have h3 : (Cond.initialized y.cls).before a A.U = true := hinit _ _ X.warmed
  have h4 : A.cells + (headSpec ws rm).room.cells ≤ R.cells := by rw [show (headSpec ws rm).room.cells = mc from hrc]; exact hp.1
  have h5 : A.slots + (headSpec ws rm).room.slots ≤ R.slots := by rw [show (headSpec ws rm).room.slots = ms from hrs]; exact hp.2.1
  have hPc : Pc a (A.U.calling g mk a) := hblind _ _ _ _ hp.2.2
  obtain ⟨U, Ls, c0, s0⟩ := A
  dsimp only [Pt.U, Pt.locs, Pt.cells, Pt.slots] at h1 h2 h3 h4 h5 X hn hPc ⊢
  obtain ⟨m9, methY, cY, hn9, hmY, hcY, -, hlY, -⟩ := Cond.codeWith_spec h2
  cases Option.some.inj (hn9.symm.trans hn)
  obtain ⟨kY, hkY, -⟩ := className_of_methodNamed hn
  have hinitY : kY.init = .initialized := Cond.initialized_spec (findClass_of_methodNamed hn) hkY h3
  have h : At U g.method c below := by rw [hg]; exact X.here
  have hlocals9 : W9 + (maxL + 11) + (headSpec ws rm).room.locals ≤ R.locals := hlocals
  have happ : (headSpec ws rm).appliesLoose y e.platform (U.calling g mk a) = true :=
    Spec.appliesLoose_calling (g := g) h hdg hn hkY hinitY
      (X.room_calling (g := g) (R' := (headSpec ws rm).room) hsize hmY hcY hframes (by rw [hlY]; omega) h4 h5) h1
  obtain ⟨mid, hmid⟩ := h.above
  have hfr : (U.setTop g).frames = (.java g :: mid) ++ below := by rw [State.frames_setTop' g h.top, hmid]; rfl
  obtain ⟨o, s₂, hsteps, -, hend, hq⟩ := Steps.callFree hM p X.admits X.cas X.clock (acts := []) hfr happ hPc trivial
  have hq' : vx_Q Qc XC mc ms free a (U.calling g mk a) o s₂ := hq
  rw [State.frames_setTop' g h.top] at hend
  obtain ⟨g₀, hg0⟩ := Option.isSome_iff_exists.mp h.top
  obtain ⟨r, hr⟩ := State.topJava?_eq_some.mp hg0
  have hr' : (({ U with heap := s₂.heap, slotsUsed := s₂.slotsUsed } : State).setVm s₂.vm).frames = .java g₀ :: r := hr
  rcases hq' with ⟨hqc, L, hfe, hL⟩ | ⟨q, rfl, E, ce, L, hx, hce, hcv, hcl, hW₂, hsm, hL⟩
  · obtain ⟨⟨v, rfl⟩, hW₂, e2, q2, q3, q4, q5, q6⟩ := id hfe
    have e3 : s₂ = ({ (U.calling g mk a).setFrames s₂.frames with heap := s₂.heap, slotsUsed := s₂.slotsUsed } : State).setVm s₂.vm := by
      have : s₂ = ({ s₂ with vm := (U.calling g mk a).vm } : State).setVm s₂.vm := rfl
      rw [e2] at this
      exact this
    obtain ⟨c₂, i₂, len₂, hc₂, hd₂, hf₂⟩ := hend
    have hW' : U.WarmedH s₂.vm := hW₂
    have hcc : c₂ = c := by
      have h1 : s₂.code? g.method = U.code? g.method := by
        rw [State.code?_eq, State.code?_eq, hW'.alike.method?]
      exact Option.some.inj (hc₂.symm.trans (h1.trans h.code))
    subst hcc
    have hlen : len₂ = len := by rw [hdg] at hd₂; cases hd₂; rfl
    subst hlen
    have hs₂ : s₂ = (({ U with heap := s₂.heap, slotsUsed := s₂.slotsUsed } : State).setVm s₂.vm).setTop { g with pc := g.pc + len₂, stack := v.toList ++ g.stack } := by
      refine e3.trans ?_
      rw [hf₂, State.calling_eq h.top, State.setFrames_setFrames, State.setTop_of_frames _ hr', hr]
      rfl
    have hsame : U.sameButNew ({ U with heap := s₂.heap, slotsUsed := s₂.slotsUsed } : State) L mc ms := by
      refine ⟨?_, q2, q3, q4, q5, q6⟩
      obtain ⟨t, ht, -⟩ := State.frames_cons hr
      show ({ U with heap := s₂.heap, slotsUsed := s₂.slotsUsed } : State) = { U.setFrames U.frames with heap := s₂.heap, slotsUsed := s₂.slotsUsed }
      rw [State.setFrames_self ht]
    subst hg
    refine Or.inl ⟨v, ⟨(({ U with heap := s₂.heap, slotsUsed := s₂.slotsUsed } : State).setVm s₂.vm), Ls ++ L, c0 + mc, s0 + ms⟩,
      ⟨X.admits, X.cas, X.clock, X.frames, X.room, X.hears, X.method, X.code, (X.here.setHeapUsed s₂.heap s₂.slotsUsed).setVm hW'.alike, X.tail, State.WarmedH.trans X.warmed hW', X.limits, X.bytes, X.same.trans (hsame.setVm s.vm)⟩,
      ⟨g, mk, s₂, L, rfl, rfl, hqc, rfl, hL, rfl, rfl⟩, ?_⟩
    show Steps p.tables e below _ ((({ U with heap := s₂.heap, slotsUsed := s₂.slotsUsed } : State).setVm s₂.vm).setTop { g with pc := g.pc + len₂, stack := v.toList ++ g.stack })
    rw [← hs₂]
    exact hsteps
  · obtain ⟨e2, q2, q3, q4, q5, q6⟩ := id hsm
    have e3 : s₂ = ({ (U.calling g mk a).setFrames s₂.frames with heap := s₂.heap, slotsUsed := s₂.slotsUsed } : State).setVm s₂.vm := by
      have : s₂ = ({ s₂ with vm := (U.calling g mk a).vm } : State).setVm s₂.vm := rfl
      rw [e2] at this
      exact this
    have hf₂ : s₂.frames = .throwing q :: .java g :: U.frames.tail := hend
    have hW' : U.WarmedH s₂.vm := hW₂
    have hs₂ : s₂ = ((({ U with heap := s₂.heap, slotsUsed := s₂.slotsUsed } : State).setVm s₂.vm).setTop g).pushFrame (.throwing q) := by
      refine e3.trans ?_
      rw [hf₂, State.calling_eq h.top, State.setFrames_setFrames, State.pushFrame, State.frames_setTop _ hr', State.setTop_of_frames _ hr', State.setFrames_setFrames, hr]
      rfl
    have hsame : U.sameButNew ({ U with heap := s₂.heap, slotsUsed := s₂.slotsUsed } : State) L mc ms := by
      refine ⟨?_, q2, q3, q4, q5, q6⟩
      obtain ⟨t, ht, -⟩ := State.frames_cons hr
      show ({ U with heap := s₂.heap, slotsUsed := s₂.slotsUsed } : State) = { U.setFrames U.frames with heap := s₂.heap, slotsUsed := s₂.slotsUsed }
      rw [State.setFrames_self ht]
    subst hg
    refine Or.inr ⟨q, ⟨(({ U with heap := s₂.heap, slotsUsed := s₂.slotsUsed } : State).setVm s₂.vm), Ls ++ L, c0 + mc, s0 + ms⟩,
      ⟨X.admits, X.cas, X.clock, X.frames, X.room, X.hears, X.method, X.code, (X.here.setHeapUsed s₂.heap s₂.slotsUsed).setVm hW'.alike, X.tail, State.WarmedH.trans X.warmed hW', X.limits, X.bytes, X.same.trans (hsame.setVm s.vm)⟩,
      ⟨g, mk, s₂, L, E, ce, rfl, rfl, hx, hce, hcv, hcl, rfl, hL, rfl, rfl⟩, ?_⟩
    show Steps p.tables e below _ (((({ U with heap := s₂.heap, slotsUsed := s₂.slotsUsed } : State).setVm s₂.vm).setTop g).pushFrame (.throwing q))
    rw [← hs₂]
    exact hsteps
end
variable {p : Program} {l : Launch} {e : Env} {R : Room} {s : State} {m : MethodId} {args : Array Value} {below : List Frame} {meth : Method} {c : Code} {T : State} {H : Heap} {locs : List Loc} {cells slots : Nat}
theorem vx_callVX (X : Stand p l e R s m args below meth c T locs cells slots) (hexec : p.tables.exec = Jvm.exec) {own C : String} {index : Nat} {y : MethodName} {bytes : ByteArray} {maxL : Nat} {ret : Option FieldType} {hh : List (Nat × Nat × Nat × Nat)}
    (hown : s.vm.findClass own = some m.cls) (hlink : (Cond.methodLink own index y).before args s = true) (hinst : (Cond.instanceMethod y).before args s = true) (hsel : (Cond.selects C y y).before args s = true)
    (hcode : (Cond.codeWith y bytes maxL ret hh).before args s = true) (hy : y.cls ≠ "java/lang/invoke/MethodHandle" ∧ y.cls ≠ "java/lang/invoke/VarHandle")
    {W9 : Nat} {Pre : Pt → Array Value → Prop} {Post : Pt → Array Value → Option Value → Pt → Prop} {PostX : Pt → Array Value → Addr → Pt → Prop} (hK : vx_Back l R p e below s args y 3 W9 Pre Post PostX)
    {b : Addr} {cellB : Cell} (hcell : T.heap[b]? = some cellB) (hobj : cellB.vm.isStatics = false) (hcls : s.vm.findClass C = some cellB.cls)
    {g : JFrame} (hg : g.method = m) (hsize : g.locals.size = c.maxLocals) {argsL rest : List Value} (hlen : ∀ sig, parseMethodDescriptor y.desc = some sig → argsL.length = sig.parameters.length)
    (hstack : g.stack = argsL.reverse ++ .ref b :: rest) (hW : 2 * g.monitorRoom + (rest.map fun v => v.category).sum ≤ W9) (hdg : decode c.code g.pc = .ok (.invokevirtual index, 3))
    (hpre : ∀ vm₁, s.WarmedH vm₁ → Pre ⟨T.setVm vm₁, locs, cells, slots⟩ (Value.ref b :: argsL).toArray) :
    (∃ (v : Option Value) (vm₁ : Vm) (B : Pt), s.WarmedH vm₁ ∧ Stand p l e R s m args below meth c B.U B.locs B.cells B.slots ∧ Post ⟨T.setVm vm₁, locs, cells, slots⟩ (Value.ref b :: argsL).toArray v B ∧
      ∀ target, Steps p.tables e below (B.U.setTop { g with pc := g.pc + 3, stack := v.toList ++ rest }) target → Steps p.tables e below (T.setTop g) target) ∨
    (∃ (q : Addr) (vm₁ : Vm) (B : Pt), s.WarmedH vm₁ ∧ Stand p l e R s m args below meth c B.U B.locs B.cells B.slots ∧ PostX ⟨T.setVm vm₁, locs, cells, slots⟩ (Value.ref b :: argsL).toArray q B ∧
      Steps p.tables e below (T.setTop g) ((B.U.setTop { g with stack := rest }).pushFrame (.throwing q))) := by
  obtain ⟨mk, methM, hnamed, hmethM, hstM, habM⟩ := Cond.instanceMethod_spec hinst
  obtain ⟨m8, methM', cM, hn8, hmethM', -, -, -, -, -, -, hsigM⟩ := Cond.codeWith_spec hcode
  cases Option.some.inj (hn8.symm.trans hnamed)
  cases hmethM.symm.trans hmethM'
  obtain ⟨c2, r2, m2, q1, q2, q3, q4, kP, hkP, hkPi⟩ := Cond.selects_spec hsel
  cases hcls.symm.trans q1
  cases (State.methodFound?_of_named hnamed hy).symm.trans q2
  cases hnamed.symm.trans q3
  have hselP : selectMethod e.platform s.vm cellB.cls mk = .method mk := by rw [Launch.admits_selectMethod X.admits]; exact q4
  obtain ⟨vm₁, X₁, hstep₁⟩ := X.invokevirtual hexec hown hlink hnamed hmethM hstM hkP hkPi hy (a := b) (cell := cellB) hcell
    (fun z h => by rw [h] at hobj; cases hobj) hselP hmethM habM hkP hkPi (g := g) hg (argsL := argsL) (rest := rest) (hlen _ hsigM) hstack hdg
  rcases hK m meth c ⟨T.setVm vm₁, locs, cells, slots⟩ { g with stack := rest } (.invokevirtual index) mk (Value.ref b :: argsL).toArray X₁ hg hsize hdg hW (X₁.named hnamed) (hpre vm₁ X₁.warmed) with ⟨v, B, X', hpost, hsteps⟩ | ⟨q, B, X', hpost, hsteps⟩
  · exact Or.inl ⟨v, vm₁, B, X₁.warmed, X', hpost, fun target h => hstep₁ _ fun acts => by rw [doInvoke_state]; exact hsteps.trans h⟩
  · exact Or.inr ⟨q, vm₁, B, X₁.warmed, X', hpost, hstep₁ _ fun acts => by rw [doInvoke_state]; exact hsteps⟩
theorem vx_callSX (X : Stand p l e R s m args below meth c T locs cells slots) (hexec : p.tables.exec = Jvm.exec) {own : String} {index : Nat} {y : MethodName} {bytes : ByteArray} {maxL : Nat} {ret : Option FieldType} {hh : List (Nat × Nat × Nat × Nat)}
    (hown : s.vm.findClass own = some m.cls) (hlink : (Cond.methodLink own index y).before args s = true) (hstat : (Cond.static y).before args s = true) (hinit : (Cond.initialized y.cls).before args s = true)
    (hcode : (Cond.codeWith y bytes maxL ret hh).before args s = true) (hy : y.cls ≠ "java/lang/invoke/MethodHandle" ∧ y.cls ≠ "java/lang/invoke/VarHandle")
    {W9 : Nat} {Pre : Pt → Array Value → Prop} {Post : Pt → Array Value → Option Value → Pt → Prop} {PostX : Pt → Array Value → Addr → Pt → Prop} (hK : vx_Back l R p e below s args y 3 W9 Pre Post PostX)
    {g : JFrame} (hg : g.method = m) (hsize : g.locals.size = c.maxLocals) {argsL rest : List Value} (hlen : ∀ sig, parseMethodDescriptor y.desc = some sig → argsL.length = sig.parameters.length)
    (hstack : g.stack = argsL.reverse ++ rest) (hW : 2 * g.monitorRoom + (rest.map fun v => v.category).sum ≤ W9) (hdg : decode c.code g.pc = .ok (.invokestatic index, 3))
    (hpre : ∀ vm₁, s.WarmedH vm₁ → Pre ⟨T.setVm vm₁, locs, cells, slots⟩ argsL.toArray) :
    (∃ (v : Option Value) (vm₁ : Vm) (B : Pt), s.WarmedH vm₁ ∧ Stand p l e R s m args below meth c B.U B.locs B.cells B.slots ∧ Post ⟨T.setVm vm₁, locs, cells, slots⟩ argsL.toArray v B ∧
      ∀ target, Steps p.tables e below (B.U.setTop { g with pc := g.pc + 3, stack := v.toList ++ rest }) target → Steps p.tables e below (T.setTop g) target) ∨
    (∃ (q : Addr) (vm₁ : Vm) (B : Pt), s.WarmedH vm₁ ∧ Stand p l e R s m args below meth c B.U B.locs B.cells B.slots ∧ PostX ⟨T.setVm vm₁, locs, cells, slots⟩ argsL.toArray q B ∧
      Steps p.tables e below (T.setTop g) ((B.U.setTop { g with stack := rest }).pushFrame (.throwing q))) := by
  obtain ⟨mk, methM, cM, hnamed, hmethM, -, -, -, -, -, -, hsigM⟩ := Cond.codeWith_spec hcode
  have hstatic : methM.isStatic = true := Cond.static_spec hnamed hmethM hstat
  obtain ⟨kP, hkP, -⟩ := className_of_methodNamed hnamed
  have hinitP : kP.init = .initialized := Cond.initialized_spec (findClass_of_methodNamed hnamed) hkP hinit
  obtain ⟨vm₁, X₁, hstep₁⟩ := X.invokestatic hexec hown hlink hnamed hmethM hstatic hkP hinitP hy (g := g) hg (argsL := argsL) (rest := rest) (hlen _ hsigM) hstack hdg
  rcases hK m meth c ⟨T.setVm vm₁, locs, cells, slots⟩ { g with stack := rest } (.invokestatic index) mk argsL.toArray X₁ hg hsize hdg hW (X₁.named hnamed) (hpre vm₁ X₁.warmed) with ⟨v, B, X', hpost, hsteps⟩ | ⟨q, B, X', hpost, hsteps⟩
  · exact Or.inl ⟨v, vm₁, B, X₁.warmed, X', hpost, fun target h => hstep₁ _ fun acts => by rw [doInvoke_state]; exact hsteps.trans h⟩
  · exact Or.inr ⟨q, vm₁, B, X₁.warmed, X', hpost, hstep₁ _ fun acts => by rw [doInvoke_state]; exact hsteps⟩
theorem vx_callVW (X : Stand p l e R s m args below meth c T locs cells slots) (hexec : p.tables.exec = Jvm.exec) {own C : String} {index : Nat} {y : MethodName} {bytes : ByteArray} {maxL : Nat} {ret : Option FieldType} {hh : List (Nat × Nat × Nat × Nat)}
    (hown : s.vm.findClass own = some m.cls) (hlink : (Cond.methodLink own index y).before args s = true) (hinst : (Cond.instanceMethod y).before args s = true) (hsel : (Cond.selects C y y).before args s = true)
    (hcode : (Cond.codeWith y bytes maxL ret hh).before args s = true) (hy : y.cls ≠ "java/lang/invoke/MethodHandle" ∧ y.cls ≠ "java/lang/invoke/VarHandle")
    {W9 : Nat} {Pre : Pt → Array Value → Prop} {Post : Pt → Array Value → Option Value → Pt → Prop} (hK : Back l R p e below s args y 3 W9 Pre Post)
    {b : Addr} {cellB : Cell} (hcell : T.heap[b]? = some cellB) (hobj : cellB.vm.isStatics = false) (hcls : s.vm.findClass C = some cellB.cls)
    {g : JFrame} (hg : g.method = m) (hsize : g.locals.size = c.maxLocals) {argsL rest : List Value} (hlen : ∀ sig, parseMethodDescriptor y.desc = some sig → argsL.length = sig.parameters.length)
    (hstack : g.stack = argsL.reverse ++ .ref b :: rest) (hW : 2 * g.monitorRoom + (rest.map fun v => v.category).sum ≤ W9) (hdg : decode c.code g.pc = .ok (.invokevirtual index, 3))
    (hpre : ∀ vm₁, s.WarmedH vm₁ → Pre ⟨T.setVm vm₁, locs, cells, slots⟩ (Value.ref b :: argsL).toArray) :
    ∃ (v : Option Value) (vm₁ : Vm) (B : Pt), s.WarmedH vm₁ ∧ Stand p l e R s m args below meth c B.U B.locs B.cells B.slots ∧ Post ⟨T.setVm vm₁, locs, cells, slots⟩ (Value.ref b :: argsL).toArray v B ∧
      ∀ target, Steps p.tables e below (B.U.setTop { g with pc := g.pc + 3, stack := v.toList ++ rest }) target → Steps p.tables e below (T.setTop g) target := by
  obtain ⟨mk, methM, hnamed, hmethM, hstM, habM⟩ := Cond.instanceMethod_spec hinst
  obtain ⟨m8, methM', cM, hn8, hmethM', -, -, -, -, -, -, hsigM⟩ := Cond.codeWith_spec hcode
  cases Option.some.inj (hn8.symm.trans hnamed)
  cases hmethM.symm.trans hmethM'
  obtain ⟨c2, r2, m2, q1, q2, q3, q4, kP, hkP, hkPi⟩ := Cond.selects_spec hsel
  cases hcls.symm.trans q1
  cases (State.methodFound?_of_named hnamed hy).symm.trans q2
  cases hnamed.symm.trans q3
  have hselP : selectMethod e.platform s.vm cellB.cls mk = .method mk := by rw [Launch.admits_selectMethod X.admits]; exact q4
  obtain ⟨vm₁, X₁, hstep₁⟩ := X.invokevirtual hexec hown hlink hnamed hmethM hstM hkP hkPi hy (a := b) (cell := cellB) hcell
    (fun z h => by rw [h] at hobj; cases hobj) hselP hmethM habM hkP hkPi (g := g) hg (argsL := argsL) (rest := rest) (hlen _ hsigM) hstack hdg
  obtain ⟨v, B, X', hpost, hsteps⟩ := hK m meth c ⟨T.setVm vm₁, locs, cells, slots⟩ { g with stack := rest } (.invokevirtual index) mk (Value.ref b :: argsL).toArray X₁ hg hsize hdg hW (X₁.named hnamed) (hpre vm₁ X₁.warmed)
  exact ⟨v, vm₁, B, X₁.warmed, X', hpost, fun target h => hstep₁ _ fun acts => by rw [doInvoke_state]; exact hsteps.trans h⟩
abbrev vx_CVW (R : Room) (s : State) (args : Array Value) (own C : String) (index : Nat) (y : MethodName) (bytes : ByteArray) (maxL : Nat) (ret : Option FieldType) (hh : List (Nat × Nat × Nat × Nat)) (ws : List Cond) (rm : Room) (mc ms n : Nat) : Prop :=
  (rm.cells = mc ∧ rm.slots = ms ∧ rm.frames + 1 ≤ R.frames ∧ 8 + (maxL + 11) + rm.locals ≤ R.locals ∧ (∀ w ∈ ws, ∀ (a' : Array Value) (U : State), s.WarmedH U.vm → w.before a' U = true) ∧ Cond.codeWith y bytes maxL ret hh ∈ ws) ∧
  (Cond.codeWith y bytes maxL ret hh).before args s = true ∧ (Cond.initialized y.cls).before args s = true ∧ (y.cls ≠ "java/lang/invoke/MethodHandle" ∧ y.cls ≠ "java/lang/invoke/VarHandle") ∧
  (∀ sig, parseMethodDescriptor y.desc = some sig → n = sig.parameters.length) ∧ (Cond.methodLink own index y).before args s = true ∧ (Cond.instanceMethod y).before args s = true ∧ (Cond.selects C y y).before args s = true
theorem vx_cwVW {own C : String} {index maxL mc ms : Nat} {y : MethodName} {bytes : ByteArray} {ret : Option FieldType} {hh : List (Nat × Nat × Nat × Nat)} {Ts ws ws' : List Cond} {rm : Room} (n : Nat) (ht : ∀ w ∈ Ts, w.before args s = true) (hT : GoodIn Ts (wsV own index C y ws)) (hw : ws = Cond.codeWith y bytes maxL ret hh :: ws') (hrc : rm.cells = mc) (hrs : rm.slots = ms)
    (hd : y.cls = C ∧ y.cls ≠ "java/lang/invoke/MethodHandle" ∧ y.cls ≠ "java/lang/invoke/VarHandle" ∧ (parseMethodDescriptor y.desc).map (fun d => d.parameters.length) = some n) (hR : rm.frames + 1 ≤ R.frames ∧ 8 + (maxL + 11) + rm.locals ≤ R.locals) :
    vx_CVW R s args own C index y bytes maxL ret hh ws rm mc ms n := by
  obtain ⟨hC, hd⟩ := hd
  subst hC
  have ok : ∀ w ∈ wsV own index y.cls y ws, w.before args s = true := fun w h => ht w (hT w h).1
  have hG : GoodIn Ts ws := fun w h => hT w (by unfold wsV; exact List.mem_append_right _ h)
  have hc : Cond.codeWith y bytes maxL ret hh ∈ ws := by rw [hw]; exact List.mem_cons_self
  refine ⟨⟨hrc, hrs, hR.1, hR.2, pay_in ht hG, hc⟩, ht _ (hG _ hc).1, ok _ (by simp [wsV]), ⟨hd.1, hd.2.1⟩, fun sig h => ?_, ok _ (by simp [wsV]), ok _ (by simp [wsV]), ok _ (by simp [wsV])⟩
  have h2 := hd.2.2
  rw [h] at h2
  exact (Option.some.inj h2).symm
theorem vx_runVW {y : MethodName} {bytes cc : ByteArray} {maxL nL mc ms n index : Nat} {ret : Option FieldType} {hh : List (Nat × Nat × Nat × Nat)} {ws : List Cond} {rm : Room} {Pc : Array Value → State → Prop} {Qc : Array Value → State → Outcome → State → Prop} {free : Addr → Prop} {Ts : List Cond} {own C : String} {b : Addr} {As rest : List Value} {g : JFrame}
    (S : CallFix p m c cc nL s args Ts own) (hM : Met l y ws rm Pc Qc mc ms free) (cw : vx_CVW R s args own C index y bytes maxL ret hh ws rm mc ms n) (hp : PreV s H C b Pc As)
    (hg : g.method = m) (hn : As.length = n) (hsize : g.locals.size = nL) (hstack : g.stack = As.reverse ++ .ref b :: rest) (hW : 2 * g.monitorRoom + (rest.map fun v => v.category).sum ≤ 8) (hdg : decode cc g.pc = .ok (.invokevirtual index, 3)) (hf : cells + mc ≤ R.cells ∧ slots + ms ≤ R.slots) :
    va_Run p l e R s m args below meth c H locs cells slots mc ms g rest (Qc (Value.ref b :: As).toArray) free := by
  obtain ⟨⟨hrc, hrs, hfr, hlo, hws, hcw⟩, hcode, hini, hy, hlen, hl, hin, hse⟩ := cw
  have hK : Back l R p e below s args y 3 8 (PreOf R mc ms Pc) (PostOf Qc mc ms free) := va_backW (hh := hh) (bytes := bytes) (maxL := maxL) (ret := ret) hM hp.1 hrc hrs hfr hlo hws hcw (fun a' U hW => word_at hW (Or.inl (by first | rfl | simp [Cond.onTables, Cond.keeps, Cond.steady])) hini)
  obtain ⟨hx, hb, hml, ho, -⟩ := S
  obtain ⟨-, ⟨cellB, hcB, hoB, hclB⟩, hPc⟩ := hp
  intro T hT X
  obtain ⟨v, vm₁, ⟨U', l2, c2, s2⟩, hW₁, X', ⟨g', mk, t, L, e1, e2, hq, h1, hL, h2, h3⟩, st⟩ := vx_callVW X hx (C := C) (hh := hh) (bytes := bytes) (maxL := maxL) (ret := ret) ho hl hin hse hcode hy hK (by rw [hT]; exact hcB) hoB hclB hg (hsize.trans hml.symm) (argsL := As) (rest := rest) (fun sig h => hn.trans (hlen sig h)) hstack hW (by rw [hb]; exact hdg)
    (fun vm₁ hW₁ => ⟨hf.1, hf.2, hPc (T.setVm vm₁) hT hW₁⟩)
  dsimp only [Pt.U, Pt.locs, Pt.cells, Pt.slots] at X' e1 e2 h1 h2 h3 st
  subst h1; subst h2; subst h3
  exact ⟨v, (T.setVm vm₁).calling g' mk (Value.ref b :: As).toArray, t, U', L, hT, X', hL, e1, e2, hq, st⟩
section
variable {y : MethodName} {bytes cc : ByteArray} {maxL nL mc ms n index : Nat} {ret : Option FieldType} {ws : List Cond} {rm : Room} {Pc : Array Value → State → Prop} {Qc : Array Value → State → Outcome → State → Prop} {XC : String → State → State → Prop} {free : Addr → Prop} {Ts : List Cond} {own C : String} {b : Addr} {As rest : List Value} {g : JFrame}
theorem vx_runVX {hh : List (Nat × Nat × Nat × Nat)} (S : CallFix p m c cc nL s args Ts own) (hM : vx_Met l y ws rm Pc Qc XC mc ms free) (cw : vx_CVW R s args own C index y bytes maxL ret hh ws rm mc ms n) (hp : PreV s H C b Pc As)
    (hg : g.method = m) (hn : As.length = n) (hsize : g.locals.size = nL) (hstack : g.stack = As.reverse ++ .ref b :: rest) (hW : 2 * g.monitorRoom + (rest.map fun v => v.category).sum ≤ 8) (hdg : decode cc g.pc = .ok (.invokevirtual index, 3)) (hf : cells + mc ≤ R.cells ∧ slots + ms ≤ R.slots) :
    vx_Run p l e R s m args below meth c H locs cells slots mc ms g rest (Qc (Value.ref b :: As).toArray) XC free := by
  obtain ⟨⟨hrc, hrs, hfr, hlo, hws, hcw⟩, hcode, hini, hy, hlen, hl, hin, hse⟩ := cw
  have hK : vx_Back l R p e below s args y 3 8 (PreOf R mc ms Pc) (PostOf Qc mc ms free) (vx_Post XC mc ms free) := vx_backW (hh := hh) (bytes := bytes) (maxL := maxL) (ret := ret) hM hp.1 hrc hrs hfr hlo hws hcw (fun a' U hW => word_at hW (Or.inl (by first | rfl | simp [Cond.onTables, Cond.keeps, Cond.steady])) hini)
  obtain ⟨hx, hb, hml, ho, -⟩ := S
  obtain ⟨-, ⟨cellB, hcB, hoB, hclB⟩, hPc⟩ := hp
  intro T hT X
  rcases vx_callVX X hx (C := C) (hh := hh) (bytes := bytes) (maxL := maxL) (ret := ret) ho hl hin hse hcode hy hK (by rw [hT]; exact hcB) hoB hclB hg (hsize.trans hml.symm) (argsL := As) (rest := rest) (fun sig h => hn.trans (hlen sig h)) hstack hW (by rw [hb]; exact hdg)
    (fun vm₁ hW₁ => ⟨hf.1, hf.2, hPc (T.setVm vm₁) hT hW₁⟩) with ⟨v, vm₁, ⟨U', l2, c2, s2⟩, hW₁, X', ⟨g', mk, t, L, e1, e2, hq, h1, hL, h2, h3⟩, st⟩ | ⟨q, vm₁, ⟨U', l2, c2, s2⟩, hW₁, X', ⟨g', mk, t, L, E, ce, e1, e2, hq, hce, hcv, hcl, h1, hL, h2, h3⟩, st⟩
  · dsimp only [Pt.U, Pt.locs, Pt.cells, Pt.slots] at X' e1 e2 h1 h2 h3 st
    subst h1; subst h2; subst h3
    exact Or.inl ⟨v, (T.setVm vm₁).calling g' mk (Value.ref b :: As).toArray, t, U', L, hT, X', hL, e1, e2, hq, st⟩
  · dsimp only [Pt.U, Pt.locs, Pt.cells, Pt.slots] at X' e1 e2 h1 h2 h3 st hcl
    subst h1; subst h2; subst h3
    exact Or.inr ⟨q, (T.setVm vm₁).calling g' mk (Value.ref b :: As).toArray, t, U', L, E, ce, hT, X', hL, e1, e2, hq, hce, hcv, vx_cls hW₁ hcl, st⟩
theorem vx_runSX {hh : List (Nat × Nat × Nat × Nat)} (S : CallFix p m c cc nL s args Ts own) (hM : vx_Met l y ws rm Pc Qc XC mc ms free) (cw : vx_CSW R s args own index y bytes maxL ret hh ws rm mc ms n) (hp : PreS s H Pc As)
    (hg : g.method = m) (hn : As.length = n) (hsize : g.locals.size = nL) (hstack : g.stack = As.reverse ++ rest) (hW : 2 * g.monitorRoom + (rest.map fun v => v.category).sum ≤ 8) (hdg : decode cc g.pc = .ok (.invokestatic index, 3)) (hf : cells + mc ≤ R.cells ∧ slots + ms ≤ R.slots) :
    vx_Run p l e R s m args below meth c H locs cells slots mc ms g rest (Qc As.toArray) XC free := by
  obtain ⟨⟨hrc, hrs, hfr, hlo, hws, hcw⟩, hcode, hini, hy, hlen, hl, hstt⟩ := cw
  have hK : vx_Back l R p e below s args y 3 8 (PreOf R mc ms Pc) (PostOf Qc mc ms free) (vx_Post XC mc ms free) := vx_backW (hh := hh) (bytes := bytes) (maxL := maxL) (ret := ret) hM hp.1 hrc hrs hfr hlo hws hcw (fun a' U hW => word_at hW (Or.inl (by first | rfl | simp [Cond.onTables, Cond.keeps, Cond.steady])) hini)
  obtain ⟨hx, hb, hml, ho, -⟩ := S
  intro T hT X
  rcases vx_callSX X hx (hh := hh) (bytes := bytes) (maxL := maxL) (ret := ret) ho hl hstt hini hcode hy hK hg (hsize.trans hml.symm) (argsL := As) (rest := rest) (fun sig h => hn.trans (hlen sig h)) hstack hW (by rw [hb]; exact hdg)
    (fun vm₁ hW₁ => ⟨hf.1, hf.2, hp.2 (T.setVm vm₁) hT hW₁⟩) with ⟨v, vm₁, ⟨U', l2, c2, s2⟩, hW₁, X', ⟨g', mk, t, L, e1, e2, hq, h1, hL, h2, h3⟩, st⟩ | ⟨q, vm₁, ⟨U', l2, c2, s2⟩, hW₁, X', ⟨g', mk, t, L, E, ce, e1, e2, hq, hce, hcv, hcl, h1, hL, h2, h3⟩, st⟩
  · dsimp only [Pt.U, Pt.locs, Pt.cells, Pt.slots] at X' e1 e2 h1 h2 h3 st
    subst h1; subst h2; subst h3
    exact Or.inl ⟨v, (T.setVm vm₁).calling g' mk As.toArray, t, U', L, hT, X', hL, e1, e2, hq, st⟩
  · dsimp only [Pt.U, Pt.locs, Pt.cells, Pt.slots] at X' e1 e2 h1 h2 h3 st hcl
    subst h1; subst h2; subst h3
    exact Or.inr ⟨q, (T.setVm vm₁).calling g' mk As.toArray, t, U', L, E, ce, hT, X', hL, e1, e2, hq, hce, hcv, vx_cls hW₁ hcl, st⟩
end
end VXH
theorem vx_ofWH {l : Launch} {y : MethodName} {ws ws' : List Cond} {rm : Room} {Pc : Array Value → State → Prop} {Qc : Array Value → State → Outcome → State → Prop} {XC : String → State → State → Prop} {mc ms : Nat} {free : Addr → Prop} {cc : ByteArray} {maxL : Nat} {ret : Option FieldType} {hh : List (Nat × Nat × Nat × Nat)}
    (hy : plainName y.cls = true) (hw : ws = Cond.codeWith y cc maxL ret hh :: ws')
    (body : ∀ p e s m args below meth c s₁, BodyLoose p l y (headSpec ws rm) cc maxL ret e s m args below meth c s₁ → c.maxLocals = maxL → Pc args s →
      W p l e (headSpec ws rm).room s m args below meth c s.heap [] 0 0 (vx_MQ below Qc XC args s mc ms free) (entryFrame m args maxL)) : vx_Met l y ws rm Pc Qc XC mc ms free := by
  refine MetFree.of_bodyS (code := cc) (maxLocals := maxL) (ret := ret) hy ?_ ?_
  · intro args s m h hn
    obtain ⟨m9, meth, c, hn9, h1, h2, h3, h4, -, h5, h6, -⟩ := Cond.codeWith_spec (atoms_spec (ws := ws) h _ (by rw [hw]; exact List.mem_cons_self))
    cases hn.symm.trans hn9
    exact ⟨meth, c, h1, h2, h3, h4, h5, h6⟩
  · intro p e s m args below meth c s₁ B hml hP _
    have hh0 : s₁.heap = s.heap := by rw [B.state]; rfl
    obtain ⟨t, a1, o, b1, b2, b3⟩ := body p e s m args below meth c s₁ B hml hP s₁ hh0 (Stand.of_body B)
    exact ⟨t, o, a1, b1, b2, b3⟩
/-! ===== END ===== -/
def RX0 : String := "TemplateScopes$ByParts"
def TX0 : u_T := fun k => match k with
  | 0 => ("TemplateScopes$ByParts", "rendering", "LTemplateScopes$Rendering;", true)
  | 1 => ("TemplateScopes$ByParts", "scopes", "LTemplateScopes$Scopes;", true)
  | _ => ("TemplateScopes$ByParts", "outcome", "LTemplateScopes$Outcome;", true)
def tyX0 : Nat → FieldType := fun k => match k with
  | 0 => .object "TemplateScopes$Rendering"
  | 1 => .object "TemplateScopes$Scopes"
  | _ => .object "TemplateScopes$Outcome"
theorem nmX0 : ∀ a, a < 3 → ∀ b, b < 3 → a ≠ b → (TX0 a).2.1 ≠ (TX0 b).2.1 := by decide +kernel
theorem tyX0_ok : ∀ k, k < 3 → parseFieldDescriptor (TX0 k).2.2.1 = some (tyX0 k) := by decide +kernel
def RX1 : String := "TemplateScopes$ByText"
def TX1 : u_T := fun k => match k with
  | 0 => ("TemplateScopes$ByText", "rendering", "LTemplateScopes$Rendering;", true)
  | 1 => ("TemplateScopes$ByText", "scopes", "LTemplateScopes$Scopes;", true)
  | 2 => ("TemplateScopes$ByText", "reader", "LTemplateScopes$Template;", true)
  | 3 => ("TemplateScopes$ByText", "texts", "LTemplateScopes$Texts;", true)
  | 4 => ("TemplateScopes$ByText", "level", "I", false)
  | 5 => ("TemplateScopes$ByText", "at", "I", false)
  | 6 => ("TemplateScopes$ByText", "signs", "[I", true)
  | 7 => ("TemplateScopes$ByText", "namesOf", "[I", true)
  | 8 => ("TemplateScopes$ByText", "backs", "[I", true)
  | 9 => ("TemplateScopes$ByText", "rows", "[I", true)
  | 10 => ("TemplateScopes$ByText", "passes", "[I", true)
  | _ => ("TemplateScopes$ByText", "openCount", "I", false)
def tyX1 : Nat → FieldType := fun k => match k with
  | 0 => .object "TemplateScopes$Rendering"
  | 1 => .object "TemplateScopes$Scopes"
  | 2 => .object "TemplateScopes$Template"
  | 3 => .object "TemplateScopes$Texts"
  | 4 => .int
  | 5 => .int
  | 6 => .array .int
  | 7 => .array .int
  | 8 => .array .int
  | 9 => .array .int
  | 10 => .array .int
  | _ => .int
theorem nmX1 : ∀ a, a < 12 → ∀ b, b < 12 → a ≠ b → (TX1 a).2.1 ≠ (TX1 b).2.1 := by decide +kernel
theorem tyX1_ok : ∀ k, k < 12 → parseFieldDescriptor (TX1 k).2.2.1 = some (tyX1 k) := by decide +kernel
def RX2 : String := "TemplateScopes$History"
def TX2 : u_T := fun k => match k with
  | 0 => ("TemplateScopes$History", "states", "[LTemplateScopes$State;", true)
  | _ => ("TemplateScopes$History", "count", "I", false)
def tyX2 : Nat → FieldType := fun k => match k with
  | 0 => .array (.object "TemplateScopes$State")
  | _ => .int
theorem nmX2 : ∀ a, a < 2 → ∀ b, b < 2 → a ≠ b → (TX2 a).2.1 ≠ (TX2 b).2.1 := by decide +kernel
theorem tyX2_ok : ∀ k, k < 2 → parseFieldDescriptor (TX2 k).2.2.1 = some (tyX2 k) := by decide +kernel
def RX3 : String := "TemplateScopes$Outcome"
def TX3 : u_T := fun k => match k with
  | 0 => ("TemplateScopes$Outcome", "output", "LTemplateScopes$Texts;", true)
  | 1 => ("TemplateScopes$Outcome", "places", "[I", true)
  | 2 => ("TemplateScopes$Outcome", "placeCount", "I", false)
  | 3 => ("TemplateScopes$Outcome", "reason", "I", false)
  | 4 => ("TemplateScopes$Outcome", "stepsCounted", "I", false)
  | 5 => ("TemplateScopes$Outcome", "ofPlain", "I", false)
  | 6 => ("TemplateScopes$Outcome", "ofEscapes", "I", false)
  | _ => ("TemplateScopes$Outcome", "ofValues", "I", false)
def tyX3 : Nat → FieldType := fun k => match k with
  | 0 => .object "TemplateScopes$Texts"
  | 1 => .array .int
  | 2 => .int
  | 3 => .int
  | 4 => .int
  | 5 => .int
  | 6 => .int
  | _ => .int
theorem nmX3 : ∀ a, a < 8 → ∀ b, b < 8 → a ≠ b → (TX3 a).2.1 ≠ (TX3 b).2.1 := by decide +kernel
theorem tyX3_ok : ∀ k, k < 8 → parseFieldDescriptor (TX3 k).2.2.1 = some (tyX3 k) := by decide +kernel
def RX4 : String := "TemplateScopes$Rendering"
def TX4 : u_T := fun k => match k with
  | 0 => ("TemplateScopes$Rendering", "outcome", "LTemplateScopes$Outcome;", true)
  | 1 => ("TemplateScopes$Rendering", "scopes", "LTemplateScopes$Scopes;", true)
  | 2 => ("TemplateScopes$Rendering", "settings", "LTemplateScopes$Texts;", true)
  | _ => ("TemplateScopes$Rendering", "settingsOpen", "I", false)
def tyX4 : Nat → FieldType := fun k => match k with
  | 0 => .object "TemplateScopes$Outcome"
  | 1 => .object "TemplateScopes$Scopes"
  | 2 => .object "TemplateScopes$Texts"
  | _ => .int
theorem nmX4 : ∀ a, a < 4 → ∀ b, b < 4 → a ≠ b → (TX4 a).2.1 ≠ (TX4 b).2.1 := by decide +kernel
theorem tyX4_ok : ∀ k, k < 4 → parseFieldDescriptor (TX4 k).2.2.1 = some (tyX4 k) := by decide +kernel
def RX5 : String := "TemplateScopes$Scopes"
def TX5 : u_T := fun k => match k with
  | 0 => ("TemplateScopes$Scopes", "texts", "LTemplateScopes$Texts;", true)
  | _ => ("TemplateScopes$Scopes", "openCount", "I", false)
def tyX5 : Nat → FieldType := fun k => match k with
  | 0 => .object "TemplateScopes$Texts"
  | _ => .int
theorem nmX5 : ∀ a, a < 2 → ∀ b, b < 2 → a ≠ b → (TX5 a).2.1 ≠ (TX5 b).2.1 := by decide +kernel
theorem tyX5_ok : ∀ k, k < 2 → parseFieldDescriptor (TX5 k).2.2.1 = some (tyX5 k) := by decide +kernel
def RX6 : String := "TemplateScopes$State"
def TX6 : u_T := fun k => match k with
  | 0 => ("TemplateScopes$State", "values", "LTemplateScopes$Texts;", true)
  | 1 => ("TemplateScopes$State", "outcome", "LTemplateScopes$Outcome;", true)
  | 2 => ("TemplateScopes$State", "renderingsSoFar", "I", false)
  | 3 => ("TemplateScopes$State", "failuresSoFar", "I", false)
  | _ => ("TemplateScopes$State", "printedSoFar", "I", false)
def tyX6 : Nat → FieldType := fun k => match k with
  | 0 => .object "TemplateScopes$Texts"
  | 1 => .object "TemplateScopes$Outcome"
  | 2 => .int
  | 3 => .int
  | _ => .int
theorem nmX6 : ∀ a, a < 5 → ∀ b, b < 5 → a ≠ b → (TX6 a).2.1 ≠ (TX6 b).2.1 := by decide +kernel
theorem tyX6_ok : ∀ k, k < 5 → parseFieldDescriptor (TX6 k).2.2.1 = some (tyX6 k) := by decide +kernel
def RX7 : String := "TemplateScopes$Template"
def TX7 : u_T := fun k => match k with
  | 0 => ("TemplateScopes$Template", "level", "I", true)
  | 1 => ("TemplateScopes$Template", "inner", "LTemplateScopes$Template;", true)
  | 2 => ("TemplateScopes$Template", "kinds", "[I", true)
  | 3 => ("TemplateScopes$Template", "places", "[I", true)
  | 4 => ("TemplateScopes$Template", "codes", "[I", true)
  | 5 => ("TemplateScopes$Template", "namesOf", "[I", true)
  | 6 => ("TemplateScopes$Template", "behinds", "[I", true)
  | 7 => ("TemplateScopes$Template", "open", "[I", true)
  | 8 => ("TemplateScopes$Template", "count", "I", false)
  | 9 => ("TemplateScopes$Template", "openCount", "I", false)
  | 10 => ("TemplateScopes$Template", "mostOpen", "I", false)
  | 11 => ("TemplateScopes$Template", "reading", "I", false)
  | 12 => ("TemplateScopes$Template", "error", "I", false)
  | _ => ("TemplateScopes$Template", "length", "I", false)
def tyX7 : Nat → FieldType := fun k => match k with
  | 0 => .int
  | 1 => .object "TemplateScopes$Template"
  | 2 => .array .int
  | 3 => .array .int
  | 4 => .array .int
  | 5 => .array .int
  | 6 => .array .int
  | 7 => .array .int
  | 8 => .int
  | 9 => .int
  | 10 => .int
  | 11 => .int
  | 12 => .int
  | _ => .int
theorem nmX7 : ∀ a, a < 14 → ∀ b, b < 14 → a ≠ b → (TX7 a).2.1 ≠ (TX7 b).2.1 := by decide +kernel
theorem tyX7_ok : ∀ k, k < 14 → parseFieldDescriptor (TX7 k).2.2.1 = some (tyX7 k) := by decide +kernel
def RX8 : String := "TemplateScopes$Texts"
def TX8 : u_T := fun k => match k with
  | 0 => ("TemplateScopes$Texts", "width", "I", true)
  | 1 => ("TemplateScopes$Texts", "codes", "[C", true)
  | _ => ("TemplateScopes$Texts", "lengths", "[I", true)
def tyX8 : Nat → FieldType := fun k => match k with
  | 0 => .int
  | 1 => .array .char
  | _ => .array .int
theorem nmX8 : ∀ a, a < 3 → ∀ b, b < 3 → a ≠ b → (TX8 a).2.1 ≠ (TX8 b).2.1 := by decide +kernel
theorem tyX8_ok : ∀ k, k < 3 → parseFieldDescriptor (TX8 k).2.2.1 = some (tyX8 k) := by decide +kernel
def RX9 : String := "TemplateScopes"
def TX9 : u_T := fun k => match k with
  | 0 => ("TemplateScopes", "buffer", "LTemplateScopes$Texts;", true)
  | 1 => ("TemplateScopes", "escaped", "LTemplateScopes$Texts;", true)
  | 2 => ("TemplateScopes", "template", "LTemplateScopes$Template;", true)
  | 3 => ("TemplateScopes", "rendering", "LTemplateScopes$Rendering;", true)
  | 4 => ("TemplateScopes", "byParts", "LTemplateScopes$ByParts;", true)
  | 5 => ("TemplateScopes", "byText", "LTemplateScopes$ByText;", true)
  | 6 => ("TemplateScopes", "now", "LTemplateScopes$State;", true)
  | 7 => ("TemplateScopes", "snapshot", "LTemplateScopes$State;", true)
  | 8 => ("TemplateScopes", "history", "LTemplateScopes$History;", true)
  | _ => ("TemplateScopes", "hasSnapshot", "Z", false)
def tyX9 : Nat → FieldType := fun k => match k with
  | 0 => .object "TemplateScopes$Texts"
  | 1 => .object "TemplateScopes$Texts"
  | 2 => .object "TemplateScopes$Template"
  | 3 => .object "TemplateScopes$Rendering"
  | 4 => .object "TemplateScopes$ByParts"
  | 5 => .object "TemplateScopes$ByText"
  | 6 => .object "TemplateScopes$State"
  | 7 => .object "TemplateScopes$State"
  | 8 => .object "TemplateScopes$History"
  | _ => .boolean
theorem nmX9 : ∀ a, a < 10 → ∀ b, b < 10 → a ≠ b → (TX9 a).2.1 ≠ (TX9 b).2.1 := by decide +kernel
theorem tyX9_ok : ∀ k, k < 10 → parseFieldDescriptor (TX9 k).2.2.1 = some (tyX9 k) := by decide +kernel
def RX10 : String := "TemplateScopesModel"
def TX10 : u_T := fun k => match k with
  | 0 => ("TemplateScopesModel", "thrown", "I", false)
  | 1 => ("TemplateScopesModel", "s", "[I", true)
  | 2 => ("TemplateScopesModel", "saved", "[I", true)
  | 3 => ("TemplateScopesModel", "savedMany", "I", false)
  | 4 => ("TemplateScopesModel", "snapshot", "[I", true)
  | 5 => ("TemplateScopesModel", "isKept", "Z", false)
  | 6 => ("TemplateScopesModel", "buffer", "[I", true)
  | 7 => ("TemplateScopesModel", "length", "I", false)
  | 8 => ("TemplateScopesModel", "signs", "[I", true)
  | 9 => ("TemplateScopesModel", "signsMany", "I", false)
  | 10 => ("TemplateScopesModel", "partsMany", "I", false)
  | 11 => ("TemplateScopesModel", "deepest", "I", false)
  | 12 => ("TemplateScopesModel", "namesMask", "I", false)
  | 13 => ("TemplateScopesModel", "setMask", "I", false)
  | 14 => ("TemplateScopesModel", "loopsMany", "I", false)
  | 15 => ("TemplateScopesModel", "deep", "I", false)
  | 16 => ("TemplateScopesModel", "kind", "I", false)
  | 17 => ("TemplateScopesModel", "isWhole", "Z", false)
  | 18 => ("TemplateScopesModel", "output", "[I", true)
  | 19 => ("TemplateScopesModel", "outputMany", "I", false)
  | 20 => ("TemplateScopesModel", "reason", "I", false)
  | 21 => ("TemplateScopesModel", "places", "[I", true)
  | 22 => ("TemplateScopesModel", "placesMany", "I", false)
  | 23 => ("TemplateScopesModel", "steps", "I", false)
  | 24 => ("TemplateScopesModel", "plain", "I", false)
  | 25 => ("TemplateScopesModel", "escapes", "I", false)
  | 26 => ("TemplateScopesModel", "valued", "I", false)
  | 27 => ("TemplateScopesModel", "scope", "[I", true)
  | 28 => ("TemplateScopesModel", "scopes", "I", false)
  | 29 => ("TemplateScopesModel", "settingMany", "[I", true)
  | 30 => ("TemplateScopesModel", "settingText", "[I", true)
  | 31 => ("TemplateScopesModel", "settings", "I", false)
  | 32 => ("TemplateScopesModel", "includedAt", "[I", true)
  | 33 => ("TemplateScopesModel", "includedMany", "[I", true)
  | 34 => ("TemplateScopesModel", "included", "I", false)
  | 35 => ("TemplateScopesModel", "openSign", "[I", true)
  | 36 => ("TemplateScopesModel", "openFrom", "[I", true)
  | 37 => ("TemplateScopesModel", "openNext", "[I", true)
  | 38 => ("TemplateScopesModel", "openParts", "[I", true)
  | 39 => ("TemplateScopesModel", "openName", "[I", true)
  | 40 => ("TemplateScopesModel", "openPass", "[I", true)
  | 41 => ("TemplateScopesModel", "openMany", "[I", true)
  | 42 => ("TemplateScopesModel", "openText", "[I", true)
  | 43 => ("TemplateScopesModel", "open", "I", false)
  | _ => ("TemplateScopesModel", "hash", "J", false)
def tyX10 : Nat → FieldType := fun k => match k with
  | 0 => .int
  | 1 => .array .int
  | 2 => .array .int
  | 3 => .int
  | 4 => .array .int
  | 5 => .boolean
  | 6 => .array .int
  | 7 => .int
  | 8 => .array .int
  | 9 => .int
  | 10 => .int
  | 11 => .int
  | 12 => .int
  | 13 => .int
  | 14 => .int
  | 15 => .int
  | 16 => .int
  | 17 => .boolean
  | 18 => .array .int
  | 19 => .int
  | 20 => .int
  | 21 => .array .int
  | 22 => .int
  | 23 => .int
  | 24 => .int
  | 25 => .int
  | 26 => .int
  | 27 => .array .int
  | 28 => .int
  | 29 => .array .int
  | 30 => .array .int
  | 31 => .int
  | 32 => .array .int
  | 33 => .array .int
  | 34 => .int
  | 35 => .array .int
  | 36 => .array .int
  | 37 => .array .int
  | 38 => .array .int
  | 39 => .array .int
  | 40 => .array .int
  | 41 => .array .int
  | 42 => .array .int
  | 43 => .int
  | _ => .long
theorem nmX10 : ∀ a, a < 45 → ∀ b, b < 45 → a ≠ b → (TX10 a).2.1 ≠ (TX10 b).2.1 := by decide +kernel
theorem tyX10_ok : ∀ k, k < 45 → parseFieldDescriptor (TX10 k).2.2.1 = some (tyX10 k) := by decide +kernel
def RL : String := "TemplateScopesLaw"
abbrev vwCl : List vw_C := [(RX0, TX0, 3), (RX1, TX1, 12), (RX2, TX2, 2), (RX3, TX3, 8), (RX4, TX4, 4), (RX5, TX5, 2), (RX6, TX6, 5), (RX7, TX7, 14), (RX8, TX8, 3), (RX9, TX9, 10), (RX10, TX10, 45)]
end
section
/-! ===== the methods and what their instructions name: tables by program ===== -/
def xfind : List (Nat × Instr) → Nat → Option Instr
  | [], _ => none
  | (a, o) :: r, p => bif Nat.beq a p then some o else xfind r p
def xfin {α : Type} : List (Nat × α) → Nat → Option α
  | [], _ => none
  | (a, o) :: r, p => bif Nat.beq a p then some o else xfin r p
/-- TemplateScopes$ByParts.<init>(LTemplateScopes$Rendering;)V -/
def xk_0 : List (Nat × Instr) := [(0, .aload_n 0), (1, .invokespecial 3), (4, .aload_n 0), (5, .aload_n 1), (6, .putfield 9), (9, .aload_n 0), (10, .aload_n 1), (11, .getfield 15), (14, .putfield 21), (17, .aload_n 0), (18, .aload_n 1), (19, .getfield 22), (22, .putfield 26), (25, .return_)]
/-- TemplateScopes$ByParts.runList(LTemplateScopes$Template;III)I -/
def xk_1 : List (Nat × Instr) := [(0, .iload 4), (2, .bipush 40), (4, .if_icmp .lt 5), (7, .iconst 4), (8, .ireturn), (9, .iload_n 2), (10, .istore 5), (12, .iconst 0), (13, .istore 6), (15, .iload 6), (17, .bipush 60), (19, .if_icmp .ge 61), (22, .iload 5), (24, .iload_n 3), (25, .if_icmp .ge 55), (28, .aload_n 0), (29, .aload_n 1), (30, .iload 5), (32, .iload 4), (34, .invokevirtual 27), (37, .istore 7), (39, .iload 7), (41, .ifCond .eq 25), (44, .aload_n 0), (45, .getfield 26), (48, .iload 7), (50, .aload_n 1), (51, .getfield 31), (54, .aload_n 1), (55, .iload 5), (57, .invokevirtual 37), (60, .invokevirtual 41), (63, .iload 7), (65, .ireturn), (66, .aload_n 1), (67, .iload 5), (69, .invokevirtual 47), (72, .istore 5), (74, .iinc 6 1), (77, .goto (-62)), (80, .iconst 0), (81, .ireturn)]
/-- TemplateScopes$ByParts.runPart(LTemplateScopes$Template;II)I -/
def xk_2 : List (Nat × Instr) := [(0, .aload_n 0), (1, .getfield 9), (4, .invokevirtual 50), (7, .istore 4), (9, .iload 4), (11, .ifCond .eq 6), (14, .iload 4), (16, .ireturn), (17, .aload_n 1), (18, .iload_n 2), (19, .invokevirtual 54), (22, .istore 5), (24, .iload 5), (26, .tableswitch 85 2 7 #[38, 38, 53, 61, 69, 77]), (64, .aload_n 0), (65, .getfield 9), (68, .aload_n 1), (69, .iload_n 2), (70, .invokevirtual 57), (73, .iload 5), (75, .invokevirtual 60), (78, .ireturn), (79, .aload_n 0), (80, .aload_n 1), (81, .iload_n 2), (82, .iload_n 3), (83, .invokevirtual 64), (86, .ireturn), (87, .aload_n 0), (88, .aload_n 1), (89, .iload_n 2), (90, .iload_n 3), (91, .invokevirtual 67), (94, .ireturn), (95, .aload_n 0), (96, .aload_n 1), (97, .iload_n 2), (98, .iload_n 3), (99, .invokevirtual 70), (102, .ireturn), (103, .aload_n 0), (104, .aload_n 1), (105, .iload_n 2), (106, .iload_n 3), (107, .invokevirtual 73), (110, .ireturn), (111, .aload_n 0), (112, .getfield 9), (115, .aload_n 1), (116, .iload_n 2), (117, .invokevirtual 76), (120, .iload 5), (122, .invokevirtual 79), (125, .ireturn)]
/-- TemplateScopes$ByParts.runIncluded(LTemplateScopes$Template;II)I -/
def xk_3 : List (Nat × Instr) := [(0, .aload_n 0), (1, .getfield 21), (4, .aload_n 1), (5, .iload_n 2), (6, .invokevirtual 57), (9, .invokevirtual 86), (12, .istore 4), (14, .iload 4), (16, .iconst (-1)), (17, .if_icmp .ne 5), (20, .iconst 1), (21, .ireturn), (22, .aload_n 1), (23, .getfield 91), (26, .astore 5), (28, .aload 5), (30, .ifnonnull 5), (33, .iconst 4), (34, .ireturn), (35, .aload 5), (37, .aload_n 0), (38, .getfield 21), (41, .getfield 95), (44, .iload 4), (46, .invokevirtual 99), (49, .aload_n 0), (50, .getfield 26), (53, .aload_n 1), (54, .getfield 31), (57, .aload_n 1), (58, .iload_n 2), (59, .invokevirtual 37), (62, .invokevirtual 103), (65, .aload 5), (67, .invokevirtual 107), (70, .ifCond .ne 23), (73, .aload_n 0), (74, .getfield 26), (77, .iconst 5), (78, .aload 5), (80, .getfield 31), (83, .aload 5), (85, .invokevirtual 111), (88, .invokevirtual 41), (91, .iconst 5), (92, .ireturn), (93, .aload_n 0), (94, .getfield 21), (97, .invokevirtual 114), (100, .ifCond .ne 5), (103, .iconst 4), (104, .ireturn), (105, .aload_n 0), (106, .aload 5), (108, .iconst 0), (109, .aload 5), (111, .invokevirtual 117), (114, .iload_n 3), (115, .iconst 1), (116, .iadd), (117, .invokevirtual 82), (120, .istore 6), (122, .aload_n 0), (123, .getfield 21), (126, .invokevirtual 120), (129, .iload 6), (131, .ireturn)]
/-- TemplateScopes$ByParts.runLoop(LTemplateScopes$Template;II)I -/
def xk_4 : List (Nat × Instr) := [(0, .aload_n 0), (1, .getfield 21), (4, .aload_n 1), (5, .iload_n 2), (6, .invokevirtual 57), (9, .invokevirtual 86), (12, .istore 4), (14, .iload 4), (16, .iconst (-1)), (17, .if_icmp .ne 5), (20, .iconst 1), (21, .ireturn), (22, .aload_n 0), (23, .getfield 21), (26, .getfield 95), (29, .iload 4), (31, .invokevirtual 123), (34, .istore 5), (36, .iconst 0), (37, .istore 6), (39, .iconst 0), (40, .istore 7), (42, .iload 7), (44, .iload 5), (46, .if_icmp .ge 46), (49, .iload 6), (51, .ifCond .ne 41), (54, .aload_n 0), (55, .getfield 21), (58, .iload 4), (60, .iload 7), (62, .invokevirtual 128), (65, .ifCond .ne 5), (68, .iconst 4), (69, .ireturn), (70, .aload_n 0), (71, .aload_n 1), (72, .iload_n 2), (73, .iload_n 3), (74, .invokevirtual 132), (77, .istore 6), (79, .aload_n 0), (80, .getfield 21), (83, .invokevirtual 120), (86, .iinc 7 1), (89, .goto (-47)), (92, .iload 6), (94, .ireturn)]
/-- TemplateScopes$ByParts.runWithin(LTemplateScopes$Template;II)I -/
def xk_5 : List (Nat × Instr) := [(0, .aload_n 0), (1, .aload_n 1), (2, .iload_n 2), (3, .iconst 1), (4, .iadd), (5, .aload_n 1), (6, .iload_n 2), (7, .invokevirtual 47), (10, .iload_n 3), (11, .iconst 1), (12, .iadd), (13, .invokevirtual 82), (16, .ireturn)]
/-- TemplateScopes$ByParts.runCondition(LTemplateScopes$Template;II)I -/
def xk_6 : List (Nat × Instr) := [(0, .aload_n 0), (1, .getfield 9), (4, .aload_n 1), (5, .iload_n 2), (6, .invokevirtual 57), (9, .invokevirtual 135), (12, .ifCond .ne 5), (15, .iconst 0), (16, .ireturn), (17, .aload_n 0), (18, .aload_n 1), (19, .iload_n 2), (20, .iload_n 3), (21, .invokevirtual 132), (24, .ireturn)]
/-- TemplateScopes$ByParts.runSetting(LTemplateScopes$Template;II)I -/
def xk_7 : List (Nat × Instr) := [(0, .aload_n 0), (1, .getfield 9), (4, .invokevirtual 139), (7, .istore 4), (9, .iload 4), (11, .ifCond .ne 12), (14, .aload_n 0), (15, .aload_n 1), (16, .iload_n 2), (17, .iload_n 3), (18, .invokevirtual 132), (21, .istore 4), (23, .iload 4), (25, .ifCond .ne 15), (28, .aload_n 0), (29, .getfield 9), (32, .aload_n 1), (33, .iload_n 2), (34, .invokevirtual 57), (37, .invokevirtual 142), (40, .iload 4), (42, .ireturn)]
/-- TemplateScopes$ByText.<init>(LTemplateScopes$Rendering;)V -/
def xk_8 : List (Nat × Instr) := [(0, .aload_n 0), (1, .invokespecial 3), (4, .aload_n 0), (5, .aload_n 1), (6, .putfield 9), (9, .aload_n 0), (10, .aload_n 1), (11, .getfield 15), (14, .putfield 21), (17, .aload_n 0), (18, .new 22), (21, .dup), (22, .iconst 0), (23, .aconst_null), (24, .invokespecial 24), (27, .putfield 27), (30, .aload_n 0), (31, .new 31), (34, .dup), (35, .iconst 5), (36, .bipush 60), (38, .invokespecial 33), (41, .putfield 36), (44, .aload_n 0), (45, .bipush 40), (47, .newarray .int), (49, .putfield 40), (52, .aload_n 0), (53, .bipush 40), (55, .newarray .int), (57, .putfield 44), (60, .aload_n 0), (61, .bipush 40), (63, .newarray .int), (65, .putfield 47), (68, .aload_n 0), (69, .bipush 40), (71, .newarray .int), (73, .putfield 50), (76, .aload_n 0), (77, .bipush 40), (79, .newarray .int), (81, .putfield 53), (84, .return_)]
/-- TemplateScopes$ByText.run(LTemplateScopes$Texts;)V -/
def xk_9 : List (Nat × Instr) := [(0, .aload_n 0), (1, .getfield 36), (4, .iconst 0), (5, .aload_n 1), (6, .iconst 0), (7, .invokevirtual 56), (10, .aload_n 0), (11, .iconst 0), (12, .putfield 60), (15, .aload_n 0), (16, .iconst 0), (17, .putfield 64), (20, .aload_n 0), (21, .iconst 0), (22, .putfield 67), (25, .iconst 1), (26, .istore_n 2), (27, .iconst 0), (28, .istore_n 3), (29, .iload_n 3), (30, .ldc 70), (32, .if_icmp .ge 85), (35, .iload_n 2), (36, .ifCond .eq 81), (39, .aload_n 0), (40, .getfield 64), (43, .aload_n 0), (44, .getfield 36), (47, .aload_n 0), (48, .getfield 60), (51, .invokevirtual 71), (54, .if_icmp .lt 26), (57, .aload_n 0), (58, .getfield 60), (61, .ifCond .le 14), (64, .aload_n 0), (65, .invokevirtual 75), (68, .ifCond .eq 7), (71, .iconst 1), (72, .goto 4), (75, .iconst 0), (76, .istore_n 2), (77, .goto 34), (80, .aload_n 0), (81, .iconst 0), (82, .invokevirtual 79), (85, .bipush 125), (87, .if_icmp .ne 11), (90, .aload_n 0), (91, .invokevirtual 82), (94, .istore_n 2), (95, .goto 16), (98, .aload_n 0), (99, .invokevirtual 85), (102, .ifCond .ne 7), (105, .iconst 1), (106, .goto 4), (109, .iconst 0), (110, .istore_n 2), (111, .iinc 3 1), (114, .goto (-85)), (117, .return_)]
/-- TemplateScopes$ByText.endIncluded()Z -/
def xk_10 : List (Nat × Instr) := [(0, .aload_n 0), (1, .getfield 67), (4, .iconst 1), (5, .isub), (6, .istore_n 1), (7, .iload_n 1), (8, .ifCond .lt 12), (11, .iload_n 1), (12, .aload_n 0), (13, .getfield 47), (16, .arraylength), (17, .if_icmp .lt 5), (20, .iconst 0), (21, .ireturn), (22, .aload_n 0), (23, .getfield 21), (26, .invokevirtual 137), (29, .aload_n 0), (30, .dup), (31, .getfield 60), (34, .iconst 1), (35, .isub), (36, .putfield 60), (39, .aload_n 0), (40, .aload_n 0), (41, .getfield 47), (44, .iload_n 1), (45, .iaload), (46, .putfield 64), (49, .aload_n 0), (50, .iload_n 1), (51, .putfield 67), (54, .iconst 1), (55, .ireturn)]
/-- TemplateScopes$ByText.codeAhead(I)I -/
def xk_11 : List (Nat × Instr) := [(0, .aload_n 0), (1, .getfield 36), (4, .aload_n 0), (5, .getfield 60), (8, .aload_n 0), (9, .getfield 64), (12, .iload_n 1), (13, .iadd), (14, .invokevirtual 89), (17, .ireturn)]
/-- TemplateScopes$ByText.endBlock()Z -/
def xk_12 : List (Nat × Instr) := [(0, .aload_n 0), (1, .getfield 67), (4, .iconst 1), (5, .isub), (6, .istore_n 1), (7, .iload_n 1), (8, .ifCond .lt 21), (11, .iload_n 1), (12, .aload_n 0), (13, .getfield 40), (16, .arraylength), (17, .if_icmp .ge 12), (20, .iload_n 1), (21, .aload_n 0), (22, .getfield 44), (25, .arraylength), (26, .if_icmp .lt 5), (29, .iconst 0), (30, .ireturn), (31, .aload_n 0), (32, .getfield 40), (35, .iload_n 1), (36, .iaload), (37, .bipush 42), (39, .if_icmp .ne 20), (42, .aload_n 0), (43, .getfield 21), (46, .invokevirtual 137), (49, .aload_n 0), (50, .iload_n 1), (51, .invokevirtual 153), (54, .ifCond .eq 5), (57, .iconst 1), (58, .ireturn), (59, .aload_n 0), (60, .getfield 40), (63, .iload_n 1), (64, .iaload), (65, .bipush 61), (67, .if_icmp .ne 16), (70, .aload_n 0), (71, .getfield 9), (74, .aload_n 0), (75, .getfield 44), (78, .iload_n 1), (79, .iaload), (80, .invokevirtual 156), (83, .aload_n 0), (84, .iload_n 1), (85, .putfield 67), (88, .aload_n 0), (89, .dup), (90, .getfield 64), (93, .iconst 1), (94, .iadd), (95, .putfield 64), (98, .iconst 1), (99, .ireturn)]
/-- TemplateScopes$ByText.beginNextPass(I)Z -/
def xk_13 : List (Nat × Instr) := [(0, .iload_n 1), (1, .ifCond .lt 30), (4, .iload_n 1), (5, .aload_n 0), (6, .getfield 53), (9, .arraylength), (10, .if_icmp .ge 21), (13, .iload_n 1), (14, .aload_n 0), (15, .getfield 50), (18, .arraylength), (19, .if_icmp .ge 12), (22, .iload_n 1), (23, .aload_n 0), (24, .getfield 47), (27, .arraylength), (28, .if_icmp .lt 5), (31, .iconst 0), (32, .ireturn), (33, .aload_n 0), (34, .getfield 53), (37, .iload_n 1), (38, .dup2), (39, .iaload), (40, .iconst 1), (41, .iadd), (42, .iastore), (43, .aload_n 0), (44, .getfield 53), (47, .iload_n 1), (48, .iaload), (49, .aload_n 0), (50, .getfield 21), (53, .getfield 122), (56, .aload_n 0), (57, .getfield 50), (60, .iload_n 1), (61, .iaload), (62, .invokevirtual 71), (65, .if_icmp .lt 5), (68, .iconst 0), (69, .ireturn), (70, .aload_n 0), (71, .aload_n 0), (72, .getfield 47), (75, .iload_n 1), (76, .iaload), (77, .putfield 64), (80, .aload_n 0), (81, .getfield 21), (84, .aload_n 0), (85, .getfield 50), (88, .iload_n 1), (89, .iaload), (90, .aload_n 0), (91, .getfield 53), (94, .iload_n 1), (95, .iaload), (96, .invokevirtual 143), (99, .ireturn)]
/-- TemplateScopes$ByText.beginPart()I -/
def xk_14 : List (Nat × Instr) := [(0, .aload_n 0), (1, .getfield 9), (4, .invokevirtual 93), (7, .istore_n 1), (8, .iload_n 1), (9, .ifCond .eq 5), (12, .iload_n 1), (13, .ireturn), (14, .aload_n 0), (15, .iconst 0), (16, .invokevirtual 79), (19, .istore_n 2), (20, .aload_n 0), (21, .iconst 1), (22, .invokevirtual 79), (25, .istore_n 3), (26, .iload_n 2), (27, .bipush 126), (29, .if_icmp .ne 23), (32, .aload_n 0), (33, .dup), (34, .getfield 64), (37, .iconst 2), (38, .iadd), (39, .putfield 64), (42, .aload_n 0), (43, .getfield 9), (46, .iload_n 3), (47, .iconst 1), (48, .invokevirtual 96), (51, .ireturn), (52, .iload_n 2), (53, .bipush 123), (55, .if_icmp .eq 23), (58, .aload_n 0), (59, .dup), (60, .getfield 64), (63, .iconst 1), (64, .iadd), (65, .putfield 64), (68, .aload_n 0), (69, .getfield 9), (72, .iload_n 2), (73, .iconst 0), (74, .invokevirtual 96), (77, .ireturn), (78, .aload_n 0), (79, .iconst 2), (80, .invokevirtual 79), (83, .invokestatic 99), (86, .istore 4), (88, .aload_n 0), (89, .dup), (90, .getfield 64), (93, .iload 4), (95, .iconst (-1)), (96, .if_icmp .ne 7), (99, .iconst 3), (100, .goto 4), (103, .iconst 4), (104, .iadd), (105, .putfield 64), (108, .iload_n 3), (109, .lookupswitch 90 #[(33, 51), (42, 69), (61, 83), (63, 76), (94, 62)]), (160, .aload_n 0), (161, .getfield 9), (164, .iload 4), (166, .iconst 3), (167, .invokevirtual 102), (170, .ireturn), (171, .aload_n 0), (172, .iload 4), (174, .invokevirtual 105), (177, .ireturn), (178, .aload_n 0), (179, .iload 4), (181, .invokevirtual 108), (184, .ireturn), (185, .aload_n 0), (186, .iload 4), (188, .invokevirtual 111), (191, .ireturn), (192, .aload_n 0), (193, .iload 4), (195, .invokevirtual 114), (198, .ireturn), (199, .aload_n 0), (200, .getfield 9), (203, .iload_n 3), (204, .invokestatic 99), (207, .iconst 2), (208, .invokevirtual 102), (211, .ireturn)]
/-- TemplateScopes$ByText.beginIncluded(I)I -/
def xk_15 : List (Nat × Instr) := [(0, .aload_n 0), (1, .getfield 21), (4, .iload_n 1), (5, .invokevirtual 117), (8, .istore_n 2), (9, .iload_n 2), (10, .iconst (-1)), (11, .if_icmp .ne 5), (14, .iconst 1), (15, .ireturn), (16, .aload_n 0), (17, .getfield 60), (20, .iconst 4), (21, .if_icmp .lt 5), (24, .iconst 4), (25, .ireturn), (26, .aload_n 0), (27, .getfield 27), (30, .aload_n 0), (31, .getfield 21), (34, .getfield 122), (37, .iload_n 2), (38, .invokevirtual 123), (41, .aload_n 0), (42, .getfield 27), (45, .invokevirtual 127), (48, .ifCond .ne 5), (51, .iconst 5), (52, .ireturn), (53, .aload_n 0), (54, .bipush 94), (56, .iload_n 1), (57, .iload_n 2), (58, .invokevirtual 130), (61, .ifCond .eq 13), (64, .aload_n 0), (65, .getfield 21), (68, .invokevirtual 134), (71, .ifCond .ne 5), (74, .iconst 4), (75, .ireturn), (76, .aload_n 0), (77, .dup), (78, .getfield 60), (81, .iconst 1), (82, .iadd), (83, .putfield 60), (86, .aload_n 0), (87, .getfield 36), (90, .aload_n 0), (91, .getfield 60), (94, .aload_n 0), (95, .getfield 21), (98, .getfield 122), (101, .iload_n 2), (102, .invokevirtual 56), (105, .aload_n 0), (106, .iconst 0), (107, .putfield 64), (110, .iconst 0), (111, .ireturn)]
/-- TemplateScopes$ByText.push(III)Z -/
def xk_16 : List (Nat × Instr) := [(0, .aload_n 0), (1, .getfield 67), (4, .istore 4), (6, .iload 4), (8, .ifCond .lt 53), (11, .iload 4), (13, .aload_n 0), (14, .getfield 40), (17, .arraylength), (18, .if_icmp .ge 43), (21, .iload 4), (23, .aload_n 0), (24, .getfield 44), (27, .arraylength), (28, .if_icmp .ge 33), (31, .iload 4), (33, .aload_n 0), (34, .getfield 47), (37, .arraylength), (38, .if_icmp .ge 23), (41, .iload 4), (43, .aload_n 0), (44, .getfield 50), (47, .arraylength), (48, .if_icmp .ge 13), (51, .iload 4), (53, .aload_n 0), (54, .getfield 53), (57, .arraylength), (58, .if_icmp .lt 5), (61, .iconst 0), (62, .ireturn), (63, .aload_n 0), (64, .getfield 40), (67, .iload 4), (69, .iload_n 1), (70, .iastore), (71, .aload_n 0), (72, .getfield 44), (75, .iload 4), (77, .iload_n 2), (78, .iastore), (79, .aload_n 0), (80, .getfield 47), (83, .iload 4), (85, .aload_n 0), (86, .getfield 64), (89, .iastore), (90, .aload_n 0), (91, .getfield 50), (94, .iload 4), (96, .iload_n 3), (97, .iastore), (98, .aload_n 0), (99, .getfield 53), (102, .iload 4), (104, .iconst 0), (105, .iastore), (106, .aload_n 0), (107, .dup), (108, .getfield 67), (111, .iconst 1), (112, .iadd), (113, .putfield 67), (116, .iconst 1), (117, .ireturn)]
/-- TemplateScopes$ByText.beginLoop(I)I -/
def xk_17 : List (Nat × Instr) := [(0, .aload_n 0), (1, .getfield 21), (4, .iload_n 1), (5, .invokevirtual 117), (8, .istore_n 2), (9, .iload_n 2), (10, .iconst (-1)), (11, .if_icmp .ne 5), (14, .iconst 1), (15, .ireturn), (16, .aload_n 0), (17, .getfield 21), (20, .getfield 122), (23, .iload_n 2), (24, .invokevirtual 71), (27, .ifCond .ne 9), (30, .aload_n 0), (31, .invokevirtual 140), (34, .iconst 0), (35, .ireturn), (36, .aload_n 0), (37, .bipush 42), (39, .iload_n 1), (40, .iload_n 2), (41, .invokevirtual 130), (44, .ifCond .eq 19), (47, .aload_n 0), (48, .getfield 21), (51, .iload_n 2), (52, .iconst 0), (53, .invokevirtual 143), (56, .ifCond .eq 7), (59, .iconst 0), (60, .goto 4), (63, .iconst 4), (64, .ireturn)]
/-- TemplateScopes$ByText.skipBlock()V -/
def xk_18 : List (Nat × Instr) := [(0, .iconst 1), (1, .istore_n 1), (2, .iconst 0), (3, .istore_n 2), (4, .iload_n 2), (5, .bipush 60), (7, .if_icmp .ge 60), (10, .iload_n 1), (11, .ifCond .le 56), (14, .aload_n 0), (15, .iconst 0), (16, .invokevirtual 79), (19, .istore_n 3), (20, .iload_n 3), (21, .bipush 123), (23, .if_icmp .ne 9), (26, .iinc 1 1), (29, .goto 12), (32, .iload_n 3), (33, .bipush 125), (35, .if_icmp .ne 6), (38, .iinc 1 (-1)), (41, .aload_n 0), (42, .dup), (43, .getfield 64), (46, .iload_n 3), (47, .bipush 126), (49, .if_icmp .ne 7), (52, .iconst 2), (53, .goto 4), (56, .iconst 1), (57, .iadd), (58, .putfield 64), (61, .iinc 2 1), (64, .goto (-60)), (67, .return_)]
/-- TemplateScopes$ByText.beginCondition(I)I -/
def xk_19 : List (Nat × Instr) := [(0, .aload_n 0), (1, .getfield 9), (4, .iload_n 1), (5, .invokevirtual 147), (8, .ifCond .ne 9), (11, .aload_n 0), (12, .invokevirtual 140), (15, .iconst 0), (16, .ireturn), (17, .aload_n 0), (18, .bipush 63), (20, .iload_n 1), (21, .iconst (-1)), (22, .invokevirtual 130), (25, .ifCond .eq 7), (28, .iconst 0), (29, .goto 4), (32, .iconst 4), (33, .ireturn)]
/-- TemplateScopes$ByText.beginSetting(I)I -/
def xk_20 : List (Nat × Instr) := [(0, .aload_n 0), (1, .bipush 61), (3, .iload_n 1), (4, .iconst (-1)), (5, .invokevirtual 130), (8, .ifCond .eq 13), (11, .aload_n 0), (12, .getfield 9), (15, .invokevirtual 151), (18, .goto 4), (21, .iconst 4), (22, .ireturn)]
/-- TemplateScopes$History.<init>()V -/
def xk_21 : List (Nat × Instr) := [(0, .aload_n 0), (1, .invokespecial 3), (4, .aload_n 0), (5, .bipush 6), (7, .anewarray 9), (10, .putfield 11), (13, .iconst 0), (14, .istore_n 1), (15, .iload_n 1), (16, .aload_n 0), (17, .getfield 11), (20, .arraylength), (21, .if_icmp .ge 22), (24, .aload_n 0), (25, .getfield 11), (28, .iload_n 1), (29, .new 9), (32, .dup), (33, .invokespecial 17), (36, .aastore), (37, .iinc 1 1), (40, .goto (-25)), (43, .return_)]
/-- TemplateScopes$History.size()I -/
def xk_22 : List (Nat × Instr) := [(0, .aload_n 0), (1, .getfield 18), (4, .ireturn)]
/-- TemplateScopes$History.push(LTemplateScopes$State;)V -/
def xk_23 : List (Nat × Instr) := [(0, .aload_n 0), (1, .getfield 18), (4, .aload_n 0), (5, .getfield 11), (8, .arraylength), (9, .if_icmp .lt 7), (12, .aload_n 0), (13, .invokevirtual 22), (16, .aload_n 0), (17, .getfield 18), (20, .ifCond .lt 44), (23, .aload_n 0), (24, .getfield 18), (27, .aload_n 0), (28, .getfield 11), (31, .arraylength), (32, .if_icmp .ge 32), (35, .aload_n 0), (36, .getfield 11), (39, .aload_n 0), (40, .getfield 18), (43, .aaload), (44, .astore_n 2), (45, .aload_n 2), (46, .ifnull 18), (49, .aload_n 2), (50, .aload_n 1), (51, .invokevirtual 25), (54, .aload_n 0), (55, .dup), (56, .getfield 18), (59, .iconst 1), (60, .iadd), (61, .putfield 18), (64, .return_)]
/-- TemplateScopes$History.dropOldest()V -/
def xk_24 : List (Nat × Instr) := [(0, .aload_n 0), (1, .getfield 11), (4, .arraylength), (5, .ifCond .ne 4), (8, .return_), (9, .aload_n 0), (10, .getfield 11), (13, .iconst 0), (14, .aaload), (15, .astore_n 1), (16, .iconst 1), (17, .istore_n 2), (18, .iload_n 2), (19, .aload_n 0), (20, .getfield 11), (23, .arraylength), (24, .if_icmp .ge 23), (27, .aload_n 0), (28, .getfield 11), (31, .iload_n 2), (32, .iconst 1), (33, .isub), (34, .aload_n 0), (35, .getfield 11), (38, .iload_n 2), (39, .aaload), (40, .aastore), (41, .iinc 2 1), (44, .goto (-26)), (47, .aload_n 0), (48, .getfield 11), (51, .aload_n 0), (52, .getfield 11), (55, .arraylength), (56, .iconst 1), (57, .isub), (58, .aload_n 1), (59, .aastore), (60, .aload_n 0), (61, .iconst 0), (62, .aload_n 0), (63, .getfield 18), (66, .iconst 1), (67, .isub), (68, .invokestatic 29), (71, .putfield 18), (74, .return_)]
/-- TemplateScopes$History.pop(LTemplateScopes$State;)Z -/
def xk_25 : List (Nat × Instr) := [(0, .aload_n 0), (1, .getfield 18), (4, .iconst 1), (5, .isub), (6, .istore_n 2), (7, .iload_n 2), (8, .ifCond .lt 12), (11, .iload_n 2), (12, .aload_n 0), (13, .getfield 11), (16, .arraylength), (17, .if_icmp .lt 5), (20, .iconst 0), (21, .ireturn), (22, .aload_n 0), (23, .getfield 11), (26, .iload_n 2), (27, .aaload), (28, .astore_n 3), (29, .aload_n 3), (30, .ifnonnull 5), (33, .iconst 0), (34, .ireturn), (35, .aload_n 1), (36, .aload_n 3), (37, .invokevirtual 25), (40, .aload_n 0), (41, .iload_n 2), (42, .putfield 18), (45, .iconst 1), (46, .ireturn)]
/-- TemplateScopes$Outcome.<init>()V -/
def xk_26 : List (Nat × Instr) := [(0, .aload_n 0), (1, .invokespecial 3), (4, .aload_n 0), (5, .new 9), (8, .dup), (9, .iconst 1), (10, .sipush 200), (13, .invokespecial 11), (16, .putfield 14), (19, .aload_n 0), (20, .getfield 14), (23, .iconst 0), (24, .invokevirtual 20), (27, .aload_n 0), (28, .iconst 5), (29, .newarray .int), (31, .putfield 24), (34, .return_)]
/-- TemplateScopes$Outcome.copyFrom(LTemplateScopes$Outcome;)V -/
def xk_27 : List (Nat × Instr) := [(0, .aload_n 0), (1, .getfield 14), (4, .aload_n 1), (5, .getfield 14), (8, .invokevirtual 47), (11, .iconst 0), (12, .istore_n 2), (13, .iload_n 2), (14, .aload_n 0), (15, .getfield 24), (18, .arraylength), (19, .if_icmp .ge 20), (22, .aload_n 0), (23, .getfield 24), (26, .iload_n 2), (27, .aload_n 1), (28, .iload_n 2), (29, .invokevirtual 51), (32, .iastore), (33, .iinc 2 1), (36, .goto (-23)), (39, .aload_n 0), (40, .aload_n 1), (41, .getfield 28), (44, .putfield 28), (47, .aload_n 0), (48, .aload_n 1), (49, .getfield 32), (52, .putfield 32), (55, .aload_n 0), (56, .aload_n 1), (57, .getfield 35), (60, .putfield 35), (63, .aload_n 0), (64, .aload_n 1), (65, .getfield 38), (68, .putfield 38), (71, .aload_n 0), (72, .aload_n 1), (73, .getfield 41), (76, .putfield 41), (79, .aload_n 0), (80, .aload_n 1), (81, .getfield 44), (84, .putfield 44), (87, .return_)]
/-- TemplateScopes$Outcome.placeAt(I)I -/
def xk_28 : List (Nat × Instr) := [(0, .iload_n 1), (1, .ifCond .lt 21), (4, .iload_n 1), (5, .aload_n 0), (6, .getfield 24), (9, .arraylength), (10, .if_icmp .ge 12), (13, .aload_n 0), (14, .getfield 24), (17, .iload_n 1), (18, .iaload), (19, .goto 4), (22, .iconst 0), (23, .ireturn)]
/-- TemplateScopes$Outcome.begin()V -/
def xk_29 : List (Nat × Instr) := [(0, .aload_n 0), (1, .getfield 14), (4, .iconst 0), (5, .invokevirtual 20), (8, .aload_n 0), (9, .iconst 0), (10, .putfield 28), (13, .aload_n 0), (14, .iconst 0), (15, .putfield 32), (18, .aload_n 0), (19, .iconst 0), (20, .putfield 35), (23, .aload_n 0), (24, .iconst 0), (25, .putfield 38), (28, .aload_n 0), (29, .iconst 0), (30, .putfield 41), (33, .aload_n 0), (34, .iconst 0), (35, .putfield 44), (38, .return_)]
/-- TemplateScopes$Outcome.setPlace(II)V -/
def xk_30 : List (Nat × Instr) := [(0, .iload_n 1), (1, .ifCond .lt 19), (4, .iload_n 1), (5, .aload_n 0), (6, .getfield 24), (9, .arraylength), (10, .if_icmp .ge 10), (13, .aload_n 0), (14, .getfield 24), (17, .iload_n 1), (18, .iload_n 2), (19, .iastore), (20, .return_)]
/-- TemplateScopes$Outcome.fail(III)V -/
def xk_31 : List (Nat × Instr) := [(0, .aload_n 0), (1, .getfield 32), (4, .ifCond .ne 21), (7, .aload_n 0), (8, .iload_n 1), (9, .putfield 32), (12, .aload_n 0), (13, .iload_n 2), (14, .iload_n 3), (15, .invokevirtual 55), (18, .aload_n 0), (19, .iload_n 2), (20, .iconst 1), (21, .iadd), (22, .putfield 28), (25, .return_)]
/-- TemplateScopes$Rendering.<init>()V -/
def xk_32 : List (Nat × Instr) := [(0, .aload_n 0), (1, .invokespecial 3), (4, .aload_n 0), (5, .new 9), (8, .dup), (9, .invokespecial 11), (12, .putfield 12), (15, .aload_n 0), (16, .new 18), (19, .dup), (20, .invokespecial 20), (23, .putfield 21), (26, .aload_n 0), (27, .new 25), (30, .dup), (31, .bipush 40), (33, .bipush 24), (35, .invokespecial 27), (38, .putfield 30), (41, .return_)]
/-- TemplateScopes$Rendering.begin(LTemplateScopes$Texts;I)V -/
def xk_33 : List (Nat × Instr) := [(0, .aload_n 0), (1, .getfield 12), (4, .invokevirtual 34), (7, .aload_n 0), (8, .getfield 21), (11, .aload_n 1), (12, .iload_n 2), (13, .invokevirtual 37), (16, .aload_n 0), (17, .iconst 0), (18, .putfield 40), (21, .return_)]
/-- TemplateScopes$Rendering.countStep()I -/
def xk_34 : List (Nat × Instr) := [(0, .aload_n 0), (1, .getfield 12), (4, .getfield 44), (7, .sipush 200), (10, .if_icmp .lt 5), (13, .iconst 3), (14, .ireturn), (15, .aload_n 0), (16, .getfield 12), (19, .dup), (20, .getfield 44), (23, .iconst 1), (24, .iadd), (25, .putfield 44), (28, .iconst 0), (29, .ireturn)]
/-- TemplateScopes$Rendering.printValue(II)I -/
def xk_35 : List (Nat × Instr) := [(0, .aload_n 0), (1, .getfield 21), (4, .iload_n 1), (5, .invokevirtual 63), (8, .istore_n 3), (9, .iload_n 3), (10, .iconst (-1)), (11, .if_icmp .ne 5), (14, .iconst 1), (15, .ireturn), (16, .iconst 0), (17, .istore 4), (19, .iconst 0), (20, .istore 5), (22, .iload 5), (24, .aload_n 0), (25, .getfield 21), (28, .getfield 67), (31, .iload_n 3), (32, .invokevirtual 70), (35, .if_icmp .ge 65), (38, .iload 4), (40, .ifCond .ne 60), (43, .aload_n 0), (44, .getfield 21), (47, .getfield 67), (50, .iload_n 3), (51, .iload 5), (53, .invokevirtual 73), (56, .istore 6), (58, .iload_n 2), (59, .iconst 3), (60, .if_icmp .ne 20), (63, .iload 6), (65, .invokestatic 77), (68, .ifCond .eq 12), (71, .aload_n 0), (72, .bipush 126), (74, .iload_n 2), (75, .invokevirtual 81), (78, .istore 4), (80, .iload 4), (82, .ifCond .ne 12), (85, .aload_n 0), (86, .iload 6), (88, .iload_n 2), (89, .invokevirtual 81), (92, .istore 4), (94, .iinc 5 1), (97, .goto (-75)), (100, .iload 4), (102, .ireturn)]
/-- TemplateScopes$Rendering.print(II)I -/
def xk_36 : List (Nat × Instr) := [(0, .aload_n 0), (1, .getfield 40), (4, .ifCond .le 27), (7, .aload_n 0), (8, .getfield 30), (11, .aload_n 0), (12, .getfield 40), (15, .iconst 1), (16, .isub), (17, .iload_n 1), (18, .invokevirtual 47), (21, .ifCond .eq 7), (24, .iconst 0), (25, .goto 5), (28, .bipush 6), (30, .ireturn), (31, .aload_n 0), (32, .getfield 12), (35, .getfield 51), (38, .iconst 0), (39, .iload_n 1), (40, .invokevirtual 47), (43, .ifCond .ne 5), (46, .iconst 2), (47, .ireturn), (48, .iload_n 2), (49, .ifCond .ne 19), (52, .aload_n 0), (53, .getfield 12), (56, .dup), (57, .getfield 54), (60, .iconst 1), (61, .iadd), (62, .putfield 54), (65, .goto 37), (68, .iload_n 2), (69, .iconst 1), (70, .if_icmp .ne 19), (73, .aload_n 0), (74, .getfield 12), (77, .dup), (78, .getfield 57), (81, .iconst 1), (82, .iadd), (83, .putfield 57), (86, .goto 16), (89, .aload_n 0), (90, .getfield 12), (93, .dup), (94, .getfield 60), (97, .iconst 1), (98, .iadd), (99, .putfield 60), (102, .iconst 0), (103, .ireturn)]
/-- TemplateScopes$Rendering.holds(I)Z -/
def xk_37 : List (Nat × Instr) := [(0, .aload_n 0), (1, .getfield 21), (4, .getfield 67), (7, .aload_n 0), (8, .getfield 21), (11, .iload_n 1), (12, .invokevirtual 63), (15, .invokevirtual 70), (18, .ifCond .le 7), (21, .iconst 1), (22, .goto 4), (25, .iconst 0), (26, .ireturn)]
/-- TemplateScopes$Rendering.beginSetting()I -/
def xk_38 : List (Nat × Instr) := [(0, .aload_n 0), (1, .getfield 40), (4, .bipush 40), (6, .if_icmp .lt 5), (9, .iconst 4), (10, .ireturn), (11, .aload_n 0), (12, .getfield 30), (15, .aload_n 0), (16, .getfield 40), (19, .invokevirtual 84), (22, .aload_n 0), (23, .dup), (24, .getfield 40), (27, .iconst 1), (28, .iadd), (29, .putfield 40), (32, .iconst 0), (33, .ireturn)]
/-- TemplateScopes$Rendering.endSetting(I)V -/
def xk_39 : List (Nat × Instr) := [(0, .aload_n 0), (1, .iconst 0), (2, .aload_n 0), (3, .getfield 40), (6, .iconst 1), (7, .isub), (8, .invokestatic 88), (11, .putfield 40), (14, .aload_n 0), (15, .getfield 21), (18, .iload_n 1), (19, .aload_n 0), (20, .getfield 30), (23, .aload_n 0), (24, .getfield 40), (27, .invokevirtual 93), (30, .return_)]
/-- TemplateScopes$Scopes.<init>()V -/
def xk_40 : List (Nat × Instr) := [(0, .aload_n 0), (1, .invokespecial 3), (4, .aload_n 0), (5, .new 9), (8, .dup), (9, .sipush 410), (12, .bipush 24), (14, .invokespecial 11), (17, .putfield 14), (20, .return_)]
/-- TemplateScopes$Scopes.begin(LTemplateScopes$Texts;I)V -/
def xk_41 : List (Nat × Instr) := [(0, .aload_n 0), (1, .iconst 0), (2, .putfield 20), (5, .aload_n 0), (6, .invokevirtual 24), (9, .pop), (10, .iconst 0), (11, .istore_n 3), (12, .iload_n 3), (13, .bipush 8), (15, .if_icmp .ge 21), (18, .iload_n 3), (19, .iload_n 2), (20, .if_icmp .eq 10), (23, .aload_n 0), (24, .iload_n 3), (25, .aload_n 1), (26, .iload_n 3), (27, .invokevirtual 28), (30, .iinc 3 1), (33, .goto (-21)), (36, .return_)]
/-- TemplateScopes$Scopes.openOne()Z -/
def xk_42 : List (Nat × Instr) := [(0, .aload_n 0), (1, .getfield 20), (4, .bipush 40), (6, .if_icmp .le 5), (9, .iconst 0), (10, .ireturn), (11, .aload_n 0), (12, .dup), (13, .getfield 20), (16, .iconst 1), (17, .iadd), (18, .putfield 20), (21, .iconst 0), (22, .istore_n 1), (23, .iload_n 1), (24, .bipush 10), (26, .if_icmp .ge 21), (29, .aload_n 0), (30, .getfield 14), (33, .aload_n 0), (34, .iload_n 1), (35, .invokevirtual 32), (38, .invokevirtual 36), (41, .iinc 1 1), (44, .goto (-21)), (47, .iconst 1), (48, .ireturn)]
/-- TemplateScopes$Scopes.innermostRow(I)I -/
def xk_43 : List (Nat × Instr) := [(0, .aload_n 0), (1, .getfield 20), (4, .iconst 1), (5, .isub), (6, .bipush 10), (8, .imul), (9, .iload_n 1), (10, .iadd), (11, .ireturn)]
/-- TemplateScopes$Scopes.give(ILTemplateScopes$Texts;I)V -/
def xk_44 : List (Nat × Instr) := [(0, .aload_n 0), (1, .getfield 14), (4, .aload_n 0), (5, .iload_n 1), (6, .invokevirtual 32), (9, .aload_n 2), (10, .iload_n 3), (11, .invokevirtual 49), (14, .return_)]
/-- TemplateScopes$Scopes.rowOf(I)I -/
def xk_45 : List (Nat × Instr) := [(0, .aload_n 0), (1, .getfield 20), (4, .iconst 1), (5, .isub), (6, .istore_n 2), (7, .iload_n 2), (8, .ifCond .lt 30), (11, .iload_n 2), (12, .bipush 10), (14, .imul), (15, .iload_n 1), (16, .iadd), (17, .istore_n 3), (18, .aload_n 0), (19, .getfield 14), (22, .iload_n 3), (23, .invokevirtual 46), (26, .iconst (-1)), (27, .if_icmp .eq 5), (30, .iload_n 3), (31, .ireturn), (32, .iinc 2 (-1)), (35, .goto (-28)), (38, .iconst (-1)), (39, .ireturn)]
/-- TemplateScopes$Scopes.closeOne()V -/
def xk_46 : List (Nat × Instr) := [(0, .aload_n 0), (1, .iconst 0), (2, .aload_n 0), (3, .getfield 20), (6, .iconst 1), (7, .isub), (8, .invokestatic 40), (11, .putfield 20), (14, .return_)]
/-- TemplateScopes$Scopes.openPass(II)Z -/
def xk_47 : List (Nat × Instr) := [(0, .aload_n 0), (1, .invokevirtual 24), (4, .ifCond .ne 5), (7, .iconst 0), (8, .ireturn), (9, .aload_n 0), (10, .bipush 8), (12, .invokevirtual 32), (15, .istore_n 3), (16, .aload_n 0), (17, .getfield 14), (20, .iload_n 3), (21, .invokevirtual 52), (24, .iload_n 2), (25, .bipush 10), (27, .if_icmp .lt 22), (30, .aload_n 0), (31, .getfield 14), (34, .iload_n 3), (35, .bipush 48), (37, .iload_n 2), (38, .bipush 10), (40, .idiv), (41, .bipush 10), (43, .irem), (44, .iadd), (45, .invokevirtual 55), (48, .pop), (49, .aload_n 0), (50, .getfield 14), (53, .iload_n 3), (54, .bipush 48), (56, .iload_n 2), (57, .bipush 10), (59, .irem), (60, .iadd), (61, .invokevirtual 55), (64, .pop), (65, .aload_n 0), (66, .bipush 9), (68, .invokevirtual 32), (71, .istore 4), (73, .aload_n 0), (74, .getfield 14), (77, .iload 4), (79, .invokevirtual 52), (82, .aload_n 0), (83, .getfield 14), (86, .iload 4), (88, .aload_n 0), (89, .getfield 14), (92, .iload_n 1), (93, .iload_n 2), (94, .invokevirtual 59), (97, .invokevirtual 55), (100, .pop), (101, .iconst 1), (102, .ireturn)]
/-- TemplateScopes$State.<init>()V -/
def xk_48 : List (Nat × Instr) := [(0, .aload_n 0), (1, .invokespecial 3), (4, .aload_n 0), (5, .new 9), (8, .dup), (9, .bipush 8), (11, .bipush 24), (13, .invokespecial 11), (16, .putfield 14), (19, .aload_n 0), (20, .new 20), (23, .dup), (24, .invokespecial 22), (27, .putfield 23), (30, .return_)]
/-- TemplateScopes$State.copyFrom(LTemplateScopes$State;)V -/
def xk_49 : List (Nat × Instr) := [(0, .aload_n 0), (1, .getfield 14), (4, .aload_n 1), (5, .getfield 14), (8, .invokevirtual 27), (11, .aload_n 0), (12, .getfield 23), (15, .aload_n 1), (16, .getfield 23), (19, .invokevirtual 31), (22, .aload_n 0), (23, .aload_n 1), (24, .getfield 35), (27, .putfield 35), (30, .aload_n 0), (31, .aload_n 1), (32, .getfield 39), (35, .putfield 39), (38, .aload_n 0), (39, .aload_n 1), (40, .getfield 42), (43, .putfield 42), (46, .return_)]
/-- TemplateScopes$State.takeOutcome(LTemplateScopes$Outcome;)V -/
def xk_50 : List (Nat × Instr) := [(0, .aload_n 0), (1, .getfield 23), (4, .aload_n 1), (5, .invokevirtual 31), (8, .aload_n 0), (9, .dup), (10, .getfield 35), (13, .iconst 1), (14, .iadd), (15, .putfield 35), (18, .aload_n 1), (19, .getfield 45), (22, .ifCond .eq 13), (25, .aload_n 0), (26, .dup), (27, .getfield 39), (30, .iconst 1), (31, .iadd), (32, .putfield 39), (35, .aload_n 0), (36, .dup), (37, .getfield 42), (40, .aload_n 1), (41, .getfield 48), (44, .iconst 0), (45, .invokevirtual 51), (48, .iadd), (49, .putfield 42), (52, .return_)]
/-- TemplateScopes$Template.<init>(ILTemplateScopes$Template;)V -/
def xk_51 : List (Nat × Instr) := [(0, .aload_n 0), (1, .invokespecial 3), (4, .aload_n 0), (5, .iload_n 1), (6, .putfield 9), (9, .aload_n 0), (10, .aload_n 2), (11, .putfield 15), (14, .aload_n 0), (15, .bipush 60), (17, .newarray .int), (19, .putfield 19), (22, .aload_n 0), (23, .bipush 60), (25, .newarray .int), (27, .putfield 23), (30, .aload_n 0), (31, .bipush 60), (33, .newarray .int), (35, .putfield 26), (38, .aload_n 0), (39, .bipush 60), (41, .newarray .int), (43, .putfield 29), (46, .aload_n 0), (47, .bipush 60), (49, .newarray .int), (51, .putfield 32), (54, .aload_n 0), (55, .bipush 60), (57, .newarray .int), (59, .putfield 35), (62, .return_)]
/-- TemplateScopes$Template.readFrom(LTemplateScopes$Texts;I)V -/
def xk_52 : List (Nat × Instr) := [(0, .aload_n 0), (1, .iconst 0), (2, .putfield 38), (5, .aload_n 0), (6, .iconst 0), (7, .putfield 41), (10, .aload_n 0), (11, .iconst 0), (12, .putfield 44), (15, .aload_n 0), (16, .iconst 0), (17, .putfield 47), (20, .aload_n 0), (21, .aload_n 1), (22, .iload_n 2), (23, .invokevirtual 50), (26, .putfield 56), (29, .aload_n 0), (30, .aload_n 0), (31, .getfield 56), (34, .putfield 59), (37, .iconst 0), (38, .istore_n 3), (39, .iload_n 3), (40, .aload_n 0), (41, .getfield 56), (44, .if_icmp .ge 29), (47, .aload_n 0), (48, .iload_n 3), (49, .aload_n 1), (50, .iload_n 2), (51, .iload_n 3), (52, .invokevirtual 62), (55, .invokevirtual 66), (58, .ifCond .ne 9), (61, .aload_n 0), (62, .iload_n 3), (63, .putfield 59), (66, .return_), (67, .iinc 3 1), (70, .goto (-31)), (73, .return_)]
/-- TemplateScopes$Template.read(II)Z -/
def xk_53 : List (Nat × Instr) := [(0, .aload_n 0), (1, .getfield 47), (4, .tableswitch 121 1 5 #[36, 48, 76, 85, 104]), (40, .aload_n 0), (41, .iload_n 2), (42, .invokevirtual 76), (45, .aload_n 0), (46, .iconst 0), (47, .putfield 47), (50, .iconst 1), (51, .ireturn), (52, .iload_n 2), (53, .invokestatic 80), (56, .iconst 2), (57, .if_icmp .ne 14), (60, .aload_n 0), (61, .iload_n 2), (62, .invokestatic 83), (65, .invokevirtual 86), (68, .goto 11), (71, .aload_n 0), (72, .iload_n 2), (73, .invokestatic 80), (76, .invokevirtual 90), (79, .ireturn), (80, .aload_n 0), (81, .iload_n 2), (82, .invokestatic 83), (85, .invokevirtual 86), (88, .ireturn), (89, .iload_n 2), (90, .bipush 58), (92, .if_icmp .ne 14), (95, .aload_n 0), (96, .invokevirtual 93), (99, .ifCond .eq 7), (102, .iconst 1), (103, .goto 4), (106, .iconst 0), (107, .ireturn), (108, .aload_n 0), (109, .iconst 0), (110, .putfield 47), (113, .iload_n 2), (114, .bipush 125), (116, .if_icmp .ne 7), (119, .iconst 1), (120, .goto 4), (123, .iconst 0), (124, .ireturn), (125, .iload_n 2), (126, .bipush 125), (128, .if_icmp .ne 10), (131, .aload_n 0), (132, .invokevirtual 97), (135, .goto 9), (138, .aload_n 0), (139, .iload_n 1), (140, .iload_n 2), (141, .invokevirtual 100), (144, .ireturn)]
/-- TemplateScopes$Template.setCode(I)V -/
def xk_54 : List (Nat × Instr) := [(0, .aload_n 0), (1, .getfield 38), (4, .iconst 1), (5, .isub), (6, .istore_n 2), (7, .iload_n 2), (8, .ifCond .lt 19), (11, .iload_n 2), (12, .aload_n 0), (13, .getfield 26), (16, .arraylength), (17, .if_icmp .ge 10), (20, .aload_n 0), (21, .getfield 26), (24, .iload_n 2), (25, .iload_n 1), (26, .iastore), (27, .return_)]
/-- TemplateScopes$Template.kindWritten(I)I -/
def xk_55 : List (Nat × Instr) := [(0, .iload_n 0), (1, .lookupswitch 63 #[(33, 51), (42, 55), (61, 60), (63, 57), (94, 53)]), (52, .iconst 3), (53, .ireturn), (54, .iconst 4), (55, .ireturn), (56, .iconst 5), (57, .ireturn), (58, .bipush 6), (60, .ireturn), (61, .bipush 7), (63, .ireturn), (64, .iconst 2), (65, .ireturn)]
/-- TemplateScopes$Template.setName(I)Z -/
def xk_56 : List (Nat × Instr) := [(0, .aload_n 0), (1, .getfield 38), (4, .iconst 1), (5, .isub), (6, .istore_n 2), (7, .iload_n 1), (8, .iconst (-1)), (9, .if_icmp .eq 25), (12, .iload_n 2), (13, .ifCond .lt 21), (16, .iload_n 2), (17, .aload_n 0), (18, .getfield 29), (21, .arraylength), (22, .if_icmp .ge 12), (25, .iload_n 2), (26, .aload_n 0), (27, .getfield 19), (30, .arraylength), (31, .if_icmp .lt 5), (34, .iconst 0), (35, .ireturn), (36, .aload_n 0), (37, .getfield 29), (40, .iload_n 2), (41, .iload_n 1), (42, .iastore), (43, .aload_n 0), (44, .getfield 19), (47, .iload_n 2), (48, .iaload), (49, .istore_n 3), (50, .iload_n 3), (51, .iconst 5), (52, .if_icmp .eq 15), (55, .iload_n 3), (56, .bipush 6), (58, .if_icmp .eq 9), (61, .iload_n 3), (62, .bipush 7), (64, .if_icmp .ne 7), (67, .iconst 1), (68, .goto 4), (71, .iconst 0), (72, .istore 4), (74, .aload_n 0), (75, .iload 4), (77, .ifCond .eq 7), (80, .iconst 4), (81, .goto 4), (84, .iconst 5), (85, .putfield 47), (88, .iconst 1), (89, .ireturn)]
/-- TemplateScopes$Template.setKind(I)Z -/
def xk_57 : List (Nat × Instr) := [(0, .aload_n 0), (1, .getfield 38), (4, .iconst 1), (5, .isub), (6, .istore_n 2), (7, .iload_n 2), (8, .ifCond .lt 12), (11, .iload_n 2), (12, .aload_n 0), (13, .getfield 19), (16, .arraylength), (17, .if_icmp .lt 5), (20, .iconst 0), (21, .ireturn), (22, .aload_n 0), (23, .getfield 19), (26, .iload_n 2), (27, .iload_n 1), (28, .iastore), (29, .aload_n 0), (30, .iconst 3), (31, .putfield 47), (34, .iconst 1), (35, .ireturn)]
/-- TemplateScopes$Template.openLast()Z -/
def xk_58 : List (Nat × Instr) := [(0, .aload_n 0), (1, .getfield 41), (4, .ifCond .lt 15), (7, .aload_n 0), (8, .getfield 41), (11, .aload_n 0), (12, .getfield 35), (15, .arraylength), (16, .if_icmp .lt 5), (19, .iconst 0), (20, .ireturn), (21, .aload_n 0), (22, .getfield 35), (25, .aload_n 0), (26, .getfield 41), (29, .aload_n 0), (30, .getfield 38), (33, .iconst 1), (34, .isub), (35, .iastore), (36, .aload_n 0), (37, .dup), (38, .getfield 41), (41, .iconst 1), (42, .iadd), (43, .putfield 41), (46, .aload_n 0), (47, .iconst 0), (48, .putfield 47), (51, .iconst 1), (52, .ireturn)]
/-- TemplateScopes$Template.closeInnermost()Z -/
def xk_59 : List (Nat × Instr) := [(0, .aload_n 0), (1, .getfield 41), (4, .iconst 1), (5, .isub), (6, .istore_n 1), (7, .iload_n 1), (8, .ifCond .lt 12), (11, .iload_n 1), (12, .aload_n 0), (13, .getfield 35), (16, .arraylength), (17, .if_icmp .lt 5), (20, .iconst 0), (21, .ireturn), (22, .aload_n 0), (23, .getfield 35), (26, .iload_n 1), (27, .iaload), (28, .istore_n 2), (29, .aload_n 0), (30, .iload_n 1), (31, .putfield 41), (34, .iload_n 2), (35, .ifCond .lt 12), (38, .iload_n 2), (39, .aload_n 0), (40, .getfield 32), (43, .arraylength), (44, .if_icmp .lt 5), (47, .iconst 0), (48, .ireturn), (49, .aload_n 0), (50, .getfield 32), (53, .iload_n 2), (54, .aload_n 0), (55, .getfield 38), (58, .iastore), (59, .iconst 1), (60, .ireturn)]
/-- TemplateScopes$Template.addPart(II)Z -/
def xk_60 : List (Nat × Instr) := [(0, .aload_n 0), (1, .getfield 38), (4, .istore_n 3), (5, .iload_n 3), (6, .ifCond .lt 39), (9, .iload_n 3), (10, .aload_n 0), (11, .getfield 19), (14, .arraylength), (15, .if_icmp .ge 30), (18, .iload_n 3), (19, .aload_n 0), (20, .getfield 23), (23, .arraylength), (24, .if_icmp .ge 21), (27, .iload_n 3), (28, .aload_n 0), (29, .getfield 26), (32, .arraylength), (33, .if_icmp .ge 12), (36, .iload_n 3), (37, .aload_n 0), (38, .getfield 32), (41, .arraylength), (42, .if_icmp .lt 5), (45, .iconst 0), (46, .ireturn), (47, .aload_n 0), (48, .dup), (49, .getfield 38), (52, .iconst 1), (53, .iadd), (54, .putfield 38), (57, .aload_n 0), (58, .getfield 19), (61, .iload_n 3), (62, .iconst 0), (63, .iastore), (64, .aload_n 0), (65, .getfield 23), (68, .iload_n 3), (69, .iload_n 1), (70, .iastore), (71, .aload_n 0), (72, .getfield 26), (75, .iload_n 3), (76, .iload_n 2), (77, .iastore), (78, .aload_n 0), (79, .getfield 32), (82, .iload_n 3), (83, .aload_n 0), (84, .getfield 38), (87, .iastore), (88, .aload_n 0), (89, .aload_n 0), (90, .getfield 44), (93, .aload_n 0), (94, .getfield 41), (97, .invokestatic 103), (100, .putfield 44), (103, .iload_n 2), (104, .bipush 126), (106, .if_icmp .ne 18), (109, .aload_n 0), (110, .getfield 19), (113, .iload_n 3), (114, .iconst 1), (115, .iastore), (116, .aload_n 0), (117, .iconst 1), (118, .putfield 47), (121, .goto 21), (124, .iload_n 2), (125, .bipush 123), (127, .if_icmp .ne 15), (130, .aload_n 0), (131, .getfield 19), (134, .iload_n 3), (135, .iconst 2), (136, .iastore), (137, .aload_n 0), (138, .iconst 2), (139, .putfield 47), (142, .iconst 1), (143, .ireturn)]
/-- TemplateScopes$Template.errorPlace()I -/
def xk_61 : List (Nat × Instr) := [(0, .aload_n 0), (1, .getfield 59), (4, .ireturn)]
/-- TemplateScopes$Template.isWhole()Z -/
def xk_62 : List (Nat × Instr) := [(0, .aload_n 0), (1, .getfield 59), (4, .aload_n 0), (5, .getfield 56), (8, .if_icmp .ne 21), (11, .aload_n 0), (12, .getfield 47), (15, .ifCond .ne 14), (18, .aload_n 0), (19, .getfield 41), (22, .ifCond .ne 7), (25, .iconst 1), (26, .goto 4), (29, .iconst 0), (30, .ireturn)]
/-- TemplateScopes$Template.partCount()I -/
def xk_63 : List (Nat × Instr) := [(0, .aload_n 0), (1, .getfield 38), (4, .ireturn)]
/-- TemplateScopes$Template.kindOf(I)I -/
def xk_64 : List (Nat × Instr) := [(0, .iload_n 1), (1, .ifCond .lt 21), (4, .iload_n 1), (5, .aload_n 0), (6, .getfield 19), (9, .arraylength), (10, .if_icmp .ge 12), (13, .aload_n 0), (14, .getfield 19), (17, .iload_n 1), (18, .iaload), (19, .goto 4), (22, .iconst 0), (23, .ireturn)]
/-- TemplateScopes$Template.nameOf(I)I -/
def xk_65 : List (Nat × Instr) := [(0, .iload_n 1), (1, .ifCond .lt 21), (4, .iload_n 1), (5, .aload_n 0), (6, .getfield 29), (9, .arraylength), (10, .if_icmp .ge 12), (13, .aload_n 0), (14, .getfield 29), (17, .iload_n 1), (18, .iaload), (19, .goto 4), (22, .iconst 0), (23, .ireturn)]
/-- TemplateScopes$Template.placeOf(I)I -/
def xk_66 : List (Nat × Instr) := [(0, .iload_n 1), (1, .ifCond .lt 21), (4, .iload_n 1), (5, .aload_n 0), (6, .getfield 23), (9, .arraylength), (10, .if_icmp .ge 12), (13, .aload_n 0), (14, .getfield 23), (17, .iload_n 1), (18, .iaload), (19, .goto 4), (22, .iconst 0), (23, .ireturn)]
/-- TemplateScopes$Template.behind(I)I -/
def xk_67 : List (Nat × Instr) := [(0, .iload_n 1), (1, .ifCond .lt 21), (4, .iload_n 1), (5, .aload_n 0), (6, .getfield 32), (9, .arraylength), (10, .if_icmp .ge 12), (13, .aload_n 0), (14, .getfield 32), (17, .iload_n 1), (18, .iaload), (19, .goto 7), (22, .aload_n 0), (23, .getfield 38), (26, .ireturn)]
/-- TemplateScopes$Template.codeOf(I)I -/
def xk_68 : List (Nat × Instr) := [(0, .iload_n 1), (1, .ifCond .lt 21), (4, .iload_n 1), (5, .aload_n 0), (6, .getfield 26), (9, .arraylength), (10, .if_icmp .ge 12), (13, .aload_n 0), (14, .getfield 26), (17, .iload_n 1), (18, .iaload), (19, .goto 4), (22, .iconst 0), (23, .ireturn)]
/-- TemplateScopes$Template.deepest()I -/
def xk_69 : List (Nat × Instr) := [(0, .aload_n 0), (1, .getfield 38), (4, .ifCond .le 12), (7, .aload_n 0), (8, .getfield 44), (11, .iconst 1), (12, .iadd), (13, .goto 4), (16, .iconst 0), (17, .ireturn)]
/-- TemplateScopes$Template.namesUsed()I -/
def xk_70 : List (Nat × Instr) := [(0, .iconst 0), (1, .istore_n 1), (2, .iconst 0), (3, .istore_n 2), (4, .iload_n 2), (5, .aload_n 0), (6, .getfield 38), (9, .if_icmp .ge 36), (12, .aload_n 0), (13, .iload_n 2), (14, .invokevirtual 70), (17, .ifCond .eq 22), (20, .aload_n 0), (21, .iload_n 2), (22, .invokevirtual 70), (25, .iconst 1), (26, .if_icmp .eq 13), (29, .iload_n 1), (30, .iconst 1), (31, .aload_n 0), (32, .iload_n 2), (33, .invokevirtual 73), (36, .ishl), (37, .ior), (38, .istore_n 1), (39, .iinc 2 1), (42, .goto (-38)), (45, .iload_n 1), (46, .ireturn)]
/-- TemplateScopes$Template.namesGiven()I -/
def xk_71 : List (Nat × Instr) := [(0, .iconst 0), (1, .istore_n 1), (2, .iconst 0), (3, .istore_n 2), (4, .iload_n 2), (5, .aload_n 0), (6, .getfield 38), (9, .if_icmp .ge 29), (12, .aload_n 0), (13, .iload_n 2), (14, .invokevirtual 70), (17, .bipush 7), (19, .if_icmp .ne 13), (22, .iload_n 1), (23, .iconst 1), (24, .aload_n 0), (25, .iload_n 2), (26, .invokevirtual 73), (29, .ishl), (30, .ior), (31, .istore_n 1), (32, .iinc 2 1), (35, .goto (-31)), (38, .iload_n 1), (39, .ireturn)]
/-- TemplateScopes$Template.loopCount()I -/
def xk_72 : List (Nat × Instr) := [(0, .iconst 0), (1, .istore_n 1), (2, .iconst 0), (3, .istore_n 2), (4, .iload_n 2), (5, .aload_n 0), (6, .getfield 38), (9, .if_icmp .ge 21), (12, .aload_n 0), (13, .iload_n 2), (14, .invokevirtual 70), (17, .iconst 5), (18, .if_icmp .ne 6), (21, .iinc 1 1), (24, .iinc 2 1), (27, .goto (-23)), (30, .iload_n 1), (31, .ireturn)]
/-- TemplateScopes$Texts.<init>(II)V -/
def xk_73 : List (Nat × Instr) := [(0, .aload_n 0), (1, .invokespecial 3), (4, .aload_n 0), (5, .iload_n 2), (6, .putfield 9), (9, .aload_n 0), (10, .iconst 0), (11, .iload_n 1), (12, .iload_n 2), (13, .imul), (14, .invokestatic 15), (17, .newarray .char), (19, .putfield 21), (22, .aload_n 0), (23, .iconst 0), (24, .iload_n 1), (25, .invokestatic 15), (28, .newarray .int), (30, .putfield 25), (33, .iconst 0), (34, .istore_n 3), (35, .iload_n 3), (36, .aload_n 0), (37, .getfield 25), (40, .arraylength), (41, .if_icmp .ge 16), (44, .aload_n 0), (45, .getfield 25), (48, .iload_n 3), (49, .iconst (-1)), (50, .iastore), (51, .iinc 3 1), (54, .goto (-19)), (57, .return_)]
/-- TemplateScopes$Texts.clear(I)V -/
def xk_74 : List (Nat × Instr) := [(0, .iload_n 1), (1, .ifCond .lt 19), (4, .iload_n 1), (5, .aload_n 0), (6, .getfield 25), (9, .arraylength), (10, .if_icmp .ge 10), (13, .aload_n 0), (14, .getfield 25), (17, .iload_n 1), (18, .iconst 0), (19, .iastore), (20, .return_)]
/-- TemplateScopes$Texts.lengthOf(I)I -/
def xk_75 : List (Nat × Instr) := [(0, .iload_n 1), (1, .ifCond .lt 12), (4, .iload_n 1), (5, .aload_n 0), (6, .getfield 25), (9, .arraylength), (10, .if_icmp .lt 7), (13, .iconst (-1)), (14, .goto 9), (17, .aload_n 0), (18, .getfield 25), (21, .iload_n 1), (22, .iaload), (23, .ireturn)]
/-- TemplateScopes$Texts.codeAt(II)I -/
def xk_76 : List (Nat × Instr) := [(0, .iload_n 1), (1, .ifCond .lt 26), (4, .iload_n 1), (5, .aload_n 0), (6, .getfield 25), (9, .arraylength), (10, .if_icmp .ge 17), (13, .iload_n 2), (14, .ifCond .lt 13), (17, .iload_n 2), (18, .aload_n 0), (19, .getfield 25), (22, .iload_n 1), (23, .iaload), (24, .if_icmp .lt 5), (27, .iconst 0), (28, .ireturn), (29, .iload_n 1), (30, .aload_n 0), (31, .getfield 9), (34, .imul), (35, .iload_n 2), (36, .iadd), (37, .istore_n 3), (38, .iload_n 3), (39, .ifCond .lt 21), (42, .iload_n 3), (43, .aload_n 0), (44, .getfield 21), (47, .arraylength), (48, .if_icmp .ge 12), (51, .aload_n 0), (52, .getfield 21), (55, .iload_n 3), (56, .caload), (57, .goto 4), (60, .iconst 0), (61, .ireturn)]
/-- TemplateScopes$Texts.copyAll(LTemplateScopes$Texts;)V -/
def xk_77 : List (Nat × Instr) := [(0, .iconst 0), (1, .istore_n 2), (2, .iload_n 2), (3, .aload_n 0), (4, .getfield 25), (7, .arraylength), (8, .if_icmp .ge 16), (11, .aload_n 0), (12, .iload_n 2), (13, .aload_n 1), (14, .iload_n 2), (15, .invokevirtual 39), (18, .iinc 2 1), (21, .goto (-19)), (24, .return_)]
/-- TemplateScopes$Texts.copyRow(ILTemplateScopes$Texts;I)V -/
def xk_78 : List (Nat × Instr) := [(0, .iload_n 1), (1, .ifCond .lt 12), (4, .iload_n 1), (5, .aload_n 0), (6, .getfield 25), (9, .arraylength), (10, .if_icmp .lt 4), (13, .return_), (14, .aload_n 2), (15, .iload_n 3), (16, .invokevirtual 29), (19, .aload_n 0), (20, .getfield 9), (23, .invokestatic 33), (26, .istore 4), (28, .iconst 0), (29, .istore 5), (31, .iload 5), (33, .iload 4), (35, .if_icmp .ge 50), (38, .iload_n 1), (39, .aload_n 0), (40, .getfield 9), (43, .imul), (44, .iload 5), (46, .iadd), (47, .istore 6), (49, .iload 6), (51, .ifCond .lt 28), (54, .iload 6), (56, .aload_n 0), (57, .getfield 21), (60, .arraylength), (61, .if_icmp .ge 18), (64, .aload_n 0), (65, .getfield 21), (68, .iload 6), (70, .aload_n 2), (71, .iload_n 3), (72, .iload 5), (74, .invokevirtual 36), (77, .i2c), (78, .castore), (79, .iinc 5 1), (82, .goto (-51)), (85, .aload_n 0), (86, .getfield 25), (89, .iload_n 1), (90, .iload 4), (92, .iastore), (93, .return_)]
/-- TemplateScopes$Texts.add(II)Z -/
def xk_79 : List (Nat × Instr) := [(0, .iload_n 1), (1, .ifCond .lt 12), (4, .iload_n 1), (5, .aload_n 0), (6, .getfield 25), (9, .arraylength), (10, .if_icmp .lt 5), (13, .iconst 0), (14, .ireturn), (15, .aload_n 0), (16, .getfield 25), (19, .iload_n 1), (20, .iaload), (21, .istore_n 3), (22, .iload_n 1), (23, .aload_n 0), (24, .getfield 9), (27, .imul), (28, .iload_n 3), (29, .iadd), (30, .istore 4), (32, .iload_n 3), (33, .ifCond .lt 26), (36, .iload_n 3), (37, .aload_n 0), (38, .getfield 9), (41, .if_icmp .ge 18), (44, .iload 4), (46, .ifCond .lt 13), (49, .iload 4), (51, .aload_n 0), (52, .getfield 21), (55, .arraylength), (56, .if_icmp .lt 5), (59, .iconst 0), (60, .ireturn), (61, .aload_n 0), (62, .getfield 21), (65, .iload 4), (67, .iload_n 2), (68, .i2c), (69, .castore), (70, .aload_n 0), (71, .getfield 25), (74, .iload_n 1), (75, .iload_n 3), (76, .iconst 1), (77, .iadd), (78, .iastore), (79, .iconst 1), (80, .ireturn)]
/-- TemplateScopes$Texts.remove(I)V -/
def xk_80 : List (Nat × Instr) := [(0, .iload_n 1), (1, .ifCond .lt 19), (4, .iload_n 1), (5, .aload_n 0), (6, .getfield 25), (9, .arraylength), (10, .if_icmp .ge 10), (13, .aload_n 0), (14, .getfield 25), (17, .iload_n 1), (18, .iconst (-1)), (19, .iastore), (20, .return_)]
/-- TemplateScopes.<init>()V -/
def xk_81 : List (Nat × Instr) := [(0, .aload_n 0), (1, .invokespecial 1), (4, .aload_n 0), (5, .new 7), (8, .dup), (9, .iconst 1), (10, .bipush 60), (12, .invokespecial 11), (15, .putfield 14), (18, .aload_n 0), (19, .getfield 14), (22, .iconst 0), (23, .invokevirtual 18), (26, .aload_n 0), (27, .new 7), (30, .dup), (31, .iconst 1), (32, .bipush 60), (34, .invokespecial 11), (37, .putfield 22), (40, .aconst_null), (41, .astore_n 1), (42, .iconst 4), (43, .istore_n 2), (44, .iload_n 2), (45, .ifCond .le 19), (48, .new 25), (51, .dup), (52, .iload_n 2), (53, .aload_n 1), (54, .invokespecial 27), (57, .astore_n 1), (58, .iinc 2 (-1)), (61, .goto (-17)), (64, .aload_n 0), (65, .new 25), (68, .dup), (69, .iconst 0), (70, .aload_n 1), (71, .invokespecial 27), (74, .putfield 30), (77, .aload_n 0), (78, .new 34), (81, .dup), (82, .invokespecial 36), (85, .putfield 37), (88, .aload_n 0), (89, .new 41), (92, .dup), (93, .aload_n 0), (94, .getfield 37), (97, .invokespecial 43), (100, .putfield 46), (103, .aload_n 0), (104, .new 50), (107, .dup), (108, .aload_n 0), (109, .getfield 37), (112, .invokespecial 52), (115, .putfield 53), (118, .aload_n 0), (119, .new 57), (122, .dup), (123, .invokespecial 59), (126, .putfield 60), (129, .aload_n 0), (130, .new 57), (133, .dup), (134, .invokespecial 59), (137, .putfield 64), (140, .aload_n 0), (141, .new 67), (144, .dup), (145, .invokespecial 69), (148, .putfield 70), (151, .aload_n 0), (152, .iconst 0), (153, .putfield 74), (156, .return_)]
/-- TemplateScopes.clearTemplate()I -/
def xk_82 : List (Nat × Instr) := [(0, .aload_n 0), (1, .getfield 14), (4, .iconst 0), (5, .invokevirtual 92), (8, .istore_n 1), (9, .aload_n 0), (10, .getfield 14), (13, .iconst 0), (14, .invokevirtual 18), (17, .iload_n 1), (18, .ireturn)]
/-- TemplateScopes.templateLength()I -/
def xk_83 : List (Nat × Instr) := [(0, .aload_n 0), (1, .getfield 14), (4, .iconst 0), (5, .invokevirtual 92), (8, .ireturn)]
/-- TemplateScopes.firstError()I -/
def xk_84 : List (Nat × Instr) := [(0, .aload_n 0), (1, .getfield 30), (4, .aload_n 0), (5, .getfield 14), (8, .iconst 0), (9, .invokevirtual 96), (12, .aload_n 0), (13, .getfield 30), (16, .invokevirtual 100), (19, .ireturn)]
/-- TemplateScopes.nameWritten(I)I -/
def xk_85 : List (Nat × Instr) := [(0, .iload_n 0), (1, .bipush 97), (3, .if_icmp .lt 14), (6, .iload_n 0), (7, .bipush 104), (9, .if_icmp .gt 8), (12, .iload_n 0), (13, .bipush 97), (15, .isub), (16, .ireturn), (17, .iload_n 0), (18, .bipush 107), (20, .if_icmp .ne 6), (23, .bipush 8), (25, .ireturn), (26, .iload_n 0), (27, .bipush 120), (29, .if_icmp .ne 8), (32, .bipush 9), (34, .goto 4), (37, .iconst (-1)), (38, .ireturn)]
/-- TemplateScopes.isComplete()Z -/
def xk_86 : List (Nat × Instr) := [(0, .aload_n 0), (1, .getfield 30), (4, .aload_n 0), (5, .getfield 14), (8, .iconst 0), (9, .invokevirtual 96), (12, .aload_n 0), (13, .getfield 30), (16, .invokevirtual 104), (19, .ireturn)]
/-- TemplateScopes.outputLength()I -/
def xk_87 : List (Nat × Instr) := [(0, .aload_n 0), (1, .getfield 60), (4, .getfield 159), (7, .getfield 163), (10, .iconst 0), (11, .invokevirtual 92), (14, .ireturn)]
/-- TemplateScopes.hasFailed()Z -/
def xk_88 : List (Nat × Instr) := [(0, .aload_n 0), (1, .getfield 60), (4, .getfield 159), (7, .getfield 193), (10, .ifCond .eq 7), (13, .iconst 1), (14, .goto 4), (17, .iconst 0), (18, .ireturn)]
/-- TemplateScopes.failurePlaces()I -/
def xk_89 : List (Nat × Instr) := [(0, .aload_n 0), (1, .getfield 60), (4, .getfield 159), (7, .getfield 202), (10, .ireturn)]
/-- TemplateScopes.steps()I -/
def xk_90 : List (Nat × Instr) := [(0, .aload_n 0), (1, .getfield 60), (4, .getfield 159), (7, .getfield 213), (10, .ireturn)]
/-- TemplateScopes.plainPrinted()I -/
def xk_91 : List (Nat × Instr) := [(0, .aload_n 0), (1, .getfield 60), (4, .getfield 159), (7, .getfield 216), (10, .ireturn)]
/-- TemplateScopes.escapesPrinted()I -/
def xk_92 : List (Nat × Instr) := [(0, .aload_n 0), (1, .getfield 60), (4, .getfield 159), (7, .getfield 219), (10, .ireturn)]
/-- TemplateScopes.valuesPrinted()I -/
def xk_93 : List (Nat × Instr) := [(0, .aload_n 0), (1, .getfield 60), (4, .getfield 159), (7, .getfield 222), (10, .ireturn)]
/-- TemplateScopes.renderings()I -/
def xk_94 : List (Nat × Instr) := [(0, .aload_n 0), (1, .getfield 60), (4, .getfield 225), (7, .ireturn)]
/-- TemplateScopes.failures()I -/
def xk_95 : List (Nat × Instr) := [(0, .aload_n 0), (1, .getfield 60), (4, .getfield 228), (7, .ireturn)]
/-- TemplateScopes.printed()I -/
def xk_96 : List (Nat × Instr) := [(0, .aload_n 0), (1, .getfield 60), (4, .getfield 231), (7, .ireturn)]
/-- TemplateScopes.keep()I -/
def xk_97 : List (Nat × Instr) := [(0, .aload_n 0), (1, .getfield 64), (4, .aload_n 0), (5, .getfield 60), (8, .invokevirtual 250), (11, .aload_n 0), (12, .iconst 1), (13, .putfield 74), (16, .aload_n 0), (17, .invokevirtual 188), (20, .ireturn)]
/-- TemplateScopes.savedStates()I -/
def xk_98 : List (Nat × Instr) := [(0, .aload_n 0), (1, .getfield 70), (4, .invokevirtual 247), (7, .ireturn)]
/-- TemplateScopes.valueShare()D -/
def xk_99 : List (Nat × Instr) := [(0, .aload_n 0), (1, .invokevirtual 188), (4, .istore_n 1), (5, .iload_n 1), (6, .ifCond .le 14), (9, .aload_n 0), (10, .invokevirtual 255), (13, .i2d), (14, .iload_n 1), (15, .i2d), (16, .ddiv), (17, .goto 4), (20, .dconst 0), (21, .dreturn)]
/-- TemplateScopes.digest()J -/
def xk_100 : List (Nat × Instr) := [(0, .aload_n 0), (1, .ldc2_w 258), (4, .invokevirtual 260), (7, .lstore_n 1), (8, .iconst 0), (9, .istore_n 3), (10, .iload_n 3), (11, .bipush 8), (13, .if_icmp .ge 72), (16, .lload_n 1), (17, .aload_n 0), (18, .iload_n 3), (19, .invokevirtual 264), (22, .invokestatic 268), (25, .lstore_n 1), (26, .aload_n 0), (27, .iload_n 3), (28, .invokevirtual 264), (31, .ifCond .eq 48), (34, .lload_n 1), (35, .aload_n 0), (36, .getfield 60), (39, .getfield 129), (42, .iload_n 3), (43, .invokestatic 272), (46, .lstore_n 1), (47, .lload_n 1), (48, .aload_n 0), (49, .iload_n 3), (50, .invokevirtual 276), (53, .invokestatic 268), (56, .lstore_n 1), (57, .lload_n 1), (58, .aload_n 0), (59, .iload_n 3), (60, .invokevirtual 279), (63, .i2l), (64, .invokestatic 282), (67, .lstore_n 1), (68, .lload_n 1), (69, .aload_n 0), (70, .iload_n 3), (71, .invokevirtual 286), (74, .i2l), (75, .invokestatic 282), (78, .lstore_n 1), (79, .iinc 3 1), (82, .goto (-72)), (85, .aload_n 0), (86, .invokevirtual 289), (89, .istore_n 3), (90, .lload_n 1), (91, .iload_n 3), (92, .invokestatic 268), (95, .lstore_n 1), (96, .iload_n 3), (97, .ifCond .eq 83), (100, .lload_n 1), (101, .aload_n 0), (102, .invokevirtual 292), (105, .i2l), (106, .invokestatic 282), (109, .lstore_n 1), (110, .lload_n 1), (111, .aload_n 0), (112, .invokevirtual 295), (115, .i2l), (116, .invokestatic 282), (119, .lstore_n 1), (120, .lload_n 1), (121, .aload_n 0), (122, .invokevirtual 298), (125, .i2l), (126, .invokestatic 282), (129, .lstore_n 1), (130, .lload_n 1), (131, .aload_n 0), (132, .invokevirtual 301), (135, .i2l), (136, .invokestatic 282), (139, .lstore_n 1), (140, .lload_n 1), (141, .aload_n 0), (142, .invokevirtual 304), (145, .i2l), (146, .invokestatic 282), (149, .lstore_n 1), (150, .lload_n 1), (151, .aload_n 0), (152, .invokevirtual 307), (155, .i2l), (156, .invokestatic 282), (159, .lstore_n 1), (160, .lload_n 1), (161, .aload_n 0), (162, .invokevirtual 310), (165, .i2l), (166, .invokestatic 282), (169, .lstore_n 1), (170, .lload_n 1), (171, .aload_n 0), (172, .invokevirtual 313), (175, .i2l), (176, .invokestatic 282), (179, .lstore_n 1), (180, .lload_n 1), (181, .aload_n 0), (182, .invokevirtual 316), (185, .i2l), (186, .invokestatic 282), (189, .lstore_n 1), (190, .lload_n 1), (191, .aload_n 0), (192, .invokevirtual 319), (195, .invokestatic 323), (198, .invokestatic 282), (201, .lstore_n 1), (202, .lload_n 1), (203, .aload_n 0), (204, .getfield 14), (207, .iconst 0), (208, .invokestatic 272), (211, .lreturn)]
/-- TemplateScopes.hashOutcome(J)J -/
def xk_101 : List (Nat × Instr) := [(0, .lload_n 1), (1, .aload_n 0), (2, .getfield 60), (5, .getfield 159), (8, .getfield 163), (11, .iconst 0), (12, .invokestatic 272), (15, .lstore_n 3), (16, .lload_n 3), (17, .aload_n 0), (18, .invokevirtual 197), (21, .invokestatic 268), (24, .lstore_n 3), (25, .aload_n 0), (26, .invokevirtual 197), (29, .ifCond .eq 13), (32, .lload_n 3), (33, .aload_n 0), (34, .invokevirtual 349), (37, .i2l), (38, .invokestatic 282), (41, .lstore_n 3), (42, .lload_n 3), (43, .aload_n 0), (44, .invokevirtual 205), (47, .i2l), (48, .invokestatic 282), (51, .lstore_n 3), (52, .iconst 0), (53, .istore 5), (55, .iload 5), (57, .aload_n 0), (58, .invokevirtual 205), (61, .if_icmp .ge 21), (64, .lload_n 3), (65, .aload_n 0), (66, .iload 5), (68, .invokevirtual 352), (71, .i2l), (72, .invokestatic 282), (75, .lstore_n 3), (76, .iinc 5 1), (79, .goto (-24)), (82, .lload_n 3), (83, .aload_n 0), (84, .invokevirtual 355), (87, .i2l), (88, .invokestatic 282), (91, .lstore_n 3), (92, .lload_n 3), (93, .aload_n 0), (94, .invokevirtual 358), (97, .i2l), (98, .invokestatic 282), (101, .lstore_n 3), (102, .lload_n 3), (103, .aload_n 0), (104, .invokevirtual 361), (107, .i2l), (108, .invokestatic 282), (111, .lstore_n 3), (112, .lload_n 3), (113, .aload_n 0), (114, .invokevirtual 255), (117, .i2l), (118, .invokestatic 282), (121, .lstore_n 3), (122, .lload_n 3), (123, .aload_n 0), (124, .invokevirtual 364), (127, .i2l), (128, .invokestatic 282), (131, .lstore_n 3), (132, .lload_n 3), (133, .aload_n 0), (134, .invokevirtual 367), (137, .i2l), (138, .invokestatic 282), (141, .lstore_n 3), (142, .lload_n 3), (143, .aload_n 0), (144, .invokevirtual 370), (147, .i2l), (148, .invokestatic 282), (151, .lstore_n 3), (152, .lload_n 3), (153, .aload_n 0), (154, .invokevirtual 373), (157, .i2l), (158, .invokestatic 282), (161, .lreturn)]
/-- TemplateScopes.hashText(JLTemplateScopes$Texts;I)J -/
def xk_102 : List (Nat × Instr) := [(0, .aload_n 2), (1, .iload_n 3), (2, .invokevirtual 92), (5, .istore 4), (7, .lload_n 0), (8, .iload 4), (10, .i2l), (11, .invokestatic 282), (14, .lstore 5), (16, .iconst 0), (17, .istore 7), (19, .iload 7), (21, .iload 4), (23, .if_icmp .ge 24), (26, .lload 5), (28, .aload_n 2), (29, .iload_n 3), (30, .iload 7), (32, .invokevirtual 177), (35, .i2l), (36, .invokestatic 282), (39, .lstore 5), (41, .iinc 7 1), (44, .goto (-25)), (47, .lload 5), (49, .lreturn)]
/-- TemplateScopes.hashWith(JJ)J -/
def xk_103 : List (Nat × Instr) := [(0, .ldc2_w 347), (3, .lload_n 0), (4, .lmul), (5, .lload_n 2), (6, .ladd), (7, .lreturn)]
/-- TemplateScopes.hashWithTruth(JZ)J -/
def xk_104 : List (Nat × Instr) := [(0, .lload_n 0), (1, .iload_n 2), (2, .ifCond .eq 7), (5, .lconst 1), (6, .goto 4), (9, .lconst 0), (10, .invokestatic 282), (13, .lreturn)]
/-- TemplateScopes.failureReason()I -/
def xk_105 : List (Nat × Instr) := [(0, .aload_n 0), (1, .invokevirtual 197), (4, .ifCond .ne 13), (7, .new 85), (10, .dup), (11, .ldc 200), (13, .invokespecial 89), (16, .athrow), (17, .aload_n 0), (18, .getfield 60), (21, .getfield 159), (24, .getfield 193), (27, .ireturn)]
/-- TemplateScopes.failurePlace(I)I -/
def xk_106 : List (Nat × Instr) := [(0, .iload_n 1), (1, .ifCond .lt 11), (4, .iload_n 1), (5, .aload_n 0), (6, .invokevirtual 205), (9, .if_icmp .lt 13), (12, .new 172), (15, .dup), (16, .ldc 208), (18, .invokespecial 176), (21, .athrow), (22, .aload_n 0), (23, .getfield 60), (26, .getfield 159), (29, .iload_n 1), (30, .invokevirtual 210), (33, .ireturn)]
/-- TemplateScopes.hasValue(I)Z -/
def xk_107 : List (Nat × Instr) := [(0, .iload_n 1), (1, .invokestatic 126), (4, .aload_n 0), (5, .getfield 60), (8, .getfield 129), (11, .iload_n 1), (12, .invokevirtual 92), (15, .iconst (-1)), (16, .if_icmp .eq 7), (19, .iconst 1), (20, .goto 4), (23, .iconst 0), (24, .ireturn)]
/-- TemplateScopes.requireVariable(I)V -/
def xk_108 : List (Nat × Instr) := [(0, .iload_n 0), (1, .ifCond .lt 9), (4, .iload_n 0), (5, .bipush 8), (7, .if_icmp .lt 14), (10, .new 172), (13, .dup), (14, .ldc_w 332), (17, .invokespecial 176), (20, .athrow), (21, .return_)]
/-- TemplateScopes.isTemplate(I)Z -/
def xk_109 : List (Nat × Instr) := [(0, .aload_n 0), (1, .iload_n 1), (2, .invokevirtual 138), (5, .pop), (6, .aload_n 0), (7, .getfield 30), (10, .aload_n 0), (11, .getfield 60), (14, .getfield 129), (17, .iload_n 1), (18, .invokevirtual 96), (21, .aload_n 0), (22, .getfield 30), (25, .invokevirtual 104), (28, .ireturn)]
/-- TemplateScopes.requireValue(I)I -/
def xk_110 : List (Nat × Instr) := [(0, .iload_n 1), (1, .invokestatic 126), (4, .aload_n 0), (5, .getfield 60), (8, .getfield 129), (11, .iload_n 1), (12, .invokevirtual 92), (15, .istore_n 2), (16, .iload_n 2), (17, .iconst (-1)), (18, .if_icmp .ne 14), (21, .new 85), (24, .dup), (25, .ldc_w 334), (28, .invokespecial 89), (31, .athrow), (32, .iload_n 2), (33, .ireturn)]
/-- TemplateScopes.escapedLength(I)I -/
def xk_111 : List (Nat × Instr) := [(0, .aload_n 0), (1, .iload_n 1), (2, .invokevirtual 138), (5, .pop), (6, .aload_n 0), (7, .iload_n 1), (8, .invokevirtual 154), (11, .ireturn)]
/-- TemplateScopes.escapeAside(I)I -/
def xk_112 : List (Nat × Instr) := [(0, .aload_n 0), (1, .getfield 22), (4, .iconst 0), (5, .invokevirtual 18), (8, .iconst 0), (9, .istore_n 2), (10, .iload_n 2), (11, .aload_n 0), (12, .getfield 60), (15, .getfield 129), (18, .iload_n 1), (19, .invokevirtual 92), (22, .if_icmp .ge 50), (25, .aload_n 0), (26, .getfield 60), (29, .getfield 129), (32, .iload_n 1), (33, .iload_n 2), (34, .invokevirtual 177), (37, .istore_n 3), (38, .iload_n 3), (39, .invokestatic 340), (42, .ifCond .eq 14), (45, .aload_n 0), (46, .getfield 22), (49, .iconst 0), (50, .bipush 126), (52, .invokevirtual 81), (55, .pop), (56, .aload_n 0), (57, .getfield 22), (60, .iconst 0), (61, .iload_n 3), (62, .invokevirtual 81), (65, .pop), (66, .iinc 2 1), (69, .goto (-59)), (72, .aload_n 0), (73, .getfield 22), (76, .iconst 0), (77, .invokevirtual 92), (80, .ireturn)]
/-- TemplateScopes.isSpecial(I)Z -/
def xk_113 : List (Nat × Instr) := [(0, .iload_n 0), (1, .bipush 123), (3, .if_icmp .eq 15), (6, .iload_n 0), (7, .bipush 125), (9, .if_icmp .eq 9), (12, .iload_n 0), (13, .bipush 126), (15, .if_icmp .ne 7), (18, .iconst 1), (19, .goto 4), (22, .iconst 0), (23, .ireturn)]
/-- TemplateScopes.alikeBehindEscaping(I)I -/
def xk_114 : List (Nat × Instr) := [(0, .aload_n 0), (1, .iload_n 1), (2, .invokevirtual 138), (5, .istore_n 2), (6, .aload_n 0), (7, .iload_n 1), (8, .invokevirtual 154), (11, .pop), (12, .aload_n 0), (13, .getfield 30), (16, .aload_n 0), (17, .getfield 22), (20, .iconst 0), (21, .invokevirtual 96), (24, .aload_n 0), (25, .iconst (-1)), (26, .invokevirtual 180), (29, .aload_n 0), (30, .getfield 37), (33, .getfield 183), (36, .getfield 163), (39, .astore_n 3), (40, .iconst 0), (41, .istore 4), (43, .iconst 0), (44, .istore 5), (46, .iload 5), (48, .iload_n 2), (49, .if_icmp .ge 45), (52, .iload 5), (54, .aload_n 3), (55, .iconst 0), (56, .invokevirtual 92), (59, .if_icmp .ge 35), (62, .aload_n 3), (63, .iconst 0), (64, .iload 5), (66, .invokevirtual 177), (69, .aload_n 0), (70, .getfield 60), (73, .getfield 129), (76, .iload_n 1), (77, .iload 5), (79, .invokevirtual 177), (82, .if_icmp .ne 6), (85, .iinc 4 1), (88, .iinc 5 1), (91, .goto (-45)), (94, .iload 4), (96, .ireturn)]
/-- TemplateScopes.runByParts(I)V -/
def xk_115 : List (Nat × Instr) := [(0, .aload_n 0), (1, .getfield 37), (4, .aload_n 0), (5, .getfield 60), (8, .getfield 129), (11, .iload_n 1), (12, .invokevirtual 234), (15, .aload_n 0), (16, .getfield 46), (19, .aload_n 0), (20, .getfield 30), (23, .iconst 0), (24, .aload_n 0), (25, .getfield 30), (28, .invokevirtual 111), (31, .iconst 0), (32, .invokevirtual 343), (35, .pop), (36, .return_)]
/-- TemplateScopes.parts()I -/
def xk_116 : List (Nat × Instr) := [(0, .aload_n 0), (1, .invokevirtual 108), (4, .aload_n 0), (5, .getfield 30), (8, .invokevirtual 111), (11, .ireturn)]
/-- TemplateScopes.requireComplete()V -/
def xk_117 : List (Nat × Instr) := [(0, .aload_n 0), (1, .getfield 30), (4, .aload_n 0), (5, .getfield 14), (8, .iconst 0), (9, .invokevirtual 96), (12, .aload_n 0), (13, .getfield 30), (16, .invokevirtual 104), (19, .ifCond .ne 14), (22, .new 85), (25, .dup), (26, .ldc_w 336), (29, .invokespecial 89), (32, .athrow), (33, .return_)]
/-- TemplateScopes.depth()I -/
def xk_118 : List (Nat × Instr) := [(0, .aload_n 0), (1, .invokevirtual 108), (4, .aload_n 0), (5, .getfield 30), (8, .invokevirtual 114), (11, .ireturn)]
/-- TemplateScopes.names()I -/
def xk_119 : List (Nat × Instr) := [(0, .aload_n 0), (1, .invokevirtual 108), (4, .aload_n 0), (5, .getfield 30), (8, .invokevirtual 117), (11, .ireturn)]
/-- TemplateScopes.namesSet()I -/
def xk_120 : List (Nat × Instr) := [(0, .aload_n 0), (1, .invokevirtual 108), (4, .aload_n 0), (5, .getfield 30), (8, .invokevirtual 120), (11, .ireturn)]
/-- TemplateScopes.loops()I -/
def xk_121 : List (Nat × Instr) := [(0, .aload_n 0), (1, .invokevirtual 108), (4, .aload_n 0), (5, .getfield 30), (8, .invokevirtual 123), (11, .ireturn)]
/-- TemplateScopes.wouldPrint()I -/
def xk_122 : List (Nat × Instr) := [(0, .aload_n 0), (1, .invokevirtual 108), (4, .aload_n 0), (5, .iconst (-1)), (6, .invokevirtual 180), (9, .aload_n 0), (10, .getfield 37), (13, .getfield 183), (16, .getfield 163), (19, .iconst 0), (20, .invokevirtual 92), (23, .ireturn)]
/-- TemplateScopes.wouldPrintByText()I -/
def xk_123 : List (Nat × Instr) := [(0, .aload_n 0), (1, .invokevirtual 108), (4, .aload_n 0), (5, .getfield 37), (8, .aload_n 0), (9, .getfield 60), (12, .getfield 129), (15, .iconst (-1)), (16, .invokevirtual 234), (19, .aload_n 0), (20, .getfield 53), (23, .aload_n 0), (24, .getfield 14), (27, .invokevirtual 237), (30, .aload_n 0), (31, .getfield 37), (34, .getfield 183), (37, .getfield 163), (40, .iconst 0), (41, .invokevirtual 92), (44, .ireturn)]
/-- TemplateScopes.wouldFail()I -/
def xk_124 : List (Nat × Instr) := [(0, .aload_n 0), (1, .invokevirtual 108), (4, .aload_n 0), (5, .iconst (-1)), (6, .invokevirtual 180), (9, .aload_n 0), (10, .getfield 37), (13, .getfield 183), (16, .getfield 193), (19, .ireturn)]
/-- TemplateScopes.bitsOfShare(D)J -/
def xk_125 : List (Nat × Instr) := [(0, .dload_n 0), (1, .dconst 0), (2, .dcmp .l), (3, .ifCond .gt 5), (6, .lconst 0), (7, .lreturn), (8, .dload_n 0), (9, .dstore_n 2), (10, .ldc2_w 376), (13, .lstore 4), (15, .iconst 0), (16, .istore 6), (18, .iload 6), (20, .bipush 64), (22, .if_icmp .ge 27), (25, .dload_n 2), (26, .dconst 1), (27, .dcmp .g), (28, .ifCond .ge 21), (31, .dload_n 2), (32, .ldc2_w 378), (35, .dmul), (36, .dstore_n 2), (37, .lload 4), (39, .lconst 1), (40, .lsub), (41, .lstore 4), (43, .iinc 6 1), (46, .goto (-28)), (49, .lload 4), (51, .bipush 52), (53, .lshl), (54, .dload_n 2), (55, .dconst 1), (56, .dsub), (57, .ldc2_w 380), (60, .dmul), (61, .d2l), (62, .ladd), (63, .lreturn)]
/-- TemplateScopes.append(I)I -/
def xk_126 : List (Nat × Instr) := [(0, .iload_n 1), (1, .invokestatic 78), (4, .aload_n 0), (5, .getfield 14), (8, .iconst 0), (9, .iload_n 1), (10, .invokevirtual 81), (13, .ifCond .ne 13), (16, .new 85), (19, .dup), (20, .ldc 87), (22, .invokespecial 89), (25, .athrow), (26, .aload_n 0), (27, .getfield 14), (30, .iconst 0), (31, .invokevirtual 92), (34, .ireturn)]
/-- TemplateScopes.requireCode(I)V -/
def xk_127 : List (Nat × Instr) := [(0, .iload_n 0), (1, .bipush 33), (3, .if_icmp .lt 9), (6, .iload_n 0), (7, .bipush 126), (9, .if_icmp .le 14), (12, .new 327), (15, .dup), (16, .ldc_w 329), (19, .invokespecial 331), (22, .athrow), (23, .return_)]
/-- TemplateScopes.appendValue(II)I -/
def xk_128 : List (Nat × Instr) := [(0, .iload_n 1), (1, .invokestatic 126), (4, .iload_n 2), (5, .invokestatic 78), (8, .aload_n 0), (9, .getfield 60), (12, .getfield 129), (15, .iload_n 1), (16, .invokevirtual 92), (19, .istore_n 3), (20, .iload_n 3), (21, .bipush 24), (23, .if_icmp .lt 13), (26, .new 85), (29, .dup), (30, .ldc 132), (32, .invokespecial 89), (35, .athrow), (36, .aload_n 0), (37, .getfield 70), (40, .aload_n 0), (41, .getfield 60), (44, .invokevirtual 134), (47, .iload_n 3), (48, .iconst (-1)), (49, .if_icmp .ne 14), (52, .aload_n 0), (53, .getfield 60), (56, .getfield 129), (59, .iload_n 1), (60, .invokevirtual 18), (63, .aload_n 0), (64, .getfield 60), (67, .getfield 129), (70, .iload_n 1), (71, .iload_n 2), (72, .invokevirtual 81), (75, .pop), (76, .aload_n 0), (77, .getfield 60), (80, .getfield 129), (83, .iload_n 1), (84, .invokevirtual 92), (87, .ireturn)]
/-- TemplateScopes.removeValue(I)I -/
def xk_129 : List (Nat × Instr) := [(0, .aload_n 0), (1, .iload_n 1), (2, .invokevirtual 138), (5, .istore_n 2), (6, .aload_n 0), (7, .getfield 70), (10, .aload_n 0), (11, .getfield 60), (14, .invokevirtual 134), (17, .aload_n 0), (18, .getfield 60), (21, .getfield 129), (24, .iload_n 1), (25, .invokevirtual 141), (28, .iload_n 2), (29, .ireturn)]
/-- TemplateScopes.emptyValue(I)I -/
def xk_130 : List (Nat × Instr) := [(0, .iload_n 1), (1, .invokestatic 126), (4, .iconst 0), (5, .aload_n 0), (6, .getfield 60), (9, .getfield 129), (12, .iload_n 1), (13, .invokevirtual 92), (16, .invokestatic 144), (19, .istore_n 2), (20, .aload_n 0), (21, .getfield 70), (24, .aload_n 0), (25, .getfield 60), (28, .invokevirtual 134), (31, .aload_n 0), (32, .getfield 60), (35, .getfield 129), (38, .iload_n 1), (39, .invokevirtual 18), (42, .iload_n 2), (43, .ireturn)]
/-- TemplateScopes.copyValue(II)I -/
def xk_131 : List (Nat × Instr) := [(0, .iload_n 1), (1, .invokestatic 126), (4, .aload_n 0), (5, .iload_n 2), (6, .invokevirtual 138), (9, .istore_n 3), (10, .aload_n 0), (11, .getfield 70), (14, .aload_n 0), (15, .getfield 60), (18, .invokevirtual 134), (21, .aload_n 0), (22, .getfield 60), (25, .getfield 129), (28, .iload_n 1), (29, .aload_n 0), (30, .getfield 60), (33, .getfield 129), (36, .iload_n 2), (37, .invokevirtual 150), (40, .iload_n 3), (41, .ireturn)]
/-- TemplateScopes.escapeValue(I)I -/
def xk_132 : List (Nat × Instr) := [(0, .aload_n 0), (1, .iload_n 1), (2, .invokevirtual 138), (5, .pop), (6, .aload_n 0), (7, .iload_n 1), (8, .invokevirtual 154), (11, .istore_n 2), (12, .iload_n 2), (13, .bipush 24), (15, .if_icmp .le 13), (18, .new 85), (21, .dup), (22, .ldc 157), (24, .invokespecial 89), (27, .athrow), (28, .aload_n 0), (29, .getfield 70), (32, .aload_n 0), (33, .getfield 60), (36, .invokevirtual 134), (39, .aload_n 0), (40, .getfield 60), (43, .getfield 129), (46, .iload_n 1), (47, .aload_n 0), (48, .getfield 22), (51, .iconst 0), (52, .invokevirtual 150), (55, .iload_n 2), (56, .ireturn)]
/-- TemplateScopes.takeOutput(I)I -/
def xk_133 : List (Nat × Instr) := [(0, .iload_n 1), (1, .invokestatic 126), (4, .aload_n 0), (5, .iload_n 1), (6, .aload_n 0), (7, .getfield 60), (10, .getfield 159), (13, .getfield 163), (16, .invokevirtual 168), (19, .ireturn)]
/-- TemplateScopes.takeText(ILTemplateScopes$Texts;)I -/
def xk_134 : List (Nat × Instr) := [(0, .aload_n 2), (1, .iconst 0), (2, .invokevirtual 92), (5, .istore_n 3), (6, .iload_n 3), (7, .bipush 24), (9, .if_icmp .le 14), (12, .new 85), (15, .dup), (16, .ldc_w 338), (19, .invokespecial 89), (22, .athrow), (23, .aload_n 0), (24, .getfield 70), (27, .aload_n 0), (28, .getfield 60), (31, .invokevirtual 134), (34, .aload_n 0), (35, .getfield 60), (38, .getfield 129), (41, .iload_n 1), (42, .aload_n 2), (43, .iconst 0), (44, .invokevirtual 150), (47, .iload_n 3), (48, .ireturn)]
/-- TemplateScopes.takeTemplate(I)I -/
def xk_135 : List (Nat × Instr) := [(0, .iload_n 1), (1, .invokestatic 126), (4, .aload_n 0), (5, .iload_n 1), (6, .aload_n 0), (7, .getfield 14), (10, .invokevirtual 168), (13, .ireturn)]
/-- TemplateScopes.valueLength(I)I -/
def xk_136 : List (Nat × Instr) := [(0, .aload_n 0), (1, .iload_n 1), (2, .invokevirtual 138), (5, .ireturn)]
/-- TemplateScopes.valueCharacter(II)I -/
def xk_137 : List (Nat × Instr) := [(0, .aload_n 0), (1, .iload_n 1), (2, .invokevirtual 138), (5, .istore_n 3), (6, .iload_n 2), (7, .ifCond .lt 8), (10, .iload_n 2), (11, .iload_n 3), (12, .if_icmp .lt 13), (15, .new 172), (18, .dup), (19, .ldc 174), (21, .invokespecial 176), (24, .athrow), (25, .aload_n 0), (26, .getfield 60), (29, .getfield 129), (32, .iload_n 1), (33, .iload_n 2), (34, .invokevirtual 177), (37, .ireturn)]
/-- TemplateScopes.render()I -/
def xk_138 : List (Nat × Instr) := [(0, .aload_n 0), (1, .invokevirtual 108), (4, .aload_n 0), (5, .getfield 70), (8, .aload_n 0), (9, .getfield 60), (12, .invokevirtual 134), (15, .aload_n 0), (16, .iconst (-1)), (17, .invokevirtual 180), (20, .aload_n 0), (21, .getfield 60), (24, .aload_n 0), (25, .getfield 37), (28, .getfield 183), (31, .invokevirtual 184), (34, .aload_n 0), (35, .invokevirtual 188), (38, .ireturn)]
/-- TemplateScopes.outputCharacter(I)I -/
def xk_139 : List (Nat × Instr) := [(0, .iload_n 1), (1, .ifCond .lt 11), (4, .iload_n 1), (5, .aload_n 0), (6, .invokevirtual 188), (9, .if_icmp .lt 13), (12, .new 172), (15, .dup), (16, .ldc 191), (18, .invokespecial 176), (21, .athrow), (22, .aload_n 0), (23, .getfield 60), (26, .getfield 159), (29, .getfield 163), (32, .iconst 0), (33, .iload_n 1), (34, .invokevirtual 177), (37, .ireturn)]
/-- TemplateScopes.wouldPrintWithout(I)I -/
def xk_140 : List (Nat × Instr) := [(0, .iload_n 1), (1, .invokestatic 126), (4, .aload_n 0), (5, .invokevirtual 108), (8, .aload_n 0), (9, .iload_n 1), (10, .invokevirtual 180), (13, .aload_n 0), (14, .getfield 37), (17, .getfield 183), (20, .getfield 163), (23, .iconst 0), (24, .invokevirtual 92), (27, .ireturn)]
/-- TemplateScopes.undo()I -/
def xk_141 : List (Nat × Instr) := [(0, .aload_n 0), (1, .getfield 70), (4, .aload_n 0), (5, .getfield 60), (8, .invokevirtual 241), (11, .ifCond .ne 13), (14, .new 85), (17, .dup), (18, .ldc 245), (20, .invokespecial 89), (23, .athrow), (24, .aload_n 0), (25, .getfield 70), (28, .invokevirtual 247), (31, .ireturn)]
/-- TemplateScopes.restore()I -/
def xk_142 : List (Nat × Instr) := [(0, .aload_n 0), (1, .getfield 74), (4, .ifCond .ne 13), (7, .new 85), (10, .dup), (11, .ldc 253), (13, .invokespecial 89), (16, .athrow), (17, .aload_n 0), (18, .getfield 70), (21, .aload_n 0), (22, .getfield 60), (25, .invokevirtual 134), (28, .aload_n 0), (29, .getfield 60), (32, .aload_n 0), (33, .getfield 64), (36, .invokevirtual 250), (39, .aload_n 0), (40, .invokevirtual 188), (43, .ireturn)]
/-- TemplateScopesModel.<init>()V -/
def xk_143 : List (Nat × Instr) := [(0, .aload_n 0), (1, .invokespecial 1), (4, .aload_n 0), (5, .sipush 416), (8, .newarray .int), (10, .putfield 7), (13, .aload_n 0), (14, .sipush 2496), (17, .newarray .int), (19, .putfield 13), (22, .aload_n 0), (23, .sipush 416), (26, .newarray .int), (28, .putfield 16), (31, .aload_n 0), (32, .bipush 60), (34, .newarray .int), (36, .putfield 19), (39, .aload_n 0), (40, .sipush 160), (43, .newarray .int), (45, .putfield 22), (48, .aload_n 0), (49, .sipush 200), (52, .newarray .int), (54, .putfield 25), (57, .aload_n 0), (58, .bipush 8), (60, .newarray .int), (62, .putfield 28), (65, .aload_n 0), (66, .sipush 16000), (69, .newarray .int), (71, .putfield 31), (74, .aload_n 0), (75, .bipush 64), (77, .newarray .int), (79, .putfield 34), (82, .aload_n 0), (83, .sipush 1536), (86, .newarray .int), (88, .putfield 37), (91, .aload_n 0), (92, .iconst 5), (93, .newarray .int), (95, .putfield 40), (98, .aload_n 0), (99, .iconst 5), (100, .newarray .int), (102, .putfield 43), (105, .aload_n 0), (106, .bipush 64), (108, .newarray .int), (110, .putfield 46), (113, .aload_n 0), (114, .bipush 64), (116, .newarray .int), (118, .putfield 49), (121, .aload_n 0), (122, .bipush 64), (124, .newarray .int), (126, .putfield 52), (129, .aload_n 0), (130, .bipush 64), (132, .newarray .int), (134, .putfield 55), (137, .aload_n 0), (138, .bipush 64), (140, .newarray .int), (142, .putfield 58), (145, .aload_n 0), (146, .bipush 64), (148, .newarray .int), (150, .putfield 61), (153, .aload_n 0), (154, .bipush 64), (156, .newarray .int), (158, .putfield 64), (161, .aload_n 0), (162, .sipush 1536), (165, .newarray .int), (167, .putfield 67), (170, .iconst 0), (171, .istore_n 1), (172, .iload_n 1), (173, .bipush 8), (175, .if_icmp .ge 21), (178, .aload_n 0), (179, .getfield 7), (182, .iconst 0), (183, .bipush 25), (185, .iload_n 1), (186, .imul), (187, .iadd), (188, .iconst (-1)), (189, .iastore), (190, .iinc 1 1), (193, .goto (-21)), (196, .return_)]
/-- TemplateScopesModel.thrown()I -/
def xk_144 : List (Nat × Instr) := [(0, .aload_n 0), (1, .getfield 70), (4, .ireturn)]
/-- TemplateScopesModel.append(I)I -/
def xk_145 : List (Nat × Instr) := [(0, .aload_n 0), (1, .iload_n 1), (2, .bipush 33), (4, .bipush 126), (6, .invokestatic 74), (9, .ifCond .ne 7), (12, .iconst 1), (13, .goto 17), (16, .aload_n 0), (17, .getfield 120), (20, .bipush 60), (22, .if_icmp .ne 7), (25, .iconst 2), (26, .goto 4), (29, .iconst 0), (30, .invokevirtual 221), (33, .ifCond .ne 5), (36, .iconst 0), (37, .ireturn), (38, .aload_n 0), (39, .getfield 19), (42, .aload_n 0), (43, .getfield 120), (46, .iload_n 1), (47, .iastore), (48, .aload_n 0), (49, .dup), (50, .getfield 120), (53, .iconst 1), (54, .iadd), (55, .putfield 120), (58, .aload_n 0), (59, .getfield 120), (62, .ireturn)]
/-- TemplateScopesModel.in(III)Z -/
def xk_146 : List (Nat × Instr) := [(0, .iload_n 0), (1, .iload_n 1), (2, .if_icmp .lt 12), (5, .iload_n 0), (6, .iload_n 2), (7, .if_icmp .gt 7), (10, .iconst 1), (11, .goto 4), (14, .iconst 0), (15, .ireturn)]
/-- TemplateScopesModel.holds(I)Z -/
def xk_147 : List (Nat × Instr) := [(0, .aload_n 0), (1, .iload_n 1), (2, .putfield 70), (5, .iload_n 1), (6, .ifCond .ne 7), (9, .iconst 1), (10, .goto 4), (13, .iconst 0), (14, .ireturn)]
/-- TemplateScopesModel.clearTemplate()I -/
def xk_148 : List (Nat × Instr) := [(0, .aload_n 0), (1, .iconst 0), (2, .putfield 70), (5, .aload_n 0), (6, .getfield 120), (9, .istore_n 1), (10, .aload_n 0), (11, .iconst 0), (12, .putfield 120), (15, .iload_n 1), (16, .ireturn)]
/-- TemplateScopesModel.templateLength()I -/
def xk_149 : List (Nat × Instr) := [(0, .aload_n 0), (1, .iconst 0), (2, .putfield 70), (5, .aload_n 0), (6, .getfield 120), (9, .ireturn)]
/-- TemplateScopesModel.firstError()I -/
def xk_150 : List (Nat × Instr) := [(0, .aload_n 0), (1, .iconst 0), (2, .putfield 70), (5, .aload_n 0), (6, .invokevirtual 217), (9, .ireturn)]
/-- TemplateScopesModel.readsBuffer()I -/
def xk_151 : List (Nat × Instr) := [(0, .iconst 0), (1, .istore_n 1), (2, .iload_n 1), (3, .aload_n 0), (4, .getfield 120), (7, .if_icmp .ge 21), (10, .aload_n 0), (11, .getfield 22), (14, .iload_n 1), (15, .aload_n 0), (16, .getfield 19), (19, .iload_n 1), (20, .iaload), (21, .iastore), (22, .iinc 1 1), (25, .goto (-23)), (28, .aload_n 0), (29, .aload_n 0), (30, .getfield 120), (33, .putfield 123), (36, .aload_n 0), (37, .iconst 0), (38, .aload_n 0), (39, .getfield 120), (42, .invokevirtual 126), (45, .ireturn)]
/-- TemplateScopesModel.reads(II)I -/
def xk_152 : List (Nat × Instr) := [(0, .aload_n 0), (1, .iconst 0), (2, .putfield 85), (5, .aload_n 0), (6, .iconst 0), (7, .putfield 88), (10, .aload_n 0), (11, .iconst 0), (12, .putfield 103), (15, .aload_n 0), (16, .iconst 0), (17, .putfield 106), (20, .aload_n 0), (21, .iconst 0), (22, .putfield 109), (25, .aload_n 0), (26, .iconst 0), (27, .putfield 91), (30, .iconst 0), (31, .istore_n 3), (32, .iconst 0), (33, .istore 4), (35, .iload 4), (37, .iload_n 2), (38, .if_icmp .ge 39), (41, .iload_n 3), (42, .ifCond .lt 35), (45, .aload_n 0), (46, .iload_n 3), (47, .aload_n 0), (48, .getfield 22), (51, .iload_n 1), (52, .iload 4), (54, .iadd), (55, .iaload), (56, .invokevirtual 112), (59, .istore_n 3), (60, .iload 4), (62, .iload_n 3), (63, .ifCond .lt 7), (66, .iconst 1), (67, .goto 4), (70, .iconst 0), (71, .iadd), (72, .istore 4), (74, .goto (-39)), (77, .aload_n 0), (78, .iload_n 3), (79, .ifCond .ne 14), (82, .aload_n 0), (83, .getfield 91), (86, .ifCond .ne 7), (89, .iconst 1), (90, .goto 4), (93, .iconst 0), (94, .putfield 116), (97, .iload 4), (99, .ireturn)]
/-- TemplateScopesModel.goesOn(II)I -/
def xk_153 : List (Nat × Instr) := [(0, .iload_n 2), (1, .invokestatic 94), (4, .istore_n 3), (5, .iload_n 1), (6, .tableswitch 252 0 5 #[38, 93, 95, 164, 240, 164]), (44, .iload_n 2), (45, .bipush 125), (47, .if_icmp .ne 26), (50, .aload_n 0), (51, .dup), (52, .getfield 91), (55, .iconst 1), (56, .isub), (57, .putfield 91), (60, .aload_n 0), (61, .getfield 91), (64, .ifCond .ge 7), (67, .iconst (-1)), (68, .goto 4), (71, .iconst 0), (72, .ireturn), (73, .aload_n 0), (74, .invokevirtual 97), (77, .iload_n 2), (78, .bipush 126), (80, .if_icmp .ne 7), (83, .iconst 1), (84, .goto 14), (87, .iload_n 2), (88, .bipush 123), (90, .if_icmp .ne 7), (93, .iconst 2), (94, .goto 4), (97, .iconst 0), (98, .ireturn), (99, .iconst 0), (100, .ireturn), (101, .aload_n 0), (102, .iload_n 2), (103, .putfield 100), (106, .iload_n 3), (107, .ifCond .lt 15), (110, .aload_n 0), (111, .dup), (112, .getfield 103), (115, .iconst 1), (116, .iload_n 3), (117, .ishl), (118, .ior), (119, .putfield 103), (122, .iload_n 3), (123, .ifCond .lt 7), (126, .iconst 4), (127, .goto 42), (130, .iload_n 2), (131, .bipush 33), (133, .if_icmp .eq 9), (136, .iload_n 2), (137, .bipush 94), (139, .if_icmp .ne 7), (142, .iconst 3), (143, .goto 26), (146, .iload_n 2), (147, .bipush 42), (149, .if_icmp .eq 15), (152, .iload_n 2), (153, .bipush 63), (155, .if_icmp .eq 9), (158, .iload_n 2), (159, .bipush 61), (161, .if_icmp .ne 7), (164, .iconst 5), (165, .goto 4), (168, .iconst (-1)), (169, .ireturn), (170, .iload_n 3), (171, .ifCond .lt 63), (174, .aload_n 0), (175, .dup), (176, .getfield 103), (179, .iconst 1), (180, .iload_n 3), (181, .ishl), (182, .ior), (183, .putfield 103), (186, .aload_n 0), (187, .dup), (188, .getfield 106), (191, .aload_n 0), (192, .getfield 100), (195, .bipush 61), (197, .if_icmp .ne 9), (200, .iconst 1), (201, .iload_n 3), (202, .ishl), (203, .goto 4), (206, .iconst 0), (207, .ior), (208, .putfield 106), (211, .aload_n 0), (212, .dup), (213, .getfield 109), (216, .aload_n 0), (217, .getfield 100), (220, .bipush 42), (222, .if_icmp .ne 7), (225, .iconst 1), (226, .goto 4), (229, .iconst 0), (230, .iadd), (231, .putfield 109), (234, .iload_n 3), (235, .ifCond .ge 7), (238, .iconst (-1)), (239, .goto 6), (242, .iload_n 1), (243, .iconst 1), (244, .iadd), (245, .ireturn), (246, .iload_n 2), (247, .bipush 125), (249, .if_icmp .ne 7), (252, .iconst 0), (253, .goto 4), (256, .iconst (-1)), (257, .ireturn), (258, .aload_n 0), (259, .dup), (260, .getfield 91), (263, .iload_n 2), (264, .bipush 58), (266, .if_icmp .ne 7), (269, .iconst 1), (270, .goto 4), (273, .iconst 0), (274, .iadd), (275, .putfield 91), (278, .iload_n 2), (279, .bipush 58), (281, .if_icmp .ne 7), (284, .iconst 0), (285, .goto 4), (288, .iconst (-1)), (289, .ireturn)]
/-- TemplateScopesModel.nameOf(I)I -/
def xk_154 : List (Nat × Instr) := [(0, .iload_n 0), (1, .bipush 97), (3, .bipush 104), (5, .invokestatic 74), (8, .ifCond .eq 10), (11, .iload_n 0), (12, .bipush 97), (14, .isub), (15, .goto 26), (18, .iload_n 0), (19, .bipush 107), (21, .if_icmp .ne 8), (24, .bipush 8), (26, .goto 15), (29, .iload_n 0), (30, .bipush 120), (32, .if_icmp .ne 8), (35, .bipush 9), (37, .goto 4), (40, .iconst (-1)), (41, .ireturn)]
/-- TemplateScopesModel.part()V -/
def xk_155 : List (Nat × Instr) := [(0, .aload_n 0), (1, .dup), (2, .getfield 85), (5, .iconst 1), (6, .iadd), (7, .putfield 85), (10, .aload_n 0), (11, .aload_n 0), (12, .getfield 88), (15, .aload_n 0), (16, .getfield 91), (19, .iconst 1), (20, .iadd), (21, .if_icmp .le 10), (24, .aload_n 0), (25, .getfield 88), (28, .goto 9), (31, .aload_n 0), (32, .getfield 91), (35, .iconst 1), (36, .iadd), (37, .putfield 88), (40, .return_)]
/-- TemplateScopesModel.isComplete()Z -/
def xk_156 : List (Nat × Instr) := [(0, .aload_n 0), (1, .iconst 0), (2, .putfield 70), (5, .aload_n 0), (6, .invokevirtual 224), (9, .ireturn)]
/-- TemplateScopesModel.isBufferWhole()Z -/
def xk_157 : List (Nat × Instr) := [(0, .aload_n 0), (1, .invokevirtual 217), (4, .istore_n 1), (5, .aload_n 0), (6, .getfield 116), (9, .ireturn)]
/-- TemplateScopesModel.parts()I -/
def xk_158 : List (Nat × Instr) := [(0, .aload_n 0), (1, .aload_n 0), (2, .invokevirtual 224), (5, .ifCond .eq 7), (8, .iconst 0), (9, .goto 4), (12, .iconst 1), (13, .invokevirtual 221), (16, .ifCond .eq 10), (19, .aload_n 0), (20, .getfield 85), (23, .goto 4), (26, .iconst 0), (27, .ireturn)]
/-- TemplateScopesModel.depth()I -/
def xk_159 : List (Nat × Instr) := [(0, .aload_n 0), (1, .aload_n 0), (2, .invokevirtual 224), (5, .ifCond .eq 7), (8, .iconst 0), (9, .goto 4), (12, .iconst 1), (13, .invokevirtual 221), (16, .ifCond .eq 10), (19, .aload_n 0), (20, .getfield 88), (23, .goto 4), (26, .iconst 0), (27, .ireturn)]
/-- TemplateScopesModel.names()I -/
def xk_160 : List (Nat × Instr) := [(0, .aload_n 0), (1, .aload_n 0), (2, .invokevirtual 224), (5, .ifCond .eq 7), (8, .iconst 0), (9, .goto 4), (12, .iconst 1), (13, .invokevirtual 221), (16, .ifCond .eq 10), (19, .aload_n 0), (20, .getfield 103), (23, .goto 4), (26, .iconst 0), (27, .ireturn)]
/-- TemplateScopesModel.namesSet()I -/
def xk_161 : List (Nat × Instr) := [(0, .aload_n 0), (1, .aload_n 0), (2, .invokevirtual 224), (5, .ifCond .eq 7), (8, .iconst 0), (9, .goto 4), (12, .iconst 1), (13, .invokevirtual 221), (16, .ifCond .eq 10), (19, .aload_n 0), (20, .getfield 106), (23, .goto 4), (26, .iconst 0), (27, .ireturn)]
/-- TemplateScopesModel.loops()I -/
def xk_162 : List (Nat × Instr) := [(0, .aload_n 0), (1, .aload_n 0), (2, .invokevirtual 224), (5, .ifCond .eq 7), (8, .iconst 0), (9, .goto 4), (12, .iconst 1), (13, .invokevirtual 221), (16, .ifCond .eq 10), (19, .aload_n 0), (20, .getfield 109), (23, .goto 4), (26, .iconst 0), (27, .ireturn)]
/-- TemplateScopesModel.appendValue(II)I -/
def xk_163 : List (Nat × Instr) := [(0, .aload_n 0), (1, .iload_n 1), (2, .invokestatic 227), (5, .ifCond .ne 7), (8, .iconst 1), (9, .goto 33), (12, .iload_n 2), (13, .bipush 33), (15, .bipush 126), (17, .invokestatic 74), (20, .ifCond .ne 7), (23, .iconst 2), (24, .goto 18), (27, .aload_n 0), (28, .iload_n 1), (29, .invokevirtual 78), (32, .bipush 24), (34, .if_icmp .ne 7), (37, .iconst 3), (38, .goto 4), (41, .iconst 0), (42, .invokevirtual 221), (45, .ifCond .ne 5), (48, .iconst 0), (49, .ireturn), (50, .aload_n 0), (51, .invokevirtual 230), (54, .aload_n 0), (55, .iload_n 1), (56, .invokevirtual 233), (59, .ifCond .eq 11), (62, .aload_n 0), (63, .iload_n 1), (64, .invokevirtual 78), (67, .goto 4), (70, .iconst 0), (71, .istore_n 3), (72, .aload_n 0), (73, .getfield 7), (76, .iconst 0), (77, .bipush 25), (79, .iload_n 1), (80, .imul), (81, .iadd), (82, .iconst 1), (83, .iadd), (84, .iload_n 3), (85, .iadd), (86, .iload_n 2), (87, .iastore), (88, .aload_n 0), (89, .getfield 7), (92, .iconst 0), (93, .bipush 25), (95, .iload_n 1), (96, .imul), (97, .iadd), (98, .iload_n 3), (99, .iconst 1), (100, .iadd), (101, .iastore), (102, .iload_n 3), (103, .iconst 1), (104, .iadd), (105, .ireturn)]
/-- TemplateScopesModel.isVariable(I)Z -/
def xk_164 : List (Nat × Instr) := [(0, .iload_n 0), (1, .iconst 0), (2, .bipush 7), (4, .invokestatic 74), (7, .ireturn)]
/-- TemplateScopesModel.valueAt(I)I -/
def xk_165 : List (Nat × Instr) := [(0, .aload_n 0), (1, .getfield 7), (4, .iconst 0), (5, .bipush 25), (7, .iload_n 1), (8, .imul), (9, .iadd), (10, .iaload), (11, .ireturn)]
/-- TemplateScopesModel.save()V -/
def xk_166 : List (Nat × Instr) := [(0, .aload_n 0), (1, .getfield 82), (4, .bipush 6), (6, .if_icmp .ne 44), (9, .iconst 0), (10, .istore_n 1), (11, .iload_n 1), (12, .sipush 2080), (15, .if_icmp .ge 25), (18, .aload_n 0), (19, .getfield 13), (22, .iload_n 1), (23, .aload_n 0), (24, .getfield 13), (27, .iload_n 1), (28, .sipush 416), (31, .iadd), (32, .iaload), (33, .iastore), (34, .iinc 1 1), (37, .goto (-26)), (40, .aload_n 0), (41, .dup), (42, .getfield 82), (45, .iconst 1), (46, .isub), (47, .putfield 82), (50, .iconst 0), (51, .istore_n 1), (52, .iload_n 1), (53, .sipush 416), (56, .if_icmp .ge 30), (59, .aload_n 0), (60, .getfield 13), (63, .sipush 416), (66, .aload_n 0), (67, .getfield 82), (70, .imul), (71, .iload_n 1), (72, .iadd), (73, .aload_n 0), (74, .getfield 7), (77, .iload_n 1), (78, .iaload), (79, .iastore), (80, .iinc 1 1), (83, .goto (-31)), (86, .aload_n 0), (87, .dup), (88, .getfield 82), (91, .iconst 1), (92, .iadd), (93, .putfield 82), (96, .return_)]
/-- TemplateScopesModel.has(I)Z -/
def xk_167 : List (Nat × Instr) := [(0, .aload_n 0), (1, .iload_n 1), (2, .invokevirtual 78), (5, .ifCond .lt 7), (8, .iconst 1), (9, .goto 4), (12, .iconst 0), (13, .ireturn)]
/-- TemplateScopesModel.removeValue(I)I -/
def xk_168 : List (Nat × Instr) := [(0, .aload_n 0), (1, .aload_n 0), (2, .iload_n 1), (3, .invokevirtual 236), (6, .invokevirtual 221), (9, .ifCond .ne 5), (12, .iconst 0), (13, .ireturn), (14, .aload_n 0), (15, .invokevirtual 230), (18, .aload_n 0), (19, .iload_n 1), (20, .invokevirtual 78), (23, .istore_n 2), (24, .aload_n 0), (25, .getfield 7), (28, .iconst 0), (29, .bipush 25), (31, .iload_n 1), (32, .imul), (33, .iadd), (34, .iconst (-1)), (35, .iastore), (36, .iload_n 2), (37, .ireturn)]
/-- TemplateScopesModel.errorOfValue(I)I -/
def xk_169 : List (Nat × Instr) := [(0, .iload_n 1), (1, .invokestatic 227), (4, .ifCond .ne 7), (7, .iconst 1), (8, .goto 16), (11, .aload_n 0), (12, .iload_n 1), (13, .invokevirtual 233), (16, .ifCond .eq 7), (19, .iconst 0), (20, .goto 4), (23, .iconst 2), (24, .ireturn)]
/-- TemplateScopesModel.emptyValue(I)I -/
def xk_170 : List (Nat × Instr) := [(0, .aload_n 0), (1, .iload_n 1), (2, .invokestatic 227), (5, .ifCond .eq 7), (8, .iconst 0), (9, .goto 4), (12, .iconst 1), (13, .invokevirtual 221), (16, .ifCond .ne 5), (19, .iconst 0), (20, .ireturn), (21, .aload_n 0), (22, .invokevirtual 230), (25, .aload_n 0), (26, .iload_n 1), (27, .invokevirtual 233), (30, .ifCond .eq 11), (33, .aload_n 0), (34, .iload_n 1), (35, .invokevirtual 78), (38, .goto 4), (41, .iconst 0), (42, .istore_n 2), (43, .aload_n 0), (44, .getfield 7), (47, .iconst 0), (48, .bipush 25), (50, .iload_n 1), (51, .imul), (52, .iadd), (53, .iconst 0), (54, .iastore), (55, .iload_n 2), (56, .ireturn)]
/-- TemplateScopesModel.copyValue(II)I -/
def xk_171 : List (Nat × Instr) := [(0, .aload_n 0), (1, .iload_n 1), (2, .invokestatic 227), (5, .ifCond .eq 10), (8, .iload_n 2), (9, .invokestatic 227), (12, .ifCond .ne 7), (15, .iconst 1), (16, .goto 16), (19, .aload_n 0), (20, .iload_n 2), (21, .invokevirtual 233), (24, .ifCond .eq 7), (27, .iconst 0), (28, .goto 4), (31, .iconst 2), (32, .invokevirtual 221), (35, .ifCond .ne 5), (38, .iconst 0), (39, .ireturn), (40, .aload_n 0), (41, .invokevirtual 230), (44, .iconst 0), (45, .istore_n 3), (46, .iload_n 3), (47, .bipush 25), (49, .if_icmp .ge 35), (52, .aload_n 0), (53, .getfield 7), (56, .iconst 0), (57, .bipush 25), (59, .iload_n 1), (60, .imul), (61, .iadd), (62, .iload_n 3), (63, .iadd), (64, .aload_n 0), (65, .getfield 7), (68, .iconst 0), (69, .bipush 25), (71, .iload_n 2), (72, .imul), (73, .iadd), (74, .iload_n 3), (75, .iadd), (76, .iaload), (77, .iastore), (78, .iinc 3 1), (81, .goto (-35)), (84, .aload_n 0), (85, .iload_n 1), (86, .invokevirtual 78), (89, .ireturn)]
/-- TemplateScopesModel.escapeValue(I)I -/
def xk_172 : List (Nat × Instr) := [(0, .aload_n 0), (1, .aload_n 0), (2, .iload_n 1), (3, .invokevirtual 236), (6, .ifCond .eq 11), (9, .aload_n 0), (10, .iload_n 1), (11, .invokevirtual 236), (14, .goto 24), (17, .aload_n 0), (18, .iload_n 1), (19, .invokevirtual 78), (22, .aload_n 0), (23, .iload_n 1), (24, .invokevirtual 239), (27, .iadd), (28, .bipush 24), (30, .if_icmp .le 7), (33, .iconst 2), (34, .goto 4), (37, .iconst 0), (38, .invokevirtual 221), (41, .ifCond .ne 5), (44, .iconst 0), (45, .ireturn), (46, .aload_n 0), (47, .invokevirtual 230), (50, .iconst 0), (51, .bipush 25), (53, .iload_n 1), (54, .imul), (55, .iadd), (56, .istore_n 2), (57, .aload_n 0), (58, .getfield 7), (61, .iload_n 2), (62, .iaload), (63, .aload_n 0), (64, .iload_n 1), (65, .invokevirtual 239), (68, .iadd), (69, .istore_n 3), (70, .aload_n 0), (71, .getfield 7), (74, .iload_n 2), (75, .iaload), (76, .istore 4), (78, .aload_n 0), (79, .getfield 7), (82, .iload_n 2), (83, .iload_n 3), (84, .iastore), (85, .iload 4), (87, .ifCond .le 54), (90, .aload_n 0), (91, .getfield 7), (94, .iload_n 2), (95, .iload 4), (97, .iadd), (98, .iaload), (99, .istore 5), (101, .aload_n 0), (102, .getfield 7), (105, .iload_n 2), (106, .iload_n 3), (107, .iadd), (108, .iload 5), (110, .iastore), (111, .iinc 3 (-1)), (114, .iload 5), (116, .invokestatic 173), (119, .ifCond .eq 16), (122, .aload_n 0), (123, .getfield 7), (126, .iload_n 2), (127, .iload_n 3), (128, .iadd), (129, .bipush 126), (131, .iastore), (132, .iinc 3 (-1)), (135, .iinc 4 (-1)), (138, .goto (-53)), (141, .aload_n 0), (142, .getfield 7), (145, .iload_n 2), (146, .iaload), (147, .ireturn)]
/-- TemplateScopesModel.specials(I)I -/
def xk_173 : List (Nat × Instr) := [(0, .iconst 0), (1, .istore_n 2), (2, .iconst 0), (3, .istore_n 3), (4, .iload_n 3), (5, .aload_n 0), (6, .iload_n 1), (7, .invokevirtual 78), (10, .if_icmp .ge 38), (13, .iload_n 2), (14, .aload_n 0), (15, .getfield 7), (18, .iconst 0), (19, .bipush 25), (21, .iload_n 1), (22, .imul), (23, .iadd), (24, .iconst 1), (25, .iadd), (26, .iload_n 3), (27, .iadd), (28, .iaload), (29, .invokestatic 173), (32, .ifCond .eq 7), (35, .iconst 1), (36, .goto 4), (39, .iconst 0), (40, .iadd), (41, .istore_n 2), (42, .iinc 3 1), (45, .goto (-41)), (48, .iload_n 2), (49, .ireturn)]
/-- TemplateScopesModel.isSpecial(I)Z -/
def xk_174 : List (Nat × Instr) := [(0, .iload_n 0), (1, .bipush 123), (3, .if_icmp .eq 15), (6, .iload_n 0), (7, .bipush 125), (9, .if_icmp .eq 9), (12, .iload_n 0), (13, .bipush 126), (15, .if_icmp .ne 7), (18, .iconst 1), (19, .goto 4), (22, .iconst 0), (23, .ireturn)]
/-- TemplateScopesModel.takeOutput(I)I -/
def xk_175 : List (Nat × Instr) := [(0, .aload_n 0), (1, .iload_n 1), (2, .invokestatic 227), (5, .ifCond .ne 7), (8, .iconst 1), (9, .goto 21), (12, .aload_n 0), (13, .getfield 7), (16, .sipush 200), (19, .iaload), (20, .bipush 24), (22, .if_icmp .le 7), (25, .iconst 2), (26, .goto 4), (29, .iconst 0), (30, .invokevirtual 221), (33, .ifCond .ne 5), (36, .iconst 0), (37, .ireturn), (38, .aload_n 0), (39, .invokevirtual 230), (42, .aload_n 0), (43, .getfield 7), (46, .iconst 0), (47, .bipush 25), (49, .iload_n 1), (50, .imul), (51, .iadd), (52, .aload_n 0), (53, .getfield 7), (56, .sipush 200), (59, .iaload), (60, .iastore), (61, .iconst 0), (62, .istore_n 2), (63, .iload_n 2), (64, .aload_n 0), (65, .getfield 7), (68, .sipush 200), (71, .iaload), (72, .if_icmp .ge 34), (75, .aload_n 0), (76, .getfield 7), (79, .iconst 0), (80, .bipush 25), (82, .iload_n 1), (83, .imul), (84, .iadd), (85, .iconst 1), (86, .iadd), (87, .iload_n 2), (88, .iadd), (89, .aload_n 0), (90, .getfield 7), (93, .sipush 201), (96, .iload_n 2), (97, .iadd), (98, .iaload), (99, .iastore), (100, .iinc 2 1), (103, .goto (-40)), (106, .aload_n 0), (107, .getfield 7), (110, .sipush 200), (113, .iaload), (114, .ireturn)]
/-- TemplateScopesModel.takeTemplate(I)I -/
def xk_176 : List (Nat × Instr) := [(0, .aload_n 0), (1, .iload_n 1), (2, .invokestatic 227), (5, .ifCond .ne 7), (8, .iconst 1), (9, .goto 17), (12, .aload_n 0), (13, .getfield 120), (16, .bipush 24), (18, .if_icmp .le 7), (21, .iconst 2), (22, .goto 4), (25, .iconst 0), (26, .invokevirtual 221), (29, .ifCond .ne 5), (32, .iconst 0), (33, .ireturn), (34, .aload_n 0), (35, .invokevirtual 230), (38, .aload_n 0), (39, .getfield 7), (42, .iconst 0), (43, .bipush 25), (45, .iload_n 1), (46, .imul), (47, .iadd), (48, .aload_n 0), (49, .getfield 120), (52, .iastore), (53, .iconst 0), (54, .istore_n 2), (55, .iload_n 2), (56, .aload_n 0), (57, .getfield 120), (60, .if_icmp .ge 30), (63, .aload_n 0), (64, .getfield 7), (67, .iconst 0), (68, .bipush 25), (70, .iload_n 1), (71, .imul), (72, .iadd), (73, .iconst 1), (74, .iadd), (75, .iload_n 2), (76, .iadd), (77, .aload_n 0), (78, .getfield 19), (81, .iload_n 2), (82, .iaload), (83, .iastore), (84, .iinc 2 1), (87, .goto (-32)), (90, .aload_n 0), (91, .getfield 120), (94, .ireturn)]
/-- TemplateScopesModel.hasValue(I)Z -/
def xk_177 : List (Nat × Instr) := [(0, .aload_n 0), (1, .iload_n 1), (2, .invokestatic 227), (5, .ifCond .eq 7), (8, .iconst 0), (9, .goto 4), (12, .iconst 1), (13, .invokevirtual 221), (16, .ifCond .eq 15), (19, .aload_n 0), (20, .iload_n 1), (21, .invokevirtual 233), (24, .ifCond .eq 7), (27, .iconst 1), (28, .goto 4), (31, .iconst 0), (32, .ireturn)]
/-- TemplateScopesModel.valueLength(I)I -/
def xk_178 : List (Nat × Instr) := [(0, .aload_n 0), (1, .aload_n 0), (2, .iload_n 1), (3, .invokevirtual 236), (6, .invokevirtual 221), (9, .ifCond .eq 11), (12, .aload_n 0), (13, .iload_n 1), (14, .invokevirtual 78), (17, .goto 4), (20, .iconst 0), (21, .ireturn)]
/-- TemplateScopesModel.valueCharacter(II)I -/
def xk_179 : List (Nat × Instr) := [(0, .aload_n 0), (1, .iload_n 1), (2, .invokevirtual 236), (5, .istore_n 3), (6, .iload_n 3), (7, .ifCond .ne 22), (10, .iload_n 2), (11, .iconst 0), (12, .aload_n 0), (13, .iload_n 1), (14, .invokevirtual 78), (17, .iconst 1), (18, .isub), (19, .invokestatic 74), (22, .ifCond .ne 7), (25, .iconst 1), (26, .goto 4), (29, .iload_n 3), (30, .istore_n 3), (31, .aload_n 0), (32, .iload_n 3), (33, .invokevirtual 221), (36, .ifCond .eq 21), (39, .aload_n 0), (40, .getfield 7), (43, .iconst 0), (44, .bipush 25), (46, .iload_n 1), (47, .imul), (48, .iadd), (49, .iconst 1), (50, .iadd), (51, .iload_n 2), (52, .iadd), (53, .iaload), (54, .goto 4), (57, .iconst 0), (58, .ireturn)]
/-- TemplateScopesModel.isTemplate(I)Z -/
def xk_180 : List (Nat × Instr) := [(0, .aload_n 0), (1, .aload_n 0), (2, .iload_n 1), (3, .invokevirtual 236), (6, .invokevirtual 221), (9, .ifCond .eq 15), (12, .aload_n 0), (13, .iload_n 1), (14, .invokevirtual 245), (17, .ifCond .eq 7), (20, .iconst 1), (21, .goto 4), (24, .iconst 0), (25, .ireturn)]
/-- TemplateScopesModel.isWholeValue(I)Z -/
def xk_181 : List (Nat × Instr) := [(0, .aload_n 0), (1, .iload_n 1), (2, .invokevirtual 242), (5, .istore_n 2), (6, .aload_n 0), (7, .getfield 116), (10, .ireturn)]
/-- TemplateScopesModel.readsValue(I)I -/
def xk_182 : List (Nat × Instr) := [(0, .iconst 0), (1, .istore_n 2), (2, .iload_n 2), (3, .aload_n 0), (4, .iload_n 1), (5, .invokevirtual 78), (8, .if_icmp .ge 33), (11, .aload_n 0), (12, .getfield 22), (15, .bipush 60), (17, .iload_n 2), (18, .iadd), (19, .aload_n 0), (20, .getfield 7), (23, .iconst 0), (24, .bipush 25), (26, .iload_n 1), (27, .imul), (28, .iadd), (29, .iconst 1), (30, .iadd), (31, .iload_n 2), (32, .iadd), (33, .iaload), (34, .iastore), (35, .iinc 2 1), (38, .goto (-36)), (41, .aload_n 0), (42, .bipush 60), (44, .aload_n 0), (45, .iload_n 1), (46, .invokevirtual 78), (49, .invokevirtual 126), (52, .ireturn)]
/-- TemplateScopesModel.escapedLength(I)I -/
def xk_183 : List (Nat × Instr) := [(0, .aload_n 0), (1, .aload_n 0), (2, .iload_n 1), (3, .invokevirtual 236), (6, .invokevirtual 221), (9, .ifCond .eq 17), (12, .aload_n 0), (13, .iload_n 1), (14, .invokevirtual 78), (17, .aload_n 0), (18, .iload_n 1), (19, .invokevirtual 239), (22, .iadd), (23, .goto 4), (26, .iconst 0), (27, .ireturn)]
/-- TemplateScopesModel.alikeBehindEscaping(I)I -/
def xk_184 : List (Nat × Instr) := [(0, .aload_n 0), (1, .aload_n 0), (2, .iload_n 1), (3, .invokevirtual 236), (6, .invokevirtual 221), (9, .ifCond .eq 11), (12, .aload_n 0), (13, .iload_n 1), (14, .invokevirtual 78), (17, .goto 4), (20, .iconst 0), (21, .ireturn)]
/-- TemplateScopesModel.render()I -/
def xk_185 : List (Nat × Instr) := [(0, .aload_n 0), (1, .aload_n 0), (2, .invokevirtual 224), (5, .ifCond .eq 7), (8, .iconst 0), (9, .goto 4), (12, .iconst 1), (13, .invokevirtual 221), (16, .ifCond .ne 5), (19, .iconst 0), (20, .ireturn), (21, .aload_n 0), (22, .invokevirtual 230), (25, .aload_n 0), (26, .iconst (-1)), (27, .invokevirtual 248), (30, .aload_n 0), (31, .getfield 7), (34, .sipush 200), (37, .aload_n 0), (38, .getfield 151), (41, .iastore), (42, .iconst 0), (43, .istore_n 1), (44, .iload_n 1), (45, .aload_n 0), (46, .getfield 151), (49, .if_icmp .ge 25), (52, .aload_n 0), (53, .getfield 7), (56, .sipush 201), (59, .iload_n 1), (60, .iadd), (61, .aload_n 0), (62, .getfield 25), (65, .iload_n 1), (66, .iaload), (67, .iastore), (68, .iinc 1 1), (71, .goto (-27)), (74, .aload_n 0), (75, .getfield 7), (78, .sipush 401), (81, .aload_n 0), (82, .getfield 135), (85, .iastore), (86, .aload_n 0), (87, .getfield 7), (90, .sipush 402), (93, .aload_n 0), (94, .getfield 138), (97, .iastore), (98, .iconst 0), (99, .istore_n 1), (100, .iload_n 1), (101, .aload_n 0), (102, .getfield 138), (105, .if_icmp .ge 25), (108, .aload_n 0), (109, .getfield 7), (112, .sipush 403), (115, .iload_n 1), (116, .iadd), (117, .aload_n 0), (118, .getfield 28), (121, .iload_n 1), (122, .iaload), (123, .iastore), (124, .iinc 1 1), (127, .goto (-27)), (130, .aload_n 0), (131, .getfield 7), (134, .sipush 409), (137, .aload_n 0), (138, .getfield 201), (141, .iastore), (142, .aload_n 0), (143, .getfield 7), (146, .sipush 410), (149, .aload_n 0), (150, .getfield 154), (153, .iastore), (154, .aload_n 0), (155, .getfield 7), (158, .sipush 411), (161, .aload_n 0), (162, .getfield 157), (165, .iastore), (166, .aload_n 0), (167, .getfield 7), (170, .sipush 412), (173, .aload_n 0), (174, .getfield 160), (177, .iastore), (178, .aload_n 0), (179, .getfield 7), (182, .sipush 413), (185, .dup2), (186, .iaload), (187, .iconst 1), (188, .iadd), (189, .iastore), (190, .aload_n 0), (191, .getfield 7), (194, .sipush 414), (197, .dup2), (198, .iaload), (199, .aload_n 0), (200, .getfield 135), (203, .ifCond .eq 7), (206, .iconst 1), (207, .goto 4), (210, .iconst 0), (211, .iadd), (212, .iastore), (213, .aload_n 0), (214, .getfield 7), (217, .sipush 415), (220, .dup2), (221, .iaload), (222, .aload_n 0), (223, .getfield 151), (226, .iadd), (227, .iastore), (228, .aload_n 0), (229, .getfield 151), (232, .ireturn)]
/-- TemplateScopesModel.renders(I)V -/
def xk_186 : List (Nat × Instr) := [(0, .aload_n 0), (1, .iconst 0), (2, .putfield 151), (5, .aload_n 0), (6, .iconst 0), (7, .putfield 135), (10, .aload_n 0), (11, .iconst 0), (12, .putfield 138), (15, .aload_n 0), (16, .iconst 0), (17, .putfield 201), (20, .aload_n 0), (21, .iconst 0), (22, .putfield 154), (25, .aload_n 0), (26, .iconst 0), (27, .putfield 157), (30, .aload_n 0), (31, .iconst 0), (32, .putfield 160), (35, .aload_n 0), (36, .iconst 0), (37, .putfield 144), (40, .aload_n 0), (41, .iconst 0), (42, .putfield 141), (45, .aload_n 0), (46, .iconst 0), (47, .putfield 129), (50, .aload_n 0), (51, .invokevirtual 166), (54, .iconst 0), (55, .istore_n 2), (56, .iload_n 2), (57, .bipush 8), (59, .if_icmp .ge 53), (62, .iconst 0), (63, .istore_n 3), (64, .iload_n 3), (65, .bipush 25), (67, .if_icmp .ge 39), (70, .iload_n 2), (71, .iload_n 1), (72, .if_icmp .eq 34), (75, .aload_n 0), (76, .getfield 31), (79, .iconst 0), (80, .iload_n 2), (81, .invokestatic 132), (84, .iload_n 3), (85, .iadd), (86, .aload_n 0), (87, .getfield 7), (90, .iconst 0), (91, .bipush 25), (93, .iload_n 2), (94, .imul), (95, .iadd), (96, .iload_n 3), (97, .iadd), (98, .iaload), (99, .iastore), (100, .iinc 3 1), (103, .goto (-39)), (106, .iinc 2 1), (109, .goto (-53)), (112, .aload_n 0), (113, .iconst 0), (114, .putfield 163), (117, .aload_n 0), (118, .iconst 0), (119, .iconst 0), (120, .iconst 0), (121, .iconst (-1)), (122, .invokevirtual 181), (125, .aload_n 0), (126, .getfield 163), (129, .ifCond .le 31), (132, .aload_n 0), (133, .getfield 135), (136, .ifCond .ne 24), (139, .aload_n 0), (140, .invokevirtual 207), (143, .ifCond .eq 10), (146, .aload_n 0), (147, .invokevirtual 211), (150, .goto (-25)), (153, .aload_n 0), (154, .invokevirtual 214), (157, .goto (-32)), (160, .return_)]
/-- TemplateScopesModel.opensScope()V -/
def xk_187 : List (Nat × Instr) := [(0, .iconst 0), (1, .istore_n 1), (2, .iload_n 1), (3, .bipush 10), (5, .if_icmp .ge 23), (8, .aload_n 0), (9, .getfield 31), (12, .aload_n 0), (13, .getfield 129), (16, .iload_n 1), (17, .invokestatic 132), (20, .iconst (-1)), (21, .iastore), (22, .iinc 1 1), (25, .goto (-23)), (28, .aload_n 0), (29, .dup), (30, .getfield 129), (33, .iconst 1), (34, .iadd), (35, .putfield 129), (38, .return_)]
/-- TemplateScopesModel.at(II)I -/
def xk_188 : List (Nat × Instr) := [(0, .sipush 250), (3, .iload_n 0), (4, .imul), (5, .bipush 25), (7, .iload_n 1), (8, .imul), (9, .iadd), (10, .ireturn)]
/-- TemplateScopesModel.opens(IIII)V -/
def xk_189 : List (Nat × Instr) := [(0, .aload_n 0), (1, .getfield 46), (4, .aload_n 0), (5, .getfield 163), (8, .iload_n 1), (9, .iastore), (10, .aload_n 0), (11, .getfield 49), (14, .aload_n 0), (15, .getfield 163), (18, .iload_n 2), (19, .iastore), (20, .aload_n 0), (21, .getfield 52), (24, .aload_n 0), (25, .getfield 163), (28, .iload_n 3), (29, .iastore), (30, .aload_n 0), (31, .getfield 55), (34, .aload_n 0), (35, .getfield 163), (38, .iload_n 3), (39, .iastore), (40, .aload_n 0), (41, .getfield 58), (44, .aload_n 0), (45, .getfield 163), (48, .iload 4), (50, .iastore), (51, .aload_n 0), (52, .getfield 61), (55, .aload_n 0), (56, .getfield 163), (59, .iconst 0), (60, .iastore), (61, .aload_n 0), (62, .getfield 64), (65, .aload_n 0), (66, .getfield 163), (69, .iconst 0), (70, .iastore), (71, .aload_n 0), (72, .dup), (73, .getfield 163), (76, .iconst 1), (77, .iadd), (78, .putfield 163), (81, .return_)]
/-- TemplateScopesModel.isAtEnd()Z -/
def xk_190 : List (Nat × Instr) := [(0, .aload_n 0), (1, .getfield 163), (4, .iconst 1), (5, .isub), (6, .istore_n 1), (7, .aload_n 0), (8, .getfield 49), (11, .iload_n 1), (12, .iaload), (13, .ifCond .ne 10), (16, .aload_n 0), (17, .getfield 123), (20, .goto 25), (23, .aload_n 0), (24, .getfield 141), (27, .ifCond .le 17), (30, .aload_n 0), (31, .getfield 43), (34, .aload_n 0), (35, .getfield 141), (38, .iconst 1), (39, .isub), (40, .iaload), (41, .goto 4), (44, .iconst 0), (45, .istore_n 2), (46, .aload_n 0), (47, .getfield 46), (50, .iload_n 1), (51, .iaload), (52, .ifCond .ne 21), (55, .aload_n 0), (56, .getfield 52), (59, .iload_n 1), (60, .iaload), (61, .iload_n 2), (62, .if_icmp .ne 7), (65, .iconst 1), (66, .goto 35), (69, .iconst 0), (70, .goto 31), (73, .aload_n 0), (74, .getfield 22), (77, .aload_n 0), (78, .getfield 49), (81, .iload_n 1), (82, .iaload), (83, .aload_n 0), (84, .getfield 52), (87, .iload_n 1), (88, .iaload), (89, .iadd), (90, .iaload), (91, .bipush 125), (93, .if_icmp .ne 7), (96, .iconst 1), (97, .goto 4), (100, .iconst 0), (101, .ireturn)]
/-- TemplateScopesModel.closes()V -/
def xk_191 : List (Nat × Instr) := [(0, .aload_n 0), (1, .getfield 163), (4, .iconst 1), (5, .isub), (6, .istore_n 1), (7, .aload_n 0), (8, .getfield 46), (11, .iload_n 1), (12, .iaload), (13, .istore_n 2), (14, .iload_n 2), (15, .bipush 42), (17, .if_icmp .ne 44), (20, .aload_n 0), (21, .dup), (22, .getfield 129), (25, .iconst 1), (26, .isub), (27, .putfield 129), (30, .aload_n 0), (31, .getfield 61), (34, .iload_n 1), (35, .dup2), (36, .iaload), (37, .iconst 1), (38, .iadd), (39, .iastore), (40, .aload_n 0), (41, .getfield 61), (44, .iload_n 1), (45, .iaload), (46, .aload_n 0), (47, .getfield 64), (50, .iload_n 1), (51, .iaload), (52, .if_icmp .ge 9), (55, .aload_n 0), (56, .iload_n 1), (57, .invokevirtual 169), (60, .return_), (61, .aload_n 0), (62, .dup), (63, .getfield 163), (66, .iconst 1), (67, .isub), (68, .putfield 163), (71, .iload_n 2), (72, .bipush 61), (74, .if_icmp .ne 93), (77, .aload_n 0), (78, .dup), (79, .getfield 144), (82, .iconst 1), (83, .isub), (84, .putfield 144), (87, .aload_n 0), (88, .getfield 129), (91, .iconst 1), (92, .isub), (93, .aload_n 0), (94, .getfield 58), (97, .iload_n 1), (98, .iaload), (99, .invokestatic 132), (102, .istore_n 3), (103, .aload_n 0), (104, .getfield 31), (107, .iload_n 3), (108, .aload_n 0), (109, .getfield 34), (112, .aload_n 0), (113, .getfield 144), (116, .iaload), (117, .iastore), (118, .iconst 0), (119, .istore 4), (121, .iload 4), (123, .aload_n 0), (124, .getfield 34), (127, .aload_n 0), (128, .getfield 144), (131, .iaload), (132, .if_icmp .ge 35), (135, .aload_n 0), (136, .getfield 31), (139, .iload_n 3), (140, .iconst 1), (141, .iadd), (142, .iload 4), (144, .iadd), (145, .aload_n 0), (146, .getfield 37), (149, .bipush 24), (151, .aload_n 0), (152, .getfield 144), (155, .imul), (156, .iload 4), (158, .iadd), (159, .iaload), (160, .iastore), (161, .iinc 4 1), (164, .goto (-43)), (167, .iload_n 2), (168, .ifCond .ne 30), (171, .aload_n 0), (172, .getfield 163), (175, .ifCond .le 23), (178, .aload_n 0), (179, .dup), (180, .getfield 129), (183, .iconst 1), (184, .isub), (185, .putfield 129), (188, .aload_n 0), (189, .dup), (190, .getfield 141), (193, .iconst 1), (194, .isub), (195, .putfield 141), (198, .iload_n 2), (199, .ifCond .eq 22), (202, .aload_n 0), (203, .getfield 52), (206, .aload_n 0), (207, .getfield 163), (210, .iconst 1), (211, .isub), (212, .aload_n 0), (213, .getfield 52), (216, .iload_n 1), (217, .iaload), (218, .iconst 1), (219, .iadd), (220, .iastore), (221, .return_)]
/-- TemplateScopesModel.beginsPass(I)V -/
def xk_192 : List (Nat × Instr) := [(0, .aload_n 0), (1, .invokevirtual 166), (4, .aload_n 0), (5, .getfield 61), (8, .iload_n 1), (9, .iaload), (10, .istore_n 2), (11, .aload_n 0), (12, .getfield 129), (15, .iconst 1), (16, .isub), (17, .bipush 8), (19, .invokestatic 132), (22, .istore_n 3), (23, .aload_n 0), (24, .getfield 31), (27, .iload_n 3), (28, .iload_n 2), (29, .bipush 9), (31, .if_icmp .le 7), (34, .iconst 2), (35, .goto 4), (38, .iconst 1), (39, .iastore), (40, .aload_n 0), (41, .getfield 31), (44, .iload_n 3), (45, .iconst 1), (46, .iadd), (47, .bipush 48), (49, .iload_n 2), (50, .bipush 9), (52, .if_icmp .le 10), (55, .iload_n 2), (56, .bipush 10), (58, .idiv), (59, .goto 4), (62, .iload_n 2), (63, .iadd), (64, .iastore), (65, .aload_n 0), (66, .getfield 31), (69, .iload_n 3), (70, .iconst 2), (71, .iadd), (72, .bipush 48), (74, .iload_n 2), (75, .bipush 10), (77, .irem), (78, .iadd), (79, .iastore), (80, .aload_n 0), (81, .getfield 31), (84, .aload_n 0), (85, .getfield 129), (88, .iconst 1), (89, .isub), (90, .bipush 9), (92, .invokestatic 132), (95, .iconst 1), (96, .iastore), (97, .aload_n 0), (98, .getfield 31), (101, .aload_n 0), (102, .getfield 129), (105, .iconst 1), (106, .isub), (107, .bipush 9), (109, .invokestatic 132), (112, .iconst 1), (113, .iadd), (114, .aload_n 0), (115, .getfield 67), (118, .bipush 24), (120, .iload_n 1), (121, .imul), (122, .iload_n 2), (123, .iadd), (124, .iaload), (125, .iastore), (126, .aload_n 0), (127, .getfield 52), (130, .iload_n 1), (131, .aload_n 0), (132, .getfield 55), (135, .iload_n 1), (136, .iaload), (137, .iastore), (138, .return_)]
/-- TemplateScopesModel.rendersPart()V -/
def xk_193 : List (Nat × Instr) := [(0, .aload_n 0), (1, .getfield 163), (4, .iconst 1), (5, .isub), (6, .istore_n 1), (7, .aload_n 0), (8, .getfield 49), (11, .iload_n 1), (12, .iaload), (13, .istore_n 2), (14, .aload_n 0), (15, .getfield 52), (18, .iload_n 1), (19, .iaload), (20, .istore_n 3), (21, .aload_n 0), (22, .getfield 22), (25, .iload_n 2), (26, .iload_n 3), (27, .iadd), (28, .iaload), (29, .istore 4), (31, .aload_n 0), (32, .getfield 201), (35, .sipush 200), (38, .if_icmp .ne 10), (41, .aload_n 0), (42, .iconst 3), (43, .iload_n 3), (44, .invokevirtual 147), (47, .return_), (48, .aload_n 0), (49, .dup), (50, .getfield 201), (53, .iconst 1), (54, .iadd), (55, .putfield 201), (58, .iload 4), (60, .bipush 123), (62, .if_icmp .ne 12), (65, .aload_n 0), (66, .iload_n 2), (67, .iload_n 3), (68, .invokevirtual 204), (71, .goto 55), (74, .iload 4), (76, .bipush 126), (78, .if_icmp .ne 31), (81, .aload_n 0), (82, .getfield 52), (85, .iload_n 1), (86, .iload_n 3), (87, .iconst 2), (88, .iadd), (89, .iastore), (90, .aload_n 0), (91, .aload_n 0), (92, .getfield 22), (95, .iload_n 2), (96, .iload_n 3), (97, .iadd), (98, .iconst 1), (99, .iadd), (100, .iaload), (101, .iconst 1), (102, .iload_n 3), (103, .invokevirtual 177), (106, .goto 20), (109, .aload_n 0), (110, .getfield 52), (113, .iload_n 1), (114, .iload_n 3), (115, .iconst 1), (116, .iadd), (117, .iastore), (118, .aload_n 0), (119, .iload 4), (121, .iconst 0), (122, .iload_n 3), (123, .invokevirtual 177), (126, .return_)]
/-- TemplateScopesModel.fails(II)V -/
def xk_194 : List (Nat × Instr) := [(0, .aload_n 0), (1, .iload_n 1), (2, .putfield 135), (5, .aload_n 0), (6, .iconst 0), (7, .putfield 138), (10, .iconst 0), (11, .istore_n 3), (12, .iload_n 3), (13, .aload_n 0), (14, .getfield 141), (17, .if_icmp .ge 34), (20, .aload_n 0), (21, .getfield 28), (24, .aload_n 0), (25, .getfield 138), (28, .aload_n 0), (29, .getfield 40), (32, .iload_n 3), (33, .iaload), (34, .iastore), (35, .aload_n 0), (36, .dup), (37, .getfield 138), (40, .iconst 1), (41, .iadd), (42, .putfield 138), (45, .iinc 3 1), (48, .goto (-36)), (51, .aload_n 0), (52, .getfield 28), (55, .aload_n 0), (56, .getfield 138), (59, .iload_n 2), (60, .iastore), (61, .aload_n 0), (62, .dup), (63, .getfield 138), (66, .iconst 1), (67, .iadd), (68, .putfield 138), (71, .return_)]
/-- TemplateScopesModel.rendersBracket(II)V -/
def xk_195 : List (Nat × Instr) := [(0, .aload_n 0), (1, .getfield 22), (4, .iload_n 1), (5, .iload_n 2), (6, .iadd), (7, .iconst 1), (8, .iadd), (9, .iaload), (10, .istore_n 3), (11, .iload_n 3), (12, .invokestatic 94), (15, .istore 4), (17, .iload 4), (19, .ifCond .lt 8), (22, .iload 4), (24, .goto 16), (27, .aload_n 0), (28, .getfield 22), (31, .iload_n 1), (32, .iload_n 2), (33, .iadd), (34, .iconst 2), (35, .iadd), (36, .iaload), (37, .invokestatic 94), (40, .istore 5), (42, .aload_n 0), (43, .iload 5), (45, .invokevirtual 188), (48, .istore 6), (50, .aload_n 0), (51, .getfield 52), (54, .aload_n 0), (55, .getfield 163), (58, .iconst 1), (59, .isub), (60, .iload_n 2), (61, .iload 4), (63, .ifCond .lt 7), (66, .iconst 3), (67, .goto 4), (70, .iconst 4), (71, .iadd), (72, .iastore), (73, .iload 6), (75, .ifCond .ge 24), (78, .iload_n 3), (79, .bipush 63), (81, .if_icmp .eq 18), (84, .iload_n 3), (85, .bipush 61), (87, .if_icmp .eq 12), (90, .aload_n 0), (91, .iconst 1), (92, .iload_n 2), (93, .invokevirtual 147), (96, .goto 162), (99, .iload 4), (101, .ifCond .ge 9), (104, .iload_n 3), (105, .bipush 33), (107, .if_icmp .ne 24), (110, .aload_n 0), (111, .iload 6), (113, .iload_n 3), (114, .bipush 33), (116, .if_icmp .ne 7), (119, .iconst 1), (120, .goto 4), (123, .iconst 0), (124, .iload_n 2), (125, .invokevirtual 191), (128, .goto 130), (131, .iload_n 3), (132, .bipush 94), (134, .if_icmp .ne 13), (137, .aload_n 0), (138, .iload 6), (140, .iload_n 2), (141, .invokevirtual 195), (144, .goto 114), (147, .iload_n 3), (148, .bipush 42), (150, .if_icmp .ne 18), (153, .aload_n 0), (154, .iload 6), (156, .iload_n 1), (157, .iload_n 2), (158, .iconst 4), (159, .iadd), (160, .iload 5), (162, .invokevirtual 198), (165, .goto 93), (168, .iload_n 3), (169, .bipush 61), (171, .if_icmp .ne 38), (174, .aload_n 0), (175, .getfield 34), (178, .aload_n 0), (179, .getfield 144), (182, .iconst 0), (183, .iastore), (184, .aload_n 0), (185, .dup), (186, .getfield 144), (189, .iconst 1), (190, .iadd), (191, .putfield 144), (194, .aload_n 0), (195, .bipush 61), (197, .iload_n 1), (198, .iload_n 2), (199, .iconst 4), (200, .iadd), (201, .iload 5), (203, .invokevirtual 181), (206, .goto 52), (209, .iload 6), (211, .ifCond .lt 28), (214, .aload_n 0), (215, .getfield 31), (218, .iload 6), (220, .iaload), (221, .ifCond .le 18), (224, .aload_n 0), (225, .bipush 63), (227, .iload_n 1), (228, .iload_n 2), (229, .iconst 4), (230, .iadd), (231, .iload 5), (233, .invokevirtual 181), (236, .goto 22), (239, .aload_n 0), (240, .getfield 52), (243, .aload_n 0), (244, .getfield 163), (247, .iconst 1), (248, .isub), (249, .aload_n 0), (250, .iload_n 1), (251, .iload_n 2), (252, .iconst 4), (253, .iadd), (254, .invokevirtual 185), (257, .iastore), (258, .return_)]
/-- TemplateScopesModel.valueOf(I)I -/
def xk_196 : List (Nat × Instr) := [(0, .iconst (-1)), (1, .istore_n 2), (2, .iconst 0), (3, .istore_n 3), (4, .iload_n 3), (5, .aload_n 0), (6, .getfield 129), (9, .if_icmp .ge 32), (12, .aload_n 0), (13, .getfield 31), (16, .iload_n 3), (17, .iload_n 1), (18, .invokestatic 132), (21, .iaload), (22, .ifCond .lt 11), (25, .iload_n 3), (26, .iload_n 1), (27, .invokestatic 132), (30, .goto 4), (33, .iload_n 2), (34, .istore_n 2), (35, .iinc 3 1), (38, .goto (-34)), (41, .iload_n 2), (42, .ireturn)]
/-- TemplateScopesModel.printsValue(IZI)V -/
def xk_197 : List (Nat × Instr) := [(0, .iconst 0), (1, .istore 4), (3, .iload 4), (5, .aload_n 0), (6, .getfield 31), (9, .iload_n 1), (10, .iaload), (11, .if_icmp .ge 64), (14, .aload_n 0), (15, .getfield 135), (18, .ifCond .ne 57), (21, .aload_n 0), (22, .getfield 31), (25, .iload_n 1), (26, .iconst 1), (27, .iadd), (28, .iload 4), (30, .iadd), (31, .iaload), (32, .istore 5), (34, .iload_n 2), (35, .ifCond .eq 19), (38, .iload 5), (40, .invokestatic 173), (43, .ifCond .eq 11), (46, .aload_n 0), (47, .bipush 126), (49, .iconst 2), (50, .iload_n 3), (51, .invokevirtual 177), (54, .aload_n 0), (55, .getfield 135), (58, .ifCond .ne 11), (61, .aload_n 0), (62, .iload 5), (64, .iconst 2), (65, .iload_n 3), (66, .invokevirtual 177), (69, .iinc 4 1), (72, .goto (-69)), (75, .return_)]
/-- TemplateScopesModel.prints(III)V -/
def xk_198 : List (Nat × Instr) := [(0, .aload_n 0), (1, .getfield 144), (4, .ifCond .le 62), (7, .aload_n 0), (8, .getfield 144), (11, .iconst 1), (12, .isub), (13, .istore 4), (15, .aload_n 0), (16, .getfield 34), (19, .iload 4), (21, .iaload), (22, .bipush 24), (24, .if_icmp .ne 11), (27, .aload_n 0), (28, .bipush 6), (30, .iload_n 3), (31, .invokevirtual 147), (34, .return_), (35, .aload_n 0), (36, .getfield 37), (39, .bipush 24), (41, .iload 4), (43, .imul), (44, .aload_n 0), (45, .getfield 34), (48, .iload 4), (50, .iaload), (51, .iadd), (52, .iload_n 1), (53, .iastore), (54, .aload_n 0), (55, .getfield 34), (58, .iload 4), (60, .dup2), (61, .iaload), (62, .iconst 1), (63, .iadd), (64, .iastore), (65, .return_), (66, .aload_n 0), (67, .getfield 151), (70, .sipush 200), (73, .if_icmp .ne 10), (76, .aload_n 0), (77, .iconst 2), (78, .iload_n 3), (79, .invokevirtual 147), (82, .return_), (83, .aload_n 0), (84, .getfield 25), (87, .aload_n 0), (88, .getfield 151), (91, .iload_n 1), (92, .iastore), (93, .aload_n 0), (94, .dup), (95, .getfield 151), (98, .iconst 1), (99, .iadd), (100, .putfield 151), (103, .aload_n 0), (104, .dup), (105, .getfield 154), (108, .iload_n 2), (109, .ifCond .ne 7), (112, .iconst 1), (113, .goto 4), (116, .iconst 0), (117, .iadd), (118, .putfield 154), (121, .aload_n 0), (122, .dup), (123, .getfield 157), (126, .iload_n 2), (127, .iconst 1), (128, .if_icmp .ne 7), (131, .iconst 1), (132, .goto 4), (135, .iconst 0), (136, .iadd), (137, .putfield 157), (140, .aload_n 0), (141, .dup), (142, .getfield 160), (145, .iload_n 2), (146, .iconst 2), (147, .if_icmp .ne 7), (150, .iconst 1), (151, .goto 4), (154, .iconst 0), (155, .iadd), (156, .putfield 160), (159, .return_)]
/-- TemplateScopesModel.includes(II)V -/
def xk_199 : List (Nat × Instr) := [(0, .aload_n 0), (1, .getfield 31), (4, .iload_n 1), (5, .iaload), (6, .istore_n 3), (7, .bipush 60), (9, .bipush 24), (11, .aload_n 0), (12, .getfield 141), (15, .imul), (16, .iadd), (17, .istore 4), (19, .aload_n 0), (20, .getfield 141), (23, .iconst 4), (24, .if_icmp .ne 10), (27, .aload_n 0), (28, .iconst 4), (29, .iload_n 2), (30, .invokevirtual 147), (33, .return_), (34, .iconst 0), (35, .istore 5), (37, .iload 5), (39, .iload_n 3), (40, .if_icmp .ge 30), (43, .aload_n 0), (44, .getfield 22), (47, .iload 4), (49, .iload 5), (51, .iadd), (52, .aload_n 0), (53, .getfield 31), (56, .iload_n 1), (57, .iconst 1), (58, .iadd), (59, .iload 5), (61, .iadd), (62, .iaload), (63, .iastore), (64, .iinc 5 1), (67, .goto (-30)), (70, .aload_n 0), (71, .iload 4), (73, .iload_n 3), (74, .invokevirtual 126), (77, .istore 5), (79, .aload_n 0), (80, .getfield 116), (83, .ifCond .ne 31), (86, .aload_n 0), (87, .iconst 5), (88, .iload_n 2), (89, .invokevirtual 147), (92, .aload_n 0), (93, .getfield 28), (96, .aload_n 0), (97, .getfield 138), (100, .iload 5), (102, .iastore), (103, .aload_n 0), (104, .dup), (105, .getfield 138), (108, .iconst 1), (109, .iadd), (110, .putfield 138), (113, .return_), (114, .aload_n 0), (115, .getfield 40), (118, .aload_n 0), (119, .getfield 141), (122, .iload_n 2), (123, .iastore), (124, .aload_n 0), (125, .getfield 43), (128, .aload_n 0), (129, .getfield 141), (132, .iload_n 3), (133, .iastore), (134, .aload_n 0), (135, .dup), (136, .getfield 141), (139, .iconst 1), (140, .iadd), (141, .putfield 141), (144, .aload_n 0), (145, .invokevirtual 166), (148, .aload_n 0), (149, .iconst 0), (150, .iload 4), (152, .iconst 0), (153, .iconst (-1)), (154, .invokevirtual 181), (157, .return_)]
/-- TemplateScopesModel.goesRound(IIII)V -/
def xk_200 : List (Nat × Instr) := [(0, .aload_n 0), (1, .getfield 31), (4, .iload_n 1), (5, .iaload), (6, .istore 5), (8, .iload 5), (10, .ifCond .ne 21), (13, .aload_n 0), (14, .getfield 52), (17, .aload_n 0), (18, .getfield 163), (21, .iconst 1), (22, .isub), (23, .aload_n 0), (24, .iload_n 2), (25, .iload_n 3), (26, .invokevirtual 185), (29, .iastore), (30, .return_), (31, .aload_n 0), (32, .bipush 42), (34, .iload_n 2), (35, .iload_n 3), (36, .iload 4), (38, .invokevirtual 181), (41, .aload_n 0), (42, .getfield 163), (45, .iconst 1), (46, .isub), (47, .istore 6), (49, .aload_n 0), (50, .getfield 64), (53, .iload 6), (55, .iload 5), (57, .iastore), (58, .iconst 0), (59, .istore 7), (61, .iload 7), (63, .iload 5), (65, .if_icmp .ge 33), (68, .aload_n 0), (69, .getfield 67), (72, .bipush 24), (74, .iload 6), (76, .imul), (77, .iload 7), (79, .iadd), (80, .aload_n 0), (81, .getfield 31), (84, .iload_n 1), (85, .iconst 1), (86, .iadd), (87, .iload 7), (89, .iadd), (90, .iaload), (91, .iastore), (92, .iinc 7 1), (95, .goto (-34)), (98, .aload_n 0), (99, .iload 6), (101, .invokevirtual 169), (104, .return_)]
/-- TemplateScopesModel.behind(II)I -/
def xk_201 : List (Nat × Instr) := [(0, .iconst 1), (1, .istore_n 3), (2, .iload_n 2), (3, .istore 4), (5, .iload_n 3), (6, .ifCond .le 148), (9, .aload_n 0), (10, .getfield 22), (13, .iload_n 1), (14, .iload 4), (16, .iadd), (17, .iaload), (18, .istore 5), (20, .iload 5), (22, .bipush 123), (24, .if_icmp .ne 17), (27, .aload_n 0), (28, .getfield 22), (31, .iload_n 1), (32, .iload 4), (34, .iadd), (35, .iconst 1), (36, .iadd), (37, .iaload), (38, .goto 4), (41, .iconst 0), (42, .istore 6), (44, .iload 6), (46, .bipush 42), (48, .if_icmp .eq 17), (51, .iload 6), (53, .bipush 63), (55, .if_icmp .eq 10), (58, .iload 6), (60, .bipush 61), (62, .if_icmp .ne 7), (65, .iconst 1), (66, .goto 4), (69, .iconst 0), (70, .istore 7), (72, .iload_n 3), (73, .iload 5), (75, .bipush 125), (77, .if_icmp .ne 7), (80, .iconst (-1)), (81, .goto 13), (84, .iload 7), (86, .ifCond .eq 7), (89, .iconst 1), (90, .goto 4), (93, .iconst 0), (94, .iadd), (95, .istore_n 3), (96, .iload 4), (98, .iload 5), (100, .bipush 126), (102, .if_icmp .ne 7), (105, .iconst 2), (106, .goto 42), (109, .iload 5), (111, .bipush 123), (113, .if_icmp .eq 7), (116, .iconst 1), (117, .goto 31), (120, .iload 7), (122, .ifCond .eq 7), (125, .iconst 4), (126, .goto 22), (129, .iload 6), (131, .bipush 33), (133, .if_icmp .eq 10), (136, .iload 6), (138, .bipush 94), (140, .if_icmp .ne 7), (143, .iconst 4), (144, .goto 4), (147, .iconst 3), (148, .iadd), (149, .istore 4), (151, .goto (-146)), (154, .iload 4), (156, .ireturn)]
/-- TemplateScopesModel.outputLength()I -/
def xk_202 : List (Nat × Instr) := [(0, .aload_n 0), (1, .iconst 0), (2, .putfield 70), (5, .aload_n 0), (6, .getfield 7), (9, .sipush 200), (12, .iaload), (13, .ireturn)]
/-- TemplateScopesModel.outputCharacter(I)I -/
def xk_203 : List (Nat × Instr) := [(0, .aload_n 0), (1, .iload_n 1), (2, .iconst 0), (3, .aload_n 0), (4, .getfield 7), (7, .sipush 200), (10, .iaload), (11, .iconst 1), (12, .isub), (13, .invokestatic 74), (16, .ifCond .eq 7), (19, .iconst 0), (20, .goto 4), (23, .iconst 1), (24, .invokevirtual 221), (27, .ifCond .eq 16), (30, .aload_n 0), (31, .getfield 7), (34, .sipush 201), (37, .iload_n 1), (38, .iadd), (39, .iaload), (40, .goto 4), (43, .iconst 0), (44, .ireturn)]
/-- TemplateScopesModel.hasFailed()Z -/
def xk_204 : List (Nat × Instr) := [(0, .aload_n 0), (1, .iconst 0), (2, .putfield 70), (5, .aload_n 0), (6, .getfield 7), (9, .sipush 401), (12, .iaload), (13, .ifCond .eq 7), (16, .iconst 1), (17, .goto 4), (20, .iconst 0), (21, .ireturn)]
/-- TemplateScopesModel.failureReason()I -/
def xk_205 : List (Nat × Instr) := [(0, .aload_n 0), (1, .aload_n 0), (2, .getfield 7), (5, .sipush 401), (8, .iaload), (9, .ifCond .eq 7), (12, .iconst 0), (13, .goto 4), (16, .iconst 1), (17, .invokevirtual 221), (20, .ifCond .eq 14), (23, .aload_n 0), (24, .getfield 7), (27, .sipush 401), (30, .iaload), (31, .goto 4), (34, .iconst 0), (35, .ireturn)]
/-- TemplateScopesModel.failurePlaces()I -/
def xk_206 : List (Nat × Instr) := [(0, .aload_n 0), (1, .iconst 0), (2, .putfield 70), (5, .aload_n 0), (6, .getfield 7), (9, .sipush 402), (12, .iaload), (13, .ireturn)]
/-- TemplateScopesModel.failurePlace(I)I -/
def xk_207 : List (Nat × Instr) := [(0, .aload_n 0), (1, .iload_n 1), (2, .iconst 0), (3, .aload_n 0), (4, .getfield 7), (7, .sipush 402), (10, .iaload), (11, .iconst 1), (12, .isub), (13, .invokestatic 74), (16, .ifCond .eq 7), (19, .iconst 0), (20, .goto 4), (23, .iconst 1), (24, .invokevirtual 221), (27, .ifCond .eq 16), (30, .aload_n 0), (31, .getfield 7), (34, .sipush 403), (37, .iload_n 1), (38, .iadd), (39, .iaload), (40, .goto 4), (43, .iconst 0), (44, .ireturn)]
/-- TemplateScopesModel.steps()I -/
def xk_208 : List (Nat × Instr) := [(0, .aload_n 0), (1, .iconst 0), (2, .putfield 70), (5, .aload_n 0), (6, .getfield 7), (9, .sipush 409), (12, .iaload), (13, .ireturn)]
/-- TemplateScopesModel.plainPrinted()I -/
def xk_209 : List (Nat × Instr) := [(0, .aload_n 0), (1, .iconst 0), (2, .putfield 70), (5, .aload_n 0), (6, .getfield 7), (9, .sipush 410), (12, .iaload), (13, .ireturn)]
/-- TemplateScopesModel.escapesPrinted()I -/
def xk_210 : List (Nat × Instr) := [(0, .aload_n 0), (1, .iconst 0), (2, .putfield 70), (5, .aload_n 0), (6, .getfield 7), (9, .sipush 411), (12, .iaload), (13, .ireturn)]
/-- TemplateScopesModel.valuesPrinted()I -/
def xk_211 : List (Nat × Instr) := [(0, .aload_n 0), (1, .iconst 0), (2, .putfield 70), (5, .aload_n 0), (6, .getfield 7), (9, .sipush 412), (12, .iaload), (13, .ireturn)]
/-- TemplateScopesModel.renderings()I -/
def xk_212 : List (Nat × Instr) := [(0, .aload_n 0), (1, .iconst 0), (2, .putfield 70), (5, .aload_n 0), (6, .getfield 7), (9, .sipush 413), (12, .iaload), (13, .ireturn)]
/-- TemplateScopesModel.failures()I -/
def xk_213 : List (Nat × Instr) := [(0, .aload_n 0), (1, .iconst 0), (2, .putfield 70), (5, .aload_n 0), (6, .getfield 7), (9, .sipush 414), (12, .iaload), (13, .ireturn)]
/-- TemplateScopesModel.printed()I -/
def xk_214 : List (Nat × Instr) := [(0, .aload_n 0), (1, .iconst 0), (2, .putfield 70), (5, .aload_n 0), (6, .getfield 7), (9, .sipush 415), (12, .iaload), (13, .ireturn)]
/-- TemplateScopesModel.wouldPrint()I -/
def xk_215 : List (Nat × Instr) := [(0, .aload_n 0), (1, .aload_n 0), (2, .invokevirtual 224), (5, .ifCond .eq 7), (8, .iconst 0), (9, .goto 4), (12, .iconst 1), (13, .invokevirtual 221), (16, .ifCond .eq 11), (19, .aload_n 0), (20, .iconst (-1)), (21, .invokevirtual 251), (24, .goto 4), (27, .iconst 0), (28, .ireturn)]
/-- TemplateScopesModel.lengthWithout(I)I -/
def xk_216 : List (Nat × Instr) := [(0, .aload_n 0), (1, .iload_n 1), (2, .invokevirtual 248), (5, .aload_n 0), (6, .getfield 151), (9, .ireturn)]
/-- TemplateScopesModel.wouldPrintByText()I -/
def xk_217 : List (Nat × Instr) := [(0, .aload_n 0), (1, .invokevirtual 254), (4, .ireturn)]
/-- TemplateScopesModel.wouldFail()I -/
def xk_218 : List (Nat × Instr) := [(0, .aload_n 0), (1, .aload_n 0), (2, .invokevirtual 224), (5, .ifCond .eq 7), (8, .iconst 0), (9, .goto 4), (12, .iconst 1), (13, .invokevirtual 221), (16, .ifCond .eq 10), (19, .aload_n 0), (20, .invokevirtual 257), (23, .goto 4), (26, .iconst 0), (27, .ireturn)]
/-- TemplateScopesModel.reasonNow()I -/
def xk_219 : List (Nat × Instr) := [(0, .aload_n 0), (1, .iconst (-1)), (2, .invokevirtual 248), (5, .aload_n 0), (6, .getfield 135), (9, .ireturn)]
/-- TemplateScopesModel.wouldPrintWithout(I)I -/
def xk_220 : List (Nat × Instr) := [(0, .aload_n 0), (1, .iload_n 1), (2, .invokestatic 227), (5, .ifCond .ne 7), (8, .iconst 1), (9, .goto 15), (12, .aload_n 0), (13, .invokevirtual 224), (16, .ifCond .eq 7), (19, .iconst 0), (20, .goto 4), (23, .iconst 2), (24, .invokevirtual 221), (27, .ifCond .eq 11), (30, .aload_n 0), (31, .iload_n 1), (32, .invokevirtual 251), (35, .goto 4), (38, .iconst 0), (39, .ireturn)]
/-- TemplateScopesModel.undo()I -/
def xk_221 : List (Nat × Instr) := [(0, .aload_n 0), (1, .aload_n 0), (2, .getfield 82), (5, .ifCond .le 7), (8, .iconst 0), (9, .goto 4), (12, .iconst 1), (13, .invokevirtual 221), (16, .ifCond .ne 5), (19, .iconst 0), (20, .ireturn), (21, .aload_n 0), (22, .dup), (23, .getfield 82), (26, .iconst 1), (27, .isub), (28, .putfield 82), (31, .iconst 0), (32, .istore_n 1), (33, .iload_n 1), (34, .sipush 416), (37, .if_icmp .ge 30), (40, .aload_n 0), (41, .getfield 7), (44, .iload_n 1), (45, .aload_n 0), (46, .getfield 13), (49, .sipush 416), (52, .aload_n 0), (53, .getfield 82), (56, .imul), (57, .iload_n 1), (58, .iadd), (59, .iaload), (60, .iastore), (61, .iinc 1 1), (64, .goto (-31)), (67, .aload_n 0), (68, .getfield 82), (71, .ireturn)]
/-- TemplateScopesModel.keep()I -/
def xk_222 : List (Nat × Instr) := [(0, .aload_n 0), (1, .iconst 0), (2, .putfield 70), (5, .iconst 0), (6, .istore_n 1), (7, .iload_n 1), (8, .sipush 416), (11, .if_icmp .ge 21), (14, .aload_n 0), (15, .getfield 16), (18, .iload_n 1), (19, .aload_n 0), (20, .getfield 7), (23, .iload_n 1), (24, .iaload), (25, .iastore), (26, .iinc 1 1), (29, .goto (-22)), (32, .aload_n 0), (33, .iconst 1), (34, .putfield 260), (37, .aload_n 0), (38, .getfield 7), (41, .sipush 200), (44, .iaload), (45, .ireturn)]
/-- TemplateScopesModel.restore()I -/
def xk_223 : List (Nat × Instr) := [(0, .aload_n 0), (1, .aload_n 0), (2, .getfield 260), (5, .ifCond .eq 7), (8, .iconst 0), (9, .goto 4), (12, .iconst 1), (13, .invokevirtual 221), (16, .ifCond .ne 5), (19, .iconst 0), (20, .ireturn), (21, .aload_n 0), (22, .invokevirtual 230), (25, .iconst 0), (26, .istore_n 1), (27, .iload_n 1), (28, .sipush 416), (31, .if_icmp .ge 21), (34, .aload_n 0), (35, .getfield 7), (38, .iload_n 1), (39, .aload_n 0), (40, .getfield 16), (43, .iload_n 1), (44, .iaload), (45, .iastore), (46, .iinc 1 1), (49, .goto (-22)), (52, .aload_n 0), (53, .getfield 7), (56, .sipush 200), (59, .iaload), (60, .ireturn)]
/-- TemplateScopesModel.savedStates()I -/
def xk_224 : List (Nat × Instr) := [(0, .aload_n 0), (1, .iconst 0), (2, .putfield 70), (5, .aload_n 0), (6, .getfield 82), (9, .ireturn)]
/-- TemplateScopesModel.valueShare()D -/
def xk_225 : List (Nat × Instr) := [(0, .aload_n 0), (1, .iconst 0), (2, .putfield 70), (5, .aload_n 0), (6, .invokevirtual 263), (9, .dreturn)]
/-- TemplateScopesModel.share()D -/
def xk_226 : List (Nat × Instr) := [(0, .aload_n 0), (1, .getfield 7), (4, .sipush 200), (7, .iaload), (8, .ifCond .ne 7), (11, .dconst 0), (12, .goto 22), (15, .aload_n 0), (16, .getfield 7), (19, .sipush 412), (22, .iaload), (23, .i2d), (24, .aload_n 0), (25, .getfield 7), (28, .sipush 200), (31, .iaload), (32, .i2d), (33, .ddiv), (34, .dreturn)]
/-- TemplateScopesModel.digest()J -/
def xk_227 : List (Nat × Instr) := [(0, .aload_n 0), (1, .iconst 0), (2, .putfield 70), (5, .aload_n 0), (6, .ldc2_w 283), (9, .putfield 269), (12, .iconst 0), (13, .istore_n 1), (14, .iload_n 1), (15, .aload_n 0), (16, .getfield 7), (19, .sipush 200), (22, .iaload), (23, .if_icmp .gt 24), (26, .aload_n 0), (27, .aload_n 0), (28, .getfield 7), (31, .sipush 200), (34, .iload_n 1), (35, .iadd), (36, .iaload), (37, .i2l), (38, .invokevirtual 279), (41, .iinc 1 1), (44, .goto (-30)), (47, .aload_n 0), (48, .aload_n 0), (49, .getfield 7), (52, .sipush 401), (55, .iaload), (56, .ifCond .eq 7), (59, .lconst 1), (60, .goto 4), (63, .lconst 0), (64, .invokevirtual 279), (67, .aload_n 0), (68, .getfield 7), (71, .sipush 401), (74, .iaload), (75, .ifCond .eq 16), (78, .aload_n 0), (79, .aload_n 0), (80, .getfield 7), (83, .sipush 401), (86, .iaload), (87, .i2l), (88, .invokevirtual 279), (91, .iconst 0), (92, .istore_n 1), (93, .iload_n 1), (94, .aload_n 0), (95, .getfield 7), (98, .sipush 402), (101, .iaload), (102, .if_icmp .gt 24), (105, .aload_n 0), (106, .aload_n 0), (107, .getfield 7), (110, .sipush 402), (113, .iload_n 1), (114, .iadd), (115, .iaload), (116, .i2l), (117, .invokevirtual 279), (120, .iinc 1 1), (123, .goto (-30)), (126, .sipush 409), (129, .istore_n 1), (130, .iload_n 1), (131, .sipush 415), (134, .if_icmp .gt 20), (137, .aload_n 0), (138, .aload_n 0), (139, .getfield 7), (142, .iload_n 1), (143, .iaload), (144, .i2l), (145, .invokevirtual 279), (148, .iinc 1 1), (151, .goto (-21)), (154, .aload_n 0), (155, .aload_n 0), (156, .getfield 82), (159, .i2l), (160, .invokevirtual 279), (163, .iconst 0), (164, .istore_n 1), (165, .iload_n 1), (166, .bipush 8), (168, .if_icmp .ge 14), (171, .aload_n 0), (172, .iload_n 1), (173, .invokevirtual 285), (176, .iinc 1 1), (179, .goto (-14)), (182, .aload_n 0), (183, .invokevirtual 288), (186, .aload_n 0), (187, .aload_n 0), (188, .invokevirtual 263), (191, .invokestatic 291), (194, .invokevirtual 279), (197, .aload_n 0), (198, .aload_n 0), (199, .getfield 120), (202, .i2l), (203, .invokevirtual 279), (206, .iconst 0), (207, .istore_n 1), (208, .iload_n 1), (209, .aload_n 0), (210, .getfield 120), (213, .if_icmp .ge 20), (216, .aload_n 0), (217, .aload_n 0), (218, .getfield 19), (221, .iload_n 1), (222, .iaload), (223, .i2l), (224, .invokevirtual 279), (227, .iinc 1 1), (230, .goto (-22)), (233, .aload_n 0), (234, .getfield 269), (237, .lreturn)]
/-- TemplateScopesModel.takesIn(J)V -/
def xk_228 : List (Nat × Instr) := [(0, .aload_n 0), (1, .ldc2_w 267), (4, .aload_n 0), (5, .getfield 269), (8, .lmul), (9, .lload_n 1), (10, .ladd), (11, .putfield 269), (14, .return_)]
/-- TemplateScopesModel.takesValue(I)V -/
def xk_229 : List (Nat × Instr) := [(0, .aload_n 0), (1, .aload_n 0), (2, .iload_n 1), (3, .invokevirtual 233), (6, .ifCond .eq 7), (9, .lconst 1), (10, .goto 4), (13, .lconst 0), (14, .invokevirtual 279), (17, .aload_n 0), (18, .iload_n 1), (19, .invokevirtual 233), (22, .ifCond .eq 81), (25, .iconst 0), (26, .istore_n 2), (27, .iload_n 2), (28, .aload_n 0), (29, .iload_n 1), (30, .invokevirtual 78), (33, .if_icmp .gt 27), (36, .aload_n 0), (37, .aload_n 0), (38, .getfield 7), (41, .iconst 0), (42, .bipush 25), (44, .iload_n 1), (45, .imul), (46, .iadd), (47, .iload_n 2), (48, .iadd), (49, .iaload), (50, .i2l), (51, .invokevirtual 279), (54, .iinc 2 1), (57, .goto (-30)), (60, .aload_n 0), (61, .aload_n 0), (62, .iload_n 1), (63, .invokevirtual 245), (66, .ifCond .eq 7), (69, .lconst 1), (70, .goto 4), (73, .lconst 0), (74, .invokevirtual 279), (77, .aload_n 0), (78, .aload_n 0), (79, .iload_n 1), (80, .invokevirtual 78), (83, .aload_n 0), (84, .iload_n 1), (85, .invokevirtual 239), (88, .iadd), (89, .i2l), (90, .invokevirtual 279), (93, .aload_n 0), (94, .aload_n 0), (95, .iload_n 1), (96, .invokevirtual 78), (99, .i2l), (100, .invokevirtual 279), (103, .return_)]
/-- TemplateScopesModel.takesTemplate()V -/
def xk_230 : List (Nat × Instr) := [(0, .aload_n 0), (1, .invokevirtual 217), (4, .istore_n 1), (5, .aload_n 0), (6, .aload_n 0), (7, .getfield 116), (10, .ifCond .eq 7), (13, .lconst 1), (14, .goto 4), (17, .lconst 0), (18, .invokevirtual 279), (21, .aload_n 0), (22, .getfield 116), (25, .ifCond .eq 80), (28, .aload_n 0), (29, .aload_n 0), (30, .getfield 85), (33, .i2l), (34, .invokevirtual 279), (37, .aload_n 0), (38, .aload_n 0), (39, .getfield 88), (42, .i2l), (43, .invokevirtual 279), (46, .aload_n 0), (47, .aload_n 0), (48, .getfield 103), (51, .i2l), (52, .invokevirtual 279), (55, .aload_n 0), (56, .aload_n 0), (57, .getfield 106), (60, .i2l), (61, .invokevirtual 279), (64, .aload_n 0), (65, .aload_n 0), (66, .getfield 109), (69, .i2l), (70, .invokevirtual 279), (73, .aload_n 0), (74, .iconst (-1)), (75, .invokevirtual 248), (78, .aload_n 0), (79, .aload_n 0), (80, .getfield 151), (83, .i2l), (84, .invokevirtual 279), (87, .aload_n 0), (88, .aload_n 0), (89, .getfield 151), (92, .i2l), (93, .invokevirtual 279), (96, .aload_n 0), (97, .aload_n 0), (98, .getfield 135), (101, .i2l), (102, .invokevirtual 279), (105, .aload_n 0), (106, .iload_n 1), (107, .i2l), (108, .invokevirtual 279), (111, .return_)]
/-- TemplateScopesModel.bitsOf(D)J -/
def xk_231 : List (Nat × Instr) := [(0, .dload_n 0), (1, .dconst 0), (2, .dcmp .l), (3, .ifCond .ne 5), (6, .lconst 0), (7, .lreturn), (8, .dload_n 0), (9, .dstore_n 2), (10, .ldc2_w 273), (13, .lstore 4), (15, .dload_n 2), (16, .ldc2_w 275), (19, .dcmp .l), (20, .ifCond .lt 18), (23, .dload_n 2), (24, .ldc2_w 275), (27, .ddiv), (28, .dstore_n 2), (29, .lload 4), (31, .lconst 1), (32, .ladd), (33, .lstore 4), (35, .goto (-20)), (38, .dload_n 2), (39, .dconst 1), (40, .dcmp .g), (41, .ifCond .ge 18), (44, .dload_n 2), (45, .ldc2_w 275), (48, .dmul), (49, .dstore_n 2), (50, .lload 4), (52, .lconst 1), (53, .lsub), (54, .lstore 4), (56, .goto (-18)), (59, .lload 4), (61, .bipush 52), (63, .lshl), (64, .dload_n 2), (65, .dconst 1), (66, .dsub), (67, .ldc2_w 277), (70, .dmul), (71, .d2l), (72, .ladd), (73, .lreturn)]
/-- TemplateScopesLaw.append(LTemplateScopes;I[J)I -/
def xk_232 : List (Nat × Instr) := [(0, .aload_n 2), (1, .iconst 0), (2, .aload_n 0), (3, .iload_n 1), (4, .invokevirtual 7), (7, .i2l), (8, .lastore), (9, .goto 9), (12, .astore_n 3), (13, .iconst 1), (14, .ireturn), (15, .astore_n 3), (16, .iconst 2), (17, .ireturn), (18, .iconst 0), (19, .ireturn)]
/-- TemplateScopesLaw.parts(LTemplateScopes;[J)I -/
def xk_233 : List (Nat × Instr) := [(0, .aload_n 1), (1, .iconst 0), (2, .aload_n 0), (3, .invokevirtual 17), (6, .i2l), (7, .lastore), (8, .goto 6), (11, .astore_n 2), (12, .iconst 1), (13, .ireturn), (14, .iconst 0), (15, .ireturn)]
/-- TemplateScopesLaw.depth(LTemplateScopes;[J)I -/
def xk_234 : List (Nat × Instr) := [(0, .aload_n 1), (1, .iconst 0), (2, .aload_n 0), (3, .invokevirtual 21), (6, .i2l), (7, .lastore), (8, .goto 6), (11, .astore_n 2), (12, .iconst 1), (13, .ireturn), (14, .iconst 0), (15, .ireturn)]
/-- TemplateScopesLaw.names(LTemplateScopes;[J)I -/
def xk_235 : List (Nat × Instr) := [(0, .aload_n 1), (1, .iconst 0), (2, .aload_n 0), (3, .invokevirtual 24), (6, .i2l), (7, .lastore), (8, .goto 6), (11, .astore_n 2), (12, .iconst 1), (13, .ireturn), (14, .iconst 0), (15, .ireturn)]
/-- TemplateScopesLaw.namesSet(LTemplateScopes;[J)I -/
def xk_236 : List (Nat × Instr) := [(0, .aload_n 1), (1, .iconst 0), (2, .aload_n 0), (3, .invokevirtual 27), (6, .i2l), (7, .lastore), (8, .goto 6), (11, .astore_n 2), (12, .iconst 1), (13, .ireturn), (14, .iconst 0), (15, .ireturn)]
/-- TemplateScopesLaw.loops(LTemplateScopes;[J)I -/
def xk_237 : List (Nat × Instr) := [(0, .aload_n 1), (1, .iconst 0), (2, .aload_n 0), (3, .invokevirtual 30), (6, .i2l), (7, .lastore), (8, .goto 6), (11, .astore_n 2), (12, .iconst 1), (13, .ireturn), (14, .iconst 0), (15, .ireturn)]
/-- TemplateScopesLaw.appendValue(LTemplateScopes;II[J)I -/
def xk_238 : List (Nat × Instr) := [(0, .aload_n 3), (1, .iconst 0), (2, .aload_n 0), (3, .iload_n 1), (4, .iload_n 2), (5, .invokevirtual 33), (8, .i2l), (9, .lastore), (10, .goto 15), (13, .astore 4), (15, .iconst 1), (16, .ireturn), (17, .astore 4), (19, .iconst 2), (20, .ireturn), (21, .astore 4), (23, .iconst 3), (24, .ireturn), (25, .iconst 0), (26, .ireturn)]
/-- TemplateScopesLaw.removeValue(LTemplateScopes;I[J)I -/
def xk_239 : List (Nat × Instr) := [(0, .aload_n 2), (1, .iconst 0), (2, .aload_n 0), (3, .iload_n 1), (4, .invokevirtual 39), (7, .i2l), (8, .lastore), (9, .goto 9), (12, .astore_n 3), (13, .iconst 1), (14, .ireturn), (15, .astore_n 3), (16, .iconst 2), (17, .ireturn), (18, .iconst 0), (19, .ireturn)]
/-- TemplateScopesLaw.emptyValue(LTemplateScopes;I[J)I -/
def xk_240 : List (Nat × Instr) := [(0, .aload_n 2), (1, .iconst 0), (2, .aload_n 0), (3, .iload_n 1), (4, .invokevirtual 42), (7, .i2l), (8, .lastore), (9, .goto 6), (12, .astore_n 3), (13, .iconst 1), (14, .ireturn), (15, .iconst 0), (16, .ireturn)]
/-- TemplateScopesLaw.copyValue(LTemplateScopes;II[J)I -/
def xk_241 : List (Nat × Instr) := [(0, .aload_n 3), (1, .iconst 0), (2, .aload_n 0), (3, .iload_n 1), (4, .iload_n 2), (5, .invokevirtual 45), (8, .i2l), (9, .lastore), (10, .goto 11), (13, .astore 4), (15, .iconst 1), (16, .ireturn), (17, .astore 4), (19, .iconst 2), (20, .ireturn), (21, .iconst 0), (22, .ireturn)]
/-- TemplateScopesLaw.escapeValue(LTemplateScopes;I[J)I -/
def xk_242 : List (Nat × Instr) := [(0, .aload_n 2), (1, .iconst 0), (2, .aload_n 0), (3, .iload_n 1), (4, .invokevirtual 48), (7, .i2l), (8, .lastore), (9, .goto 9), (12, .astore_n 3), (13, .iconst 1), (14, .ireturn), (15, .astore_n 3), (16, .iconst 2), (17, .ireturn), (18, .iconst 0), (19, .ireturn)]
/-- TemplateScopesLaw.takeOutput(LTemplateScopes;I[J)I -/
def xk_243 : List (Nat × Instr) := [(0, .aload_n 2), (1, .iconst 0), (2, .aload_n 0), (3, .iload_n 1), (4, .invokevirtual 51), (7, .i2l), (8, .lastore), (9, .goto 9), (12, .astore_n 3), (13, .iconst 1), (14, .ireturn), (15, .astore_n 3), (16, .iconst 2), (17, .ireturn), (18, .iconst 0), (19, .ireturn)]
/-- TemplateScopesLaw.takeTemplate(LTemplateScopes;I[J)I -/
def xk_244 : List (Nat × Instr) := [(0, .aload_n 2), (1, .iconst 0), (2, .aload_n 0), (3, .iload_n 1), (4, .invokevirtual 54), (7, .i2l), (8, .lastore), (9, .goto 9), (12, .astore_n 3), (13, .iconst 1), (14, .ireturn), (15, .astore_n 3), (16, .iconst 2), (17, .ireturn), (18, .iconst 0), (19, .ireturn)]
/-- TemplateScopesLaw.hasValue(LTemplateScopes;I[J)I -/
def xk_245 : List (Nat × Instr) := [(0, .aload_n 2), (1, .iconst 0), (2, .aload_n 0), (3, .iload_n 1), (4, .invokevirtual 57), (7, .ifCond .eq 7), (10, .lconst 1), (11, .goto 4), (14, .lconst 0), (15, .lastore), (16, .goto 6), (19, .astore_n 3), (20, .iconst 1), (21, .ireturn), (22, .iconst 0), (23, .ireturn)]
/-- TemplateScopesLaw.valueLength(LTemplateScopes;I[J)I -/
def xk_246 : List (Nat × Instr) := [(0, .aload_n 2), (1, .iconst 0), (2, .aload_n 0), (3, .iload_n 1), (4, .invokevirtual 61), (7, .i2l), (8, .lastore), (9, .goto 9), (12, .astore_n 3), (13, .iconst 1), (14, .ireturn), (15, .astore_n 3), (16, .iconst 2), (17, .ireturn), (18, .iconst 0), (19, .ireturn)]
/-- TemplateScopesLaw.valueCharacter(LTemplateScopes;II[J)I -/
def xk_247 : List (Nat × Instr) := [(0, .aload_n 3), (1, .iconst 0), (2, .aload_n 0), (3, .iload_n 1), (4, .iload_n 2), (5, .invokevirtual 64), (8, .i2l), (9, .lastore), (10, .goto 11), (13, .astore 4), (15, .iconst 1), (16, .ireturn), (17, .astore 4), (19, .iconst 2), (20, .ireturn), (21, .iconst 0), (22, .ireturn)]
/-- TemplateScopesLaw.isTemplate(LTemplateScopes;I[J)I -/
def xk_248 : List (Nat × Instr) := [(0, .aload_n 2), (1, .iconst 0), (2, .aload_n 0), (3, .iload_n 1), (4, .invokevirtual 67), (7, .ifCond .eq 7), (10, .lconst 1), (11, .goto 4), (14, .lconst 0), (15, .lastore), (16, .goto 9), (19, .astore_n 3), (20, .iconst 1), (21, .ireturn), (22, .astore_n 3), (23, .iconst 2), (24, .ireturn), (25, .iconst 0), (26, .ireturn)]
/-- TemplateScopesLaw.escapedLength(LTemplateScopes;I[J)I -/
def xk_249 : List (Nat × Instr) := [(0, .aload_n 2), (1, .iconst 0), (2, .aload_n 0), (3, .iload_n 1), (4, .invokevirtual 70), (7, .i2l), (8, .lastore), (9, .goto 9), (12, .astore_n 3), (13, .iconst 1), (14, .ireturn), (15, .astore_n 3), (16, .iconst 2), (17, .ireturn), (18, .iconst 0), (19, .ireturn)]
/-- TemplateScopesLaw.alikeBehindEscaping(LTemplateScopes;I[J)I -/
def xk_250 : List (Nat × Instr) := [(0, .aload_n 2), (1, .iconst 0), (2, .aload_n 0), (3, .iload_n 1), (4, .invokevirtual 73), (7, .i2l), (8, .lastore), (9, .goto 9), (12, .astore_n 3), (13, .iconst 1), (14, .ireturn), (15, .astore_n 3), (16, .iconst 2), (17, .ireturn), (18, .iconst 0), (19, .ireturn)]
/-- TemplateScopesLaw.render(LTemplateScopes;[J)I -/
def xk_251 : List (Nat × Instr) := [(0, .aload_n 1), (1, .iconst 0), (2, .aload_n 0), (3, .invokevirtual 76), (6, .i2l), (7, .lastore), (8, .goto 6), (11, .astore_n 2), (12, .iconst 1), (13, .ireturn), (14, .iconst 0), (15, .ireturn)]
/-- TemplateScopesLaw.outputCharacter(LTemplateScopes;I[J)I -/
def xk_252 : List (Nat × Instr) := [(0, .aload_n 2), (1, .iconst 0), (2, .aload_n 0), (3, .iload_n 1), (4, .invokevirtual 79), (7, .i2l), (8, .lastore), (9, .goto 6), (12, .astore_n 3), (13, .iconst 1), (14, .ireturn), (15, .iconst 0), (16, .ireturn)]
/-- TemplateScopesLaw.failureReason(LTemplateScopes;[J)I -/
def xk_253 : List (Nat × Instr) := [(0, .aload_n 1), (1, .iconst 0), (2, .aload_n 0), (3, .invokevirtual 82), (6, .i2l), (7, .lastore), (8, .goto 6), (11, .astore_n 2), (12, .iconst 1), (13, .ireturn), (14, .iconst 0), (15, .ireturn)]
/-- TemplateScopesLaw.failurePlace(LTemplateScopes;I[J)I -/
def xk_254 : List (Nat × Instr) := [(0, .aload_n 2), (1, .iconst 0), (2, .aload_n 0), (3, .iload_n 1), (4, .invokevirtual 85), (7, .i2l), (8, .lastore), (9, .goto 6), (12, .astore_n 3), (13, .iconst 1), (14, .ireturn), (15, .iconst 0), (16, .ireturn)]
/-- TemplateScopesLaw.wouldPrint(LTemplateScopes;[J)I -/
def xk_255 : List (Nat × Instr) := [(0, .aload_n 1), (1, .iconst 0), (2, .aload_n 0), (3, .invokevirtual 88), (6, .i2l), (7, .lastore), (8, .goto 6), (11, .astore_n 2), (12, .iconst 1), (13, .ireturn), (14, .iconst 0), (15, .ireturn)]
/-- TemplateScopesLaw.wouldPrintByText(LTemplateScopes;[J)I -/
def xk_256 : List (Nat × Instr) := [(0, .aload_n 1), (1, .iconst 0), (2, .aload_n 0), (3, .invokevirtual 91), (6, .i2l), (7, .lastore), (8, .goto 6), (11, .astore_n 2), (12, .iconst 1), (13, .ireturn), (14, .iconst 0), (15, .ireturn)]
/-- TemplateScopesLaw.wouldFail(LTemplateScopes;[J)I -/
def xk_257 : List (Nat × Instr) := [(0, .aload_n 1), (1, .iconst 0), (2, .aload_n 0), (3, .invokevirtual 94), (6, .i2l), (7, .lastore), (8, .goto 6), (11, .astore_n 2), (12, .iconst 1), (13, .ireturn), (14, .iconst 0), (15, .ireturn)]
/-- TemplateScopesLaw.wouldPrintWithout(LTemplateScopes;I[J)I -/
def xk_258 : List (Nat × Instr) := [(0, .aload_n 2), (1, .iconst 0), (2, .aload_n 0), (3, .iload_n 1), (4, .invokevirtual 97), (7, .i2l), (8, .lastore), (9, .goto 9), (12, .astore_n 3), (13, .iconst 1), (14, .ireturn), (15, .astore_n 3), (16, .iconst 2), (17, .ireturn), (18, .iconst 0), (19, .ireturn)]
/-- TemplateScopesLaw.undo(LTemplateScopes;[J)I -/
def xk_259 : List (Nat × Instr) := [(0, .aload_n 1), (1, .iconst 0), (2, .aload_n 0), (3, .invokevirtual 100), (6, .i2l), (7, .lastore), (8, .goto 6), (11, .astore_n 2), (12, .iconst 1), (13, .ireturn), (14, .iconst 0), (15, .ireturn)]
/-- TemplateScopesLaw.restore(LTemplateScopes;[J)I -/
def xk_260 : List (Nat × Instr) := [(0, .aload_n 1), (1, .iconst 0), (2, .aload_n 0), (3, .invokevirtual 103), (6, .i2l), (7, .lastore), (8, .goto 6), (11, .astore_n 2), (12, .iconst 1), (13, .ireturn), (14, .iconst 0), (15, .ireturn)]
/-- TemplateScopesLaw.law([I)Z -/
def xk_261 : List (Nat × Instr) := [(0, .new 8), (3, .dup), (4, .invokespecial 106), (7, .astore_n 1), (8, .new 107), (11, .dup), (12, .invokespecial 109), (15, .astore_n 2), (16, .iconst 1), (17, .newarray .long), (19, .astore_n 3), (20, .iconst 0), (21, .istore 4), (23, .iload 4), (25, .aload_n 0), (26, .arraylength), (27, .iconst 3), (28, .isub), (29, .if_icmp .gt 2010), (32, .aload_n 0), (33, .iload 4), (35, .iaload), (36, .bipush 63), (38, .iand), (39, .tableswitch 1994 0 46 #[201, 257, 270, 283, 296, 309, 353, 397, 441, 485, 529, 597, 653, 709, 777, 833, 889, 945, 1008, 1064, 1132, 1195, 1251, 1307, 1351, 1364, 1420, 1433, 1477, 1490, 1546, 1559, 1572, 1585, 1598, 1611, 1624, 1637, 1681, 1725, 1769, 1825, 1869, 1882, 1926, 1939, 1980]), (240, .aload_n 1), (241, .aload_n 0), (242, .iload 4), (244, .iconst 1), (245, .iadd), (246, .iaload), (247, .aload_n 3), (248, .invokestatic 110), (251, .istore 5), (253, .aload_n 2), (254, .aload_n 0), (255, .iload 4), (257, .iconst 1), (258, .iadd), (259, .iaload), (260, .invokevirtual 115), (263, .istore 6), (265, .aload_n 2), (266, .invokevirtual 116), (269, .iload 5), (271, .if_icmp .eq 5), (274, .iconst 0), (275, .ireturn), (276, .iload 5), (278, .ifCond .ne 15), (281, .aload_n 3), (282, .iconst 0), (283, .laload), (284, .iload 6), (286, .i2l), (287, .lcmp), (288, .ifCond .eq 5), (291, .iconst 0), (292, .ireturn), (293, .goto 1740), (296, .aload_n 1), (297, .invokevirtual 119), (300, .aload_n 2), (301, .invokevirtual 122), (304, .if_icmp .eq 1729), (307, .iconst 0), (308, .ireturn), (309, .aload_n 1), (310, .invokevirtual 123), (313, .aload_n 2), (314, .invokevirtual 126), (317, .if_icmp .eq 1716), (320, .iconst 0), (321, .ireturn), (322, .aload_n 1), (323, .invokevirtual 127), (326, .aload_n 2), (327, .invokevirtual 130), (330, .if_icmp .eq 1703), (333, .iconst 0), (334, .ireturn), (335, .aload_n 1), (336, .invokevirtual 131), (339, .aload_n 2), (340, .invokevirtual 135), (343, .if_icmp .eq 1690), (346, .iconst 0), (347, .ireturn), (348, .aload_n 1), (349, .aload_n 3), (350, .invokestatic 136), (353, .istore 5), (355, .aload_n 2), (356, .invokevirtual 139), (359, .istore 6), (361, .aload_n 2), (362, .invokevirtual 116), (365, .iload 5), (367, .if_icmp .eq 5), (370, .iconst 0), (371, .ireturn), (372, .iload 5), (374, .ifCond .ne 15), (377, .aload_n 3), (378, .iconst 0), (379, .laload), (380, .iload 6), (382, .i2l), (383, .lcmp), (384, .ifCond .eq 5), (387, .iconst 0), (388, .ireturn), (389, .goto 1644), (392, .aload_n 1), (393, .aload_n 3), (394, .invokestatic 140), (397, .istore 5), (399, .aload_n 2), (400, .invokevirtual 142), (403, .istore 6), (405, .aload_n 2), (406, .invokevirtual 116), (409, .iload 5), (411, .if_icmp .eq 5), (414, .iconst 0), (415, .ireturn), (416, .iload 5), (418, .ifCond .ne 15), (421, .aload_n 3), (422, .iconst 0), (423, .laload), (424, .iload 6), (426, .i2l), (427, .lcmp), (428, .ifCond .eq 5), (431, .iconst 0), (432, .ireturn), (433, .goto 1600), (436, .aload_n 1), (437, .aload_n 3), (438, .invokestatic 143), (441, .istore 5), (443, .aload_n 2), (444, .invokevirtual 145), (447, .istore 6), (449, .aload_n 2), (450, .invokevirtual 116), (453, .iload 5), (455, .if_icmp .eq 5), (458, .iconst 0), (459, .ireturn), (460, .iload 5), (462, .ifCond .ne 15), (465, .aload_n 3), (466, .iconst 0), (467, .laload), (468, .iload 6), (470, .i2l), (471, .lcmp), (472, .ifCond .eq 5), (475, .iconst 0), (476, .ireturn), (477, .goto 1556), (480, .aload_n 1), (481, .aload_n 3), (482, .invokestatic 146), (485, .istore 5), (487, .aload_n 2), (488, .invokevirtual 148), (491, .istore 6), (493, .aload_n 2), (494, .invokevirtual 116), (497, .iload 5), (499, .if_icmp .eq 5), (502, .iconst 0), (503, .ireturn), (504, .iload 5), (506, .ifCond .ne 15), (509, .aload_n 3), (510, .iconst 0), (511, .laload), (512, .iload 6), (514, .i2l), (515, .lcmp), (516, .ifCond .eq 5), (519, .iconst 0), (520, .ireturn), (521, .goto 1512), (524, .aload_n 1), (525, .aload_n 3), (526, .invokestatic 149), (529, .istore 5), (531, .aload_n 2), (532, .invokevirtual 151), (535, .istore 6), (537, .aload_n 2), (538, .invokevirtual 116), (541, .iload 5), (543, .if_icmp .eq 5), (546, .iconst 0), (547, .ireturn), (548, .iload 5), (550, .ifCond .ne 15), (553, .aload_n 3), (554, .iconst 0), (555, .laload), (556, .iload 6), (558, .i2l), (559, .lcmp), (560, .ifCond .eq 5), (563, .iconst 0), (564, .ireturn), (565, .goto 1468), (568, .aload_n 1), (569, .aload_n 0), (570, .iload 4), (572, .iconst 1), (573, .iadd), (574, .iaload), (575, .aload_n 0), (576, .iload 4), (578, .iconst 2), (579, .iadd), (580, .iaload), (581, .aload_n 3), (582, .invokestatic 152), (585, .istore 5), (587, .aload_n 2), (588, .aload_n 0), (589, .iload 4), (591, .iconst 1), (592, .iadd), (593, .iaload), (594, .aload_n 0), (595, .iload 4), (597, .iconst 2), (598, .iadd), (599, .iaload), (600, .invokevirtual 155), (603, .istore 6), (605, .aload_n 2), (606, .invokevirtual 116), (609, .iload 5), (611, .if_icmp .eq 5), (614, .iconst 0), (615, .ireturn), (616, .iload 5), (618, .ifCond .ne 15), (621, .aload_n 3), (622, .iconst 0), (623, .laload), (624, .iload 6), (626, .i2l), (627, .lcmp), (628, .ifCond .eq 5), (631, .iconst 0), (632, .ireturn), (633, .goto 1400), (636, .aload_n 1), (637, .aload_n 0), (638, .iload 4), (640, .iconst 1), (641, .iadd), (642, .iaload), (643, .aload_n 3), (644, .invokestatic 156), (647, .istore 5), (649, .aload_n 2), (650, .aload_n 0), (651, .iload 4), (653, .iconst 1), (654, .iadd), (655, .iaload), (656, .invokevirtual 158), (659, .istore 6), (661, .aload_n 2), (662, .invokevirtual 116), (665, .iload 5), (667, .if_icmp .eq 5), (670, .iconst 0), (671, .ireturn), (672, .iload 5), (674, .ifCond .ne 15), (677, .aload_n 3), (678, .iconst 0), (679, .laload), (680, .iload 6), (682, .i2l), (683, .lcmp), (684, .ifCond .eq 5), (687, .iconst 0), (688, .ireturn), (689, .goto 1344), (692, .aload_n 1), (693, .aload_n 0), (694, .iload 4), (696, .iconst 1), (697, .iadd), (698, .iaload), (699, .aload_n 3), (700, .invokestatic 159), (703, .istore 5), (705, .aload_n 2), (706, .aload_n 0), (707, .iload 4), (709, .iconst 1), (710, .iadd), (711, .iaload), (712, .invokevirtual 161), (715, .istore 6), (717, .aload_n 2), (718, .invokevirtual 116), (721, .iload 5), (723, .if_icmp .eq 5), (726, .iconst 0), (727, .ireturn), (728, .iload 5), (730, .ifCond .ne 15), (733, .aload_n 3), (734, .iconst 0), (735, .laload), (736, .iload 6), (738, .i2l), (739, .lcmp), (740, .ifCond .eq 5), (743, .iconst 0), (744, .ireturn), (745, .goto 1288), (748, .aload_n 1), (749, .aload_n 0), (750, .iload 4), (752, .iconst 1), (753, .iadd), (754, .iaload), (755, .aload_n 0), (756, .iload 4), (758, .iconst 2), (759, .iadd), (760, .iaload), (761, .aload_n 3), (762, .invokestatic 162), (765, .istore 5), (767, .aload_n 2), (768, .aload_n 0), (769, .iload 4), (771, .iconst 1), (772, .iadd), (773, .iaload), (774, .aload_n 0), (775, .iload 4), (777, .iconst 2), (778, .iadd), (779, .iaload), (780, .invokevirtual 164), (783, .istore 6), (785, .aload_n 2), (786, .invokevirtual 116), (789, .iload 5), (791, .if_icmp .eq 5), (794, .iconst 0), (795, .ireturn), (796, .iload 5), (798, .ifCond .ne 15), (801, .aload_n 3), (802, .iconst 0), (803, .laload), (804, .iload 6), (806, .i2l), (807, .lcmp), (808, .ifCond .eq 5), (811, .iconst 0), (812, .ireturn), (813, .goto 1220), (816, .aload_n 1), (817, .aload_n 0), (818, .iload 4), (820, .iconst 1), (821, .iadd), (822, .iaload), (823, .aload_n 3), (824, .invokestatic 165), (827, .istore 5), (829, .aload_n 2), (830, .aload_n 0), (831, .iload 4), (833, .iconst 1), (834, .iadd), (835, .iaload), (836, .invokevirtual 167), (839, .istore 6), (841, .aload_n 2), (842, .invokevirtual 116), (845, .iload 5), (847, .if_icmp .eq 5), (850, .iconst 0), (851, .ireturn), (852, .iload 5), (854, .ifCond .ne 15), (857, .aload_n 3), (858, .iconst 0), (859, .laload), (860, .iload 6), (862, .i2l), (863, .lcmp), (864, .ifCond .eq 5), (867, .iconst 0), (868, .ireturn), (869, .goto 1164), (872, .aload_n 1), (873, .aload_n 0), (874, .iload 4), (876, .iconst 1), (877, .iadd), (878, .iaload), (879, .aload_n 3), (880, .invokestatic 168), (883, .istore 5), (885, .aload_n 2), (886, .aload_n 0), (887, .iload 4), (889, .iconst 1), (890, .iadd), (891, .iaload), (892, .invokevirtual 170), (895, .istore 6), (897, .aload_n 2), (898, .invokevirtual 116), (901, .iload 5), (903, .if_icmp .eq 5), (906, .iconst 0), (907, .ireturn), (908, .iload 5), (910, .ifCond .ne 15), (913, .aload_n 3), (914, .iconst 0), (915, .laload), (916, .iload 6), (918, .i2l), (919, .lcmp), (920, .ifCond .eq 5), (923, .iconst 0), (924, .ireturn), (925, .goto 1108), (928, .aload_n 1), (929, .aload_n 0), (930, .iload 4), (932, .iconst 1), (933, .iadd), (934, .iaload), (935, .aload_n 3), (936, .invokestatic 171), (939, .istore 5), (941, .aload_n 2), (942, .aload_n 0), (943, .iload 4), (945, .iconst 1), (946, .iadd), (947, .iaload), (948, .invokevirtual 173), (951, .istore 6), (953, .aload_n 2), (954, .invokevirtual 116), (957, .iload 5), (959, .if_icmp .eq 5), (962, .iconst 0), (963, .ireturn), (964, .iload 5), (966, .ifCond .ne 15), (969, .aload_n 3), (970, .iconst 0), (971, .laload), (972, .iload 6), (974, .i2l), (975, .lcmp), (976, .ifCond .eq 5), (979, .iconst 0), (980, .ireturn), (981, .goto 1052), (984, .aload_n 1), (985, .aload_n 0), (986, .iload 4), (988, .iconst 1), (989, .iadd), (990, .iaload), (991, .aload_n 3), (992, .invokestatic 174), (995, .istore 5), (997, .aload_n 2), (998, .aload_n 0), (999, .iload 4), (1001, .iconst 1), (1002, .iadd), (1003, .iaload), (1004, .invokevirtual 176), (1007, .istore 6), (1009, .aload_n 2), (1010, .invokevirtual 116), (1013, .iload 5), (1015, .if_icmp .eq 5), (1018, .iconst 0), (1019, .ireturn), (1020, .iload 5), (1022, .ifCond .ne 22), (1025, .aload_n 3), (1026, .iconst 0), (1027, .laload), (1028, .iload 6), (1030, .ifCond .eq 7), (1033, .lconst 1), (1034, .goto 4), (1037, .lconst 0), (1038, .lcmp), (1039, .ifCond .eq 5), (1042, .iconst 0), (1043, .ireturn), (1044, .goto 989), (1047, .aload_n 1), (1048, .aload_n 0), (1049, .iload 4), (1051, .iconst 1), (1052, .iadd), (1053, .iaload), (1054, .aload_n 3), (1055, .invokestatic 177), (1058, .istore 5), (1060, .aload_n 2), (1061, .aload_n 0), (1062, .iload 4), (1064, .iconst 1), (1065, .iadd), (1066, .iaload), (1067, .invokevirtual 179), (1070, .istore 6), (1072, .aload_n 2), (1073, .invokevirtual 116), (1076, .iload 5), (1078, .if_icmp .eq 5), (1081, .iconst 0), (1082, .ireturn), (1083, .iload 5), (1085, .ifCond .ne 15), (1088, .aload_n 3), (1089, .iconst 0), (1090, .laload), (1091, .iload 6), (1093, .i2l), (1094, .lcmp), (1095, .ifCond .eq 5), (1098, .iconst 0), (1099, .ireturn), (1100, .goto 933), (1103, .aload_n 1), (1104, .aload_n 0), (1105, .iload 4), (1107, .iconst 1), (1108, .iadd), (1109, .iaload), (1110, .aload_n 0), (1111, .iload 4), (1113, .iconst 2), (1114, .iadd), (1115, .iaload), (1116, .aload_n 3), (1117, .invokestatic 180), (1120, .istore 5), (1122, .aload_n 2), (1123, .aload_n 0), (1124, .iload 4), (1126, .iconst 1), (1127, .iadd), (1128, .iaload), (1129, .aload_n 0), (1130, .iload 4), (1132, .iconst 2), (1133, .iadd), (1134, .iaload), (1135, .invokevirtual 182), (1138, .istore 6), (1140, .aload_n 2), (1141, .invokevirtual 116), (1144, .iload 5), (1146, .if_icmp .eq 5), (1149, .iconst 0), (1150, .ireturn), (1151, .iload 5), (1153, .ifCond .ne 15), (1156, .aload_n 3), (1157, .iconst 0), (1158, .laload), (1159, .iload 6), (1161, .i2l), (1162, .lcmp), (1163, .ifCond .eq 5), (1166, .iconst 0), (1167, .ireturn), (1168, .goto 865), (1171, .aload_n 1), (1172, .aload_n 0), (1173, .iload 4), (1175, .iconst 1), (1176, .iadd), (1177, .iaload), (1178, .aload_n 3), (1179, .invokestatic 183), (1182, .istore 5), (1184, .aload_n 2), (1185, .aload_n 0), (1186, .iload 4), (1188, .iconst 1), (1189, .iadd), (1190, .iaload), (1191, .invokevirtual 185), (1194, .istore 6), (1196, .aload_n 2), (1197, .invokevirtual 116), (1200, .iload 5), (1202, .if_icmp .eq 5), (1205, .iconst 0), (1206, .ireturn), (1207, .iload 5), (1209, .ifCond .ne 22), (1212, .aload_n 3), (1213, .iconst 0), (1214, .laload), (1215, .iload 6), (1217, .ifCond .eq 7), (1220, .lconst 1), (1221, .goto 4), (1224, .lconst 0), (1225, .lcmp), (1226, .ifCond .eq 5), (1229, .iconst 0), (1230, .ireturn), (1231, .goto 802), (1234, .aload_n 1), (1235, .aload_n 0), (1236, .iload 4), (1238, .iconst 1), (1239, .iadd), (1240, .iaload), (1241, .aload_n 3), (1242, .invokestatic 186), (1245, .istore 5), (1247, .aload_n 2), (1248, .aload_n 0), (1249, .iload 4), (1251, .iconst 1), (1252, .iadd), (1253, .iaload), (1254, .invokevirtual 188), (1257, .istore 6), (1259, .aload_n 2), (1260, .invokevirtual 116), (1263, .iload 5), (1265, .if_icmp .eq 5), (1268, .iconst 0), (1269, .ireturn), (1270, .iload 5), (1272, .ifCond .ne 15), (1275, .aload_n 3), (1276, .iconst 0), (1277, .laload), (1278, .iload 6), (1280, .i2l), (1281, .lcmp), (1282, .ifCond .eq 5), (1285, .iconst 0), (1286, .ireturn), (1287, .goto 746), (1290, .aload_n 1), (1291, .aload_n 0), (1292, .iload 4), (1294, .iconst 1), (1295, .iadd), (1296, .iaload), (1297, .aload_n 3), (1298, .invokestatic 189), (1301, .istore 5), (1303, .aload_n 2), (1304, .aload_n 0), (1305, .iload 4), (1307, .iconst 1), (1308, .iadd), (1309, .iaload), (1310, .invokevirtual 191), (1313, .istore 6), (1315, .aload_n 2), (1316, .invokevirtual 116), (1319, .iload 5), (1321, .if_icmp .eq 5), (1324, .iconst 0), (1325, .ireturn), (1326, .iload 5), (1328, .ifCond .ne 15), (1331, .aload_n 3), (1332, .iconst 0), (1333, .laload), (1334, .iload 6), (1336, .i2l), (1337, .lcmp), (1338, .ifCond .eq 5), (1341, .iconst 0), (1342, .ireturn), (1343, .goto 690), (1346, .aload_n 1), (1347, .aload_n 3), (1348, .invokestatic 192), (1351, .istore 5), (1353, .aload_n 2), (1354, .invokevirtual 194), (1357, .istore 6), (1359, .aload_n 2), (1360, .invokevirtual 116), (1363, .iload 5), (1365, .if_icmp .eq 5), (1368, .iconst 0), (1369, .ireturn), (1370, .iload 5), (1372, .ifCond .ne 15), (1375, .aload_n 3), (1376, .iconst 0), (1377, .laload), (1378, .iload 6), (1380, .i2l), (1381, .lcmp), (1382, .ifCond .eq 5), (1385, .iconst 0), (1386, .ireturn), (1387, .goto 646), (1390, .aload_n 1), (1391, .invokevirtual 195), (1394, .aload_n 2), (1395, .invokevirtual 198), (1398, .if_icmp .eq 635), (1401, .iconst 0), (1402, .ireturn), (1403, .aload_n 1), (1404, .aload_n 0), (1405, .iload 4), (1407, .iconst 1), (1408, .iadd), (1409, .iaload), (1410, .aload_n 3), (1411, .invokestatic 199), (1414, .istore 5), (1416, .aload_n 2), (1417, .aload_n 0), (1418, .iload 4), (1420, .iconst 1), (1421, .iadd), (1422, .iaload), (1423, .invokevirtual 201), (1426, .istore 6), (1428, .aload_n 2), (1429, .invokevirtual 116), (1432, .iload 5), (1434, .if_icmp .eq 5), (1437, .iconst 0), (1438, .ireturn), (1439, .iload 5), (1441, .ifCond .ne 15), (1444, .aload_n 3), (1445, .iconst 0), (1446, .laload), (1447, .iload 6), (1449, .i2l), (1450, .lcmp), (1451, .ifCond .eq 5), (1454, .iconst 0), (1455, .ireturn), (1456, .goto 577), (1459, .aload_n 1), (1460, .invokevirtual 202), (1463, .aload_n 2), (1464, .invokevirtual 205), (1467, .if_icmp .eq 566), (1470, .iconst 0), (1471, .ireturn), (1472, .aload_n 1), (1473, .aload_n 3), (1474, .invokestatic 206), (1477, .istore 5), (1479, .aload_n 2), (1480, .invokevirtual 208), (1483, .istore 6), (1485, .aload_n 2), (1486, .invokevirtual 116), (1489, .iload 5), (1491, .if_icmp .eq 5), (1494, .iconst 0), (1495, .ireturn), (1496, .iload 5), (1498, .ifCond .ne 15), (1501, .aload_n 3), (1502, .iconst 0), (1503, .laload), (1504, .iload 6), (1506, .i2l), (1507, .lcmp), (1508, .ifCond .eq 5), (1511, .iconst 0), (1512, .ireturn), (1513, .goto 520), (1516, .aload_n 1), (1517, .invokevirtual 209), (1520, .aload_n 2), (1521, .invokevirtual 212), (1524, .if_icmp .eq 509), (1527, .iconst 0), (1528, .ireturn), (1529, .aload_n 1), (1530, .aload_n 0), (1531, .iload 4), (1533, .iconst 1), (1534, .iadd), (1535, .iaload), (1536, .aload_n 3), (1537, .invokestatic 213), (1540, .istore 5), (1542, .aload_n 2), (1543, .aload_n 0), (1544, .iload 4), (1546, .iconst 1), (1547, .iadd), (1548, .iaload), (1549, .invokevirtual 215), (1552, .istore 6), (1554, .aload_n 2), (1555, .invokevirtual 116), (1558, .iload 5), (1560, .if_icmp .eq 5), (1563, .iconst 0), (1564, .ireturn), (1565, .iload 5), (1567, .ifCond .ne 15), (1570, .aload_n 3), (1571, .iconst 0), (1572, .laload), (1573, .iload 6), (1575, .i2l), (1576, .lcmp), (1577, .ifCond .eq 5), (1580, .iconst 0), (1581, .ireturn), (1582, .goto 451), (1585, .aload_n 1), (1586, .invokevirtual 216), (1589, .aload_n 2), (1590, .invokevirtual 219), (1593, .if_icmp .eq 440), (1596, .iconst 0), (1597, .ireturn), (1598, .aload_n 1), (1599, .invokevirtual 220), (1602, .aload_n 2), (1603, .invokevirtual 223), (1606, .if_icmp .eq 427), (1609, .iconst 0), (1610, .ireturn), (1611, .aload_n 1), (1612, .invokevirtual 224), (1615, .aload_n 2), (1616, .invokevirtual 227), (1619, .if_icmp .eq 414), (1622, .iconst 0), (1623, .ireturn), (1624, .aload_n 1), (1625, .invokevirtual 228), (1628, .aload_n 2), (1629, .invokevirtual 231), (1632, .if_icmp .eq 401), (1635, .iconst 0), (1636, .ireturn), (1637, .aload_n 1), (1638, .invokevirtual 232), (1641, .aload_n 2), (1642, .invokevirtual 235), (1645, .if_icmp .eq 388), (1648, .iconst 0), (1649, .ireturn), (1650, .aload_n 1), (1651, .invokevirtual 236), (1654, .aload_n 2), (1655, .invokevirtual 239), (1658, .if_icmp .eq 375), (1661, .iconst 0), (1662, .ireturn), (1663, .aload_n 1), (1664, .invokevirtual 240), (1667, .aload_n 2), (1668, .invokevirtual 243), (1671, .if_icmp .eq 362), (1674, .iconst 0), (1675, .ireturn), (1676, .aload_n 1), (1677, .aload_n 3), (1678, .invokestatic 244), (1681, .istore 5), (1683, .aload_n 2), (1684, .invokevirtual 246), (1687, .istore 6), (1689, .aload_n 2), (1690, .invokevirtual 116), (1693, .iload 5), (1695, .if_icmp .eq 5), (1698, .iconst 0), (1699, .ireturn), (1700, .iload 5), (1702, .ifCond .ne 15), (1705, .aload_n 3), (1706, .iconst 0), (1707, .laload), (1708, .iload 6), (1710, .i2l), (1711, .lcmp), (1712, .ifCond .eq 5), (1715, .iconst 0), (1716, .ireturn), (1717, .goto 316), (1720, .aload_n 1), (1721, .aload_n 3), (1722, .invokestatic 247), (1725, .istore 5), (1727, .aload_n 2), (1728, .invokevirtual 249), (1731, .istore 6), (1733, .aload_n 2), (1734, .invokevirtual 116), (1737, .iload 5), (1739, .if_icmp .eq 5), (1742, .iconst 0), (1743, .ireturn), (1744, .iload 5), (1746, .ifCond .ne 15), (1749, .aload_n 3), (1750, .iconst 0), (1751, .laload), (1752, .iload 6), (1754, .i2l), (1755, .lcmp), (1756, .ifCond .eq 5), (1759, .iconst 0), (1760, .ireturn), (1761, .goto 272), (1764, .aload_n 1), (1765, .aload_n 3), (1766, .invokestatic 250), (1769, .istore 5), (1771, .aload_n 2), (1772, .invokevirtual 252), (1775, .istore 6), (1777, .aload_n 2), (1778, .invokevirtual 116), (1781, .iload 5), (1783, .if_icmp .eq 5), (1786, .iconst 0), (1787, .ireturn), (1788, .iload 5), (1790, .ifCond .ne 15), (1793, .aload_n 3), (1794, .iconst 0), (1795, .laload), (1796, .iload 6), (1798, .i2l), (1799, .lcmp), (1800, .ifCond .eq 5), (1803, .iconst 0), (1804, .ireturn), (1805, .goto 228), (1808, .aload_n 1), (1809, .aload_n 0), (1810, .iload 4), (1812, .iconst 1), (1813, .iadd), (1814, .iaload), (1815, .aload_n 3), (1816, .invokestatic 253), (1819, .istore 5), (1821, .aload_n 2), (1822, .aload_n 0), (1823, .iload 4), (1825, .iconst 1), (1826, .iadd), (1827, .iaload), (1828, .invokevirtual 255), (1831, .istore 6), (1833, .aload_n 2), (1834, .invokevirtual 116), (1837, .iload 5), (1839, .if_icmp .eq 5), (1842, .iconst 0), (1843, .ireturn), (1844, .iload 5), (1846, .ifCond .ne 15), (1849, .aload_n 3), (1850, .iconst 0), (1851, .laload), (1852, .iload 6), (1854, .i2l), (1855, .lcmp), (1856, .ifCond .eq 5), (1859, .iconst 0), (1860, .ireturn), (1861, .goto 172), (1864, .aload_n 1), (1865, .aload_n 3), (1866, .invokestatic 256), (1869, .istore 5), (1871, .aload_n 2), (1872, .invokevirtual 258), (1875, .istore 6), (1877, .aload_n 2), (1878, .invokevirtual 116), (1881, .iload 5), (1883, .if_icmp .eq 5), (1886, .iconst 0), (1887, .ireturn), (1888, .iload 5), (1890, .ifCond .ne 15), (1893, .aload_n 3), (1894, .iconst 0), (1895, .laload), (1896, .iload 6), (1898, .i2l), (1899, .lcmp), (1900, .ifCond .eq 5), (1903, .iconst 0), (1904, .ireturn), (1905, .goto 128), (1908, .aload_n 1), (1909, .invokevirtual 259), (1912, .aload_n 2), (1913, .invokevirtual 262), (1916, .if_icmp .eq 117), (1919, .iconst 0), (1920, .ireturn), (1921, .aload_n 1), (1922, .aload_n 3), (1923, .invokestatic 263), (1926, .istore 5), (1928, .aload_n 2), (1929, .invokevirtual 265), (1932, .istore 6), (1934, .aload_n 2), (1935, .invokevirtual 116), (1938, .iload 5), (1940, .if_icmp .eq 5), (1943, .iconst 0), (1944, .ireturn), (1945, .iload 5), (1947, .ifCond .ne 15), (1950, .aload_n 3), (1951, .iconst 0), (1952, .laload), (1953, .iload 6), (1955, .i2l), (1956, .lcmp), (1957, .ifCond .eq 5), (1960, .iconst 0), (1961, .ireturn), (1962, .goto 71), (1965, .aload_n 1), (1966, .invokevirtual 266), (1969, .aload_n 2), (1970, .invokevirtual 269), (1973, .if_icmp .eq 60), (1976, .iconst 0), (1977, .ireturn), (1978, .aload_n 1), (1979, .invokevirtual 270), (1982, .dstore 5), (1984, .aload_n 2), (1985, .invokevirtual 274), (1988, .dstore 7), (1990, .dload 5), (1992, .dload 7), (1994, .dcmp .l), (1995, .ifCond .eq 21), (1998, .dload 5), (2000, .dload 5), (2002, .dcmp .l), (2003, .ifCond .eq 11), (2006, .dload 7), (2008, .dload 7), (2010, .dcmp .l), (2011, .ifCond .ne 5), (2014, .iconst 0), (2015, .ireturn), (2016, .goto 17), (2019, .aload_n 1), (2020, .invokevirtual 275), (2023, .aload_n 2), (2024, .invokevirtual 279), (2027, .lcmp), (2028, .ifCond .eq 5), (2031, .iconst 0), (2032, .ireturn), (2033, .iinc 4 3), (2036, .goto (-2013)), (2039, .iconst 1), (2040, .ireturn)]
def xcode : List (List (Nat × Instr)) := [xk_0, xk_1, xk_2, xk_3, xk_4, xk_5, xk_6, xk_7, xk_8, xk_9, xk_10, xk_11, xk_12, xk_13, xk_14, xk_15, xk_16, xk_17, xk_18, xk_19, xk_20, xk_21, xk_22, xk_23, xk_24, xk_25, xk_26, xk_27, xk_28, xk_29, xk_30, xk_31, xk_32, xk_33, xk_34, xk_35, xk_36, xk_37, xk_38, xk_39, xk_40, xk_41, xk_42, xk_43, xk_44, xk_45, xk_46, xk_47, xk_48, xk_49, xk_50, xk_51, xk_52, xk_53, xk_54, xk_55, xk_56, xk_57, xk_58, xk_59, xk_60, xk_61, xk_62, xk_63, xk_64, xk_65, xk_66, xk_67, xk_68, xk_69, xk_70, xk_71, xk_72, xk_73, xk_74, xk_75, xk_76, xk_77, xk_78, xk_79, xk_80, xk_81, xk_82, xk_83, xk_84, xk_85, xk_86, xk_87, xk_88, xk_89, xk_90, xk_91, xk_92, xk_93, xk_94, xk_95, xk_96, xk_97, xk_98, xk_99, xk_100, xk_101, xk_102, xk_103, xk_104, xk_105, xk_106, xk_107, xk_108, xk_109, xk_110, xk_111, xk_112, xk_113, xk_114, xk_115, xk_116, xk_117, xk_118, xk_119, xk_120, xk_121, xk_122, xk_123, xk_124, xk_125, xk_126, xk_127, xk_128, xk_129, xk_130, xk_131, xk_132, xk_133, xk_134, xk_135, xk_136, xk_137, xk_138, xk_139, xk_140, xk_141, xk_142, xk_143, xk_144, xk_145, xk_146, xk_147, xk_148, xk_149, xk_150, xk_151, xk_152, xk_153, xk_154, xk_155, xk_156, xk_157, xk_158, xk_159, xk_160, xk_161, xk_162, xk_163, xk_164, xk_165, xk_166, xk_167, xk_168, xk_169, xk_170, xk_171, xk_172, xk_173, xk_174, xk_175, xk_176, xk_177, xk_178, xk_179, xk_180, xk_181, xk_182, xk_183, xk_184, xk_185, xk_186, xk_187, xk_188, xk_189, xk_190, xk_191, xk_192, xk_193, xk_194, xk_195, xk_196, xk_197, xk_198, xk_199, xk_200, xk_201, xk_202, xk_203, xk_204, xk_205, xk_206, xk_207, xk_208, xk_209, xk_210, xk_211, xk_212, xk_213, xk_214, xk_215, xk_216, xk_217, xk_218, xk_219, xk_220, xk_221, xk_222, xk_223, xk_224, xk_225, xk_226, xk_227, xk_228, xk_229, xk_230, xk_231, xk_232, xk_233, xk_234, xk_235, xk_236, xk_237, xk_238, xk_239, xk_240, xk_241, xk_242, xk_243, xk_244, xk_245, xk_246, xk_247, xk_248, xk_249, xk_250, xk_251, xk_252, xk_253, xk_254, xk_255, xk_256, xk_257, xk_258, xk_259, xk_260, xk_261]
def xfetch (mi pc : Nat) : Option Instr := match xcode[mi]? with
  | some l => xfind l pc
  | none => none
/-- a method: its class, cells of its locals, number of parameters, kind (0 called by an object, 1 static, 2 <init>), kind of its answer, its handlers -/
def xmt : List (Nat × Nat × Nat × Nat × Nat × List (Nat × Nat × Nat × Nat)) := [(0, 2, 1, 2, 0, []), (0, 8, 4, 0, 1, []), (0, 6, 3, 0, 1, []), (0, 7, 3, 0, 1, []), (0, 8, 3, 0, 1, []), (0, 4, 3, 0, 1, []), (0, 4, 3, 0, 1, []), (0, 5, 3, 0, 1, []), (1, 2, 1, 2, 0, []), (1, 4, 1, 0, 0, []), (1, 2, 0, 0, 2, []), (1, 2, 1, 0, 1, []), (1, 2, 0, 0, 2, []), (1, 2, 1, 0, 2, []), (1, 5, 0, 0, 1, []), (1, 3, 1, 0, 1, []), (1, 5, 3, 0, 2, []), (1, 3, 1, 0, 1, []), (1, 4, 0, 0, 0, []), (1, 2, 1, 0, 1, []), (1, 2, 1, 0, 1, []), (2, 2, 0, 2, 0, []), (2, 1, 0, 0, 1, []), (2, 3, 1, 0, 0, []), (2, 3, 0, 0, 0, []), (2, 4, 1, 0, 2, []), (3, 1, 0, 2, 0, []), (3, 3, 1, 0, 0, []), (3, 2, 1, 0, 1, []), (3, 1, 0, 0, 0, []), (3, 3, 2, 0, 0, []), (3, 4, 3, 0, 0, []), (4, 1, 0, 2, 0, []), (4, 3, 2, 0, 0, []), (4, 1, 0, 0, 1, []), (4, 7, 2, 0, 1, []), (4, 3, 2, 0, 1, []), (4, 2, 1, 0, 2, []), (4, 1, 0, 0, 1, []), (4, 2, 1, 0, 0, []), (5, 1, 0, 2, 0, []), (5, 4, 2, 0, 0, []), (5, 2, 0, 0, 2, []), (5, 2, 1, 0, 1, []), (5, 4, 3, 0, 0, []), (5, 4, 1, 0, 1, []), (5, 1, 0, 0, 0, []), (5, 5, 2, 0, 2, []), (6, 1, 0, 2, 0, []), (6, 2, 1, 0, 0, []), (6, 2, 1, 0, 0, []), (7, 3, 2, 2, 0, []), (7, 4, 2, 0, 0, []), (7, 3, 2, 0, 2, []), (7, 3, 1, 0, 0, []), (7, 1, 1, 1, 1, []), (7, 5, 1, 0, 2, []), (7, 3, 1, 0, 2, []), (7, 1, 0, 0, 2, []), (7, 3, 0, 0, 2, []), (7, 4, 2, 0, 2, []), (7, 1, 0, 0, 1, []), (7, 1, 0, 0, 2, []), (7, 1, 0, 0, 1, []), (7, 2, 1, 0, 1, []), (7, 2, 1, 0, 1, []), (7, 2, 1, 0, 1, []), (7, 2, 1, 0, 1, []), (7, 2, 1, 0, 1, []), (7, 1, 0, 0, 1, []), (7, 3, 0, 0, 1, []), (7, 3, 0, 0, 1, []), (7, 3, 0, 0, 1, []), (8, 4, 2, 2, 0, []), (8, 2, 1, 0, 0, []), (8, 2, 1, 0, 1, []), (8, 4, 2, 0, 1, []), (8, 3, 1, 0, 0, []), (8, 7, 3, 0, 0, []), (8, 5, 2, 0, 2, []), (8, 2, 1, 0, 0, []), (9, 3, 0, 2, 0, []), (9, 2, 0, 0, 1, []), (9, 1, 0, 0, 1, []), (9, 1, 0, 0, 1, []), (9, 1, 1, 1, 1, []), (9, 1, 0, 0, 2, []), (9, 1, 0, 0, 1, []), (9, 1, 0, 0, 2, []), (9, 1, 0, 0, 1, []), (9, 1, 0, 0, 1, []), (9, 1, 0, 0, 1, []), (9, 1, 0, 0, 1, []), (9, 1, 0, 0, 1, []), (9, 1, 0, 0, 1, []), (9, 1, 0, 0, 1, []), (9, 1, 0, 0, 1, []), (9, 1, 0, 0, 1, []), (9, 1, 0, 0, 1, []), (9, 2, 0, 0, 4, []), (9, 4, 0, 0, 3, []), (9, 6, 1, 0, 3, []), (9, 8, 3, 1, 3, []), (9, 4, 2, 1, 3, []), (9, 3, 2, 1, 3, []), (9, 1, 0, 0, 1, []), (9, 2, 1, 0, 1, []), (9, 2, 1, 0, 2, []), (9, 1, 1, 1, 0, []), (9, 2, 1, 0, 2, []), (9, 3, 1, 0, 1, []), (9, 2, 1, 0, 1, []), (9, 4, 1, 0, 1, []), (9, 1, 1, 1, 2, []), (9, 6, 1, 0, 1, []), (9, 2, 1, 0, 0, []), (9, 1, 0, 0, 1, []), (9, 1, 0, 0, 0, []), (9, 1, 0, 0, 1, []), (9, 1, 0, 0, 1, []), (9, 1, 0, 0, 1, []), (9, 1, 0, 0, 1, []), (9, 1, 0, 0, 1, []), (9, 1, 0, 0, 1, []), (9, 1, 0, 0, 1, []), (9, 7, 1, 1, 3, []), (9, 2, 1, 0, 1, []), (9, 1, 1, 1, 0, []), (9, 4, 2, 0, 1, []), (9, 3, 1, 0, 1, []), (9, 3, 1, 0, 1, []), (9, 4, 2, 0, 1, []), (9, 3, 1, 0, 1, []), (9, 2, 1, 0, 1, []), (9, 4, 2, 0, 1, []), (9, 2, 1, 0, 1, []), (9, 2, 1, 0, 1, []), (9, 4, 2, 0, 1, []), (9, 1, 0, 0, 1, []), (9, 2, 1, 0, 1, []), (9, 2, 1, 0, 1, []), (9, 1, 0, 0, 1, []), (9, 1, 0, 0, 1, []), (10, 2, 0, 2, 0, []), (10, 1, 0, 0, 1, []), (10, 2, 1, 0, 1, []), (10, 3, 3, 1, 2, []), (10, 2, 1, 0, 2, []), (10, 2, 0, 0, 1, []), (10, 1, 0, 0, 1, []), (10, 1, 0, 0, 1, []), (10, 2, 0, 0, 1, []), (10, 5, 2, 0, 1, []), (10, 4, 2, 0, 1, []), (10, 1, 1, 1, 1, []), (10, 1, 0, 0, 0, []), (10, 1, 0, 0, 2, []), (10, 2, 0, 0, 2, []), (10, 1, 0, 0, 1, []), (10, 1, 0, 0, 1, []), (10, 1, 0, 0, 1, []), (10, 1, 0, 0, 1, []), (10, 1, 0, 0, 1, []), (10, 4, 2, 0, 1, []), (10, 1, 1, 1, 2, []), (10, 2, 1, 0, 1, []), (10, 2, 0, 0, 0, []), (10, 2, 1, 0, 2, []), (10, 3, 1, 0, 1, []), (10, 2, 1, 0, 1, []), (10, 3, 1, 0, 1, []), (10, 4, 2, 0, 1, []), (10, 6, 1, 0, 1, []), (10, 4, 1, 0, 1, []), (10, 1, 1, 1, 2, []), (10, 3, 1, 0, 1, []), (10, 3, 1, 0, 1, []), (10, 2, 1, 0, 2, []), (10, 2, 1, 0, 1, []), (10, 4, 2, 0, 1, []), (10, 2, 1, 0, 2, []), (10, 3, 1, 0, 2, []), (10, 3, 1, 0, 1, []), (10, 2, 1, 0, 1, []), (10, 2, 1, 0, 1, []), (10, 2, 0, 0, 1, []), (10, 4, 1, 0, 0, []), (10, 2, 0, 0, 0, []), (10, 2, 2, 1, 1, []), (10, 5, 4, 0, 0, []), (10, 3, 0, 0, 2, []), (10, 5, 0, 0, 0, []), (10, 4, 1, 0, 0, []), (10, 5, 0, 0, 0, []), (10, 4, 2, 0, 0, []), (10, 7, 2, 0, 0, []), (10, 4, 1, 0, 1, []), (10, 6, 3, 0, 0, []), (10, 5, 3, 0, 0, []), (10, 6, 2, 0, 0, []), (10, 8, 4, 0, 0, []), (10, 8, 2, 0, 1, []), (10, 1, 0, 0, 1, []), (10, 2, 1, 0, 1, []), (10, 1, 0, 0, 2, []), (10, 1, 0, 0, 1, []), (10, 1, 0, 0, 1, []), (10, 2, 1, 0, 1, []), (10, 1, 0, 0, 1, []), (10, 1, 0, 0, 1, []), (10, 1, 0, 0, 1, []), (10, 1, 0, 0, 1, []), (10, 1, 0, 0, 1, []), (10, 1, 0, 0, 1, []), (10, 1, 0, 0, 1, []), (10, 1, 0, 0, 1, []), (10, 2, 1, 0, 1, []), (10, 1, 0, 0, 1, []), (10, 1, 0, 0, 1, []), (10, 1, 0, 0, 1, []), (10, 2, 1, 0, 1, []), (10, 2, 0, 0, 1, []), (10, 2, 0, 0, 1, []), (10, 2, 0, 0, 1, []), (10, 1, 0, 0, 1, []), (10, 1, 0, 0, 4, []), (10, 1, 0, 0, 4, []), (10, 2, 0, 0, 3, []), (10, 3, 1, 0, 0, []), (10, 3, 1, 0, 0, []), (10, 2, 0, 0, 0, []), (10, 6, 1, 1, 3, []), (11, 4, 3, 1, 1, [(0, 9, 12, 13), (0, 9, 15, 15)]), (11, 3, 2, 1, 1, [(0, 8, 11, 15)]), (11, 3, 2, 1, 1, [(0, 8, 11, 15)]), (11, 3, 2, 1, 1, [(0, 8, 11, 15)]), (11, 3, 2, 1, 1, [(0, 8, 11, 15)]), (11, 3, 2, 1, 1, [(0, 8, 11, 15)]), (11, 5, 4, 1, 1, [(0, 10, 13, 37), (0, 10, 17, 13), (0, 10, 21, 15)]), (11, 4, 3, 1, 1, [(0, 9, 12, 37), (0, 9, 15, 15)]), (11, 4, 3, 1, 1, [(0, 9, 12, 37)]), (11, 5, 4, 1, 1, [(0, 10, 13, 37), (0, 10, 17, 15)]), (11, 4, 3, 1, 1, [(0, 9, 12, 37), (0, 9, 15, 15)]), (11, 4, 3, 1, 1, [(0, 9, 12, 37), (0, 9, 15, 15)]), (11, 4, 3, 1, 1, [(0, 9, 12, 37), (0, 9, 15, 15)]), (11, 4, 3, 1, 1, [(0, 16, 19, 37)]), (11, 4, 3, 1, 1, [(0, 9, 12, 37), (0, 9, 15, 15)]), (11, 5, 4, 1, 1, [(0, 10, 13, 37), (0, 10, 17, 15)]), (11, 4, 3, 1, 1, [(0, 16, 19, 37), (0, 16, 22, 15)]), (11, 4, 3, 1, 1, [(0, 9, 12, 37), (0, 9, 15, 15)]), (11, 4, 3, 1, 1, [(0, 9, 12, 37), (0, 9, 15, 15)]), (11, 3, 2, 1, 1, [(0, 8, 11, 15)]), (11, 4, 3, 1, 1, [(0, 9, 12, 37)]), (11, 3, 2, 1, 1, [(0, 8, 11, 15)]), (11, 4, 3, 1, 1, [(0, 9, 12, 37)]), (11, 3, 2, 1, 1, [(0, 8, 11, 15)]), (11, 3, 2, 1, 1, [(0, 8, 11, 15)]), (11, 3, 2, 1, 1, [(0, 8, 11, 15)]), (11, 4, 3, 1, 1, [(0, 9, 12, 37), (0, 9, 15, 15)]), (11, 3, 2, 1, 1, [(0, 8, 11, 15)]), (11, 3, 2, 1, 1, [(0, 8, 11, 15)]), (11, 9, 1, 1, 2, [])]
def xown (mi : Nat) : Nat := match xmt[mi]? with
  | some q => q.1
  | none => 999
def xmaxL (mi : Nat) : Nat := match xmt[mi]? with
  | some q => q.2.1
  | none => 0
def xnp (mi : Nat) : Nat := match xmt[mi]? with
  | some q => q.2.2.1
  | none => 0
def xsk (mi : Nat) : Nat := match xmt[mi]? with
  | some q => q.2.2.2.1
  | none => 9
def xrk (mi : Nat) : Nat := match xmt[mi]? with
  | some q => q.2.2.2.2.1
  | none => 9
def xhh (mi : Nat) : List (Nat × Nat × Nat × Nat) := match xmt[mi]? with
  | some q => q.2.2.2.2.2
  | none => []
def xini (mi : Nat) : Bool := Nat.beq (xsk mi) 2
def xfldT : List (List (Nat × Nat × Nat × Nat × Nat)) := [[(31, 7, 0, 0, 1), (91, 7, 1, 2, 1), (95, 5, 0, 2, 1), (22, 4, 0, 2, 1), (15, 4, 1, 2, 1), (9, 0, 0, 2, 1), (21, 0, 1, 2, 1), (26, 0, 2, 2, 1)], [(122, 5, 0, 2, 1), (15, 4, 1, 2, 1), (9, 1, 0, 2, 1), (21, 1, 1, 2, 1), (27, 1, 2, 2, 1), (36, 1, 3, 2, 1), (60, 1, 4, 0, 0), (64, 1, 5, 0, 0), (40, 1, 6, 2, 1), (44, 1, 7, 2, 1), (47, 1, 8, 2, 1), (50, 1, 9, 2, 1), (53, 1, 10, 2, 1), (67, 1, 11, 0, 0)], [(11, 2, 0, 2, 1), (18, 2, 1, 0, 0)], [(14, 3, 0, 2, 1), (24, 3, 1, 2, 1), (28, 3, 2, 0, 0), (32, 3, 3, 0, 0), (35, 3, 4, 0, 0), (38, 3, 5, 0, 0), (41, 3, 6, 0, 0), (44, 3, 7, 0, 0)], [(51, 3, 0, 2, 1), (44, 3, 4, 0, 0), (54, 3, 5, 0, 0), (57, 3, 6, 0, 0), (60, 3, 7, 0, 0), (67, 5, 0, 2, 1), (12, 4, 0, 2, 1), (21, 4, 1, 2, 1), (30, 4, 2, 2, 1), (40, 4, 3, 0, 0)], [(14, 5, 0, 2, 1), (20, 5, 1, 0, 0)], [(48, 3, 0, 2, 1), (45, 3, 3, 0, 0), (14, 6, 0, 2, 1), (23, 6, 1, 2, 1), (35, 6, 2, 0, 0), (39, 6, 3, 0, 0), (42, 6, 4, 0, 0)], [(9, 7, 0, 0, 1), (15, 7, 1, 2, 1), (19, 7, 2, 2, 1), (23, 7, 3, 2, 1), (26, 7, 4, 2, 1), (29, 7, 5, 2, 1), (32, 7, 6, 2, 1), (35, 7, 7, 2, 1), (38, 7, 8, 0, 0), (41, 7, 9, 0, 0), (44, 7, 10, 0, 0), (47, 7, 11, 0, 0), (59, 7, 12, 0, 0), (56, 7, 13, 0, 0)], [(9, 8, 0, 0, 1), (21, 8, 1, 2, 1), (25, 8, 2, 2, 1)], [(163, 3, 0, 2, 1), (202, 3, 2, 0, 0), (193, 3, 3, 0, 0), (213, 3, 4, 0, 0), (216, 3, 5, 0, 0), (219, 3, 6, 0, 0), (222, 3, 7, 0, 0), (183, 4, 0, 2, 1), (129, 6, 0, 2, 1), (159, 6, 1, 2, 1), (225, 6, 2, 0, 0), (228, 6, 3, 0, 0), (231, 6, 4, 0, 0), (14, 9, 0, 2, 1), (22, 9, 1, 2, 1), (30, 9, 2, 2, 1), (37, 9, 3, 2, 1), (46, 9, 4, 2, 1), (53, 9, 5, 2, 1), (60, 9, 6, 2, 1), (64, 9, 7, 2, 1), (70, 9, 8, 2, 1), (74, 9, 9, 1, 0)], [(70, 10, 0, 0, 0), (7, 10, 1, 2, 1), (13, 10, 2, 2, 1), (82, 10, 3, 0, 0), (16, 10, 4, 2, 1), (260, 10, 5, 1, 0), (19, 10, 6, 2, 1), (120, 10, 7, 0, 0), (22, 10, 8, 2, 1), (123, 10, 9, 0, 0), (85, 10, 10, 0, 0), (88, 10, 11, 0, 0), (103, 10, 12, 0, 0), (106, 10, 13, 0, 0), (109, 10, 14, 0, 0), (91, 10, 15, 0, 0), (100, 10, 16, 0, 0), (116, 10, 17, 1, 0), (25, 10, 18, 2, 1), (151, 10, 19, 0, 0), (135, 10, 20, 0, 0), (28, 10, 21, 2, 1), (138, 10, 22, 0, 0), (201, 10, 23, 0, 0), (154, 10, 24, 0, 0), (157, 10, 25, 0, 0), (160, 10, 26, 0, 0), (31, 10, 27, 2, 1), (129, 10, 28, 0, 0), (34, 10, 29, 2, 1), (37, 10, 30, 2, 1), (144, 10, 31, 0, 0), (40, 10, 32, 2, 1), (43, 10, 33, 2, 1), (141, 10, 34, 0, 0), (46, 10, 35, 2, 1), (49, 10, 36, 2, 1), (52, 10, 37, 2, 1), (55, 10, 38, 2, 1), (58, 10, 39, 2, 1), (61, 10, 40, 2, 1), (64, 10, 41, 2, 1), (67, 10, 42, 2, 1), (163, 10, 43, 0, 0), (269, 10, 44, 3, 0)], [], [], []]
def xfld (own i : Nat) : Option (Nat × Nat × Nat × Nat) := match xfldT[own]? with
  | some l => xfin l i
  | none => none
def xcalT : List (List (Nat × Nat)) := [[(27, 2), (50, 34), (54, 64), (57, 65), (60, 35), (64, 3), (86, 45), (99, 52), (37, 66), (103, 30), (107, 62), (111, 61), (41, 31), (114, 42), (117, 63), (82, 1), (120, 46), (67, 4), (123, 75), (128, 47), (132, 5), (47, 67), (70, 6), (135, 37), (73, 7), (139, 38), (142, 39), (76, 68), (79, 36)], [(24, 51), (33, 73), (56, 78), (71, 75), (75, 10), (137, 46), (79, 11), (89, 76), (82, 12), (153, 13), (143, 47), (156, 39), (85, 14), (93, 34), (96, 36), (99, 85), (102, 35), (105, 15), (117, 45), (123, 52), (127, 62), (130, 16), (134, 42), (108, 17), (140, 18), (111, 19), (147, 37), (114, 20), (151, 38)], [(17, 48), (22, 24), (25, 49)], [(11, 73), (20, 74), (47, 77), (51, 28), (55, 30)], [(11, 26), (20, 40), (27, 73), (34, 29), (37, 41), (63, 45), (70, 75), (73, 76), (77, 113), (81, 36), (47, 79), (84, 74), (93, 44)], [(11, 73), (24, 42), (32, 43), (36, 80), (28, 44), (49, 78), (46, 75), (52, 74), (55, 79), (59, 76)], [(11, 73), (22, 26), (27, 77), (31, 27), (51, 75)], [(50, 75), (62, 76), (66, 53), (76, 54), (80, 55), (83, 85), (86, 56), (90, 57), (93, 58), (97, 59), (100, 60), (70, 64), (73, 65)], [(39, 78), (29, 75), (36, 76)], [(11, 73), (18, 74), (27, 51), (36, 32), (43, 0), (52, 8), (59, 48), (69, 21), (92, 75), (96, 52), (100, 61), (104, 62), (250, 49), (188, 87), (247, 22), (255, 93), (260, 101), (272, 102), (282, 103), (177, 76), (197, 88), (268, 104), (349, 105), (205, 89), (352, 106), (210, 28), (355, 90), (358, 91), (361, 92), (364, 94), (367, 95), (370, 96), (373, 98), (264, 107), (126, 108), (276, 109), (138, 110), (279, 111), (154, 112), (340, 113), (81, 79), (286, 114), (180, 115), (234, 33), (111, 63), (343, 1), (289, 86), (292, 116), (108, 117), (295, 118), (114, 69), (298, 119), (117, 70), (301, 120), (120, 71), (304, 121), (123, 72), (307, 122), (310, 123), (237, 9), (313, 124), (316, 84), (319, 99), (323, 125), (78, 127), (134, 23), (141, 80), (150, 78), (168, 134), (184, 50), (241, 25)], [(74, 146), (221, 147), (217, 151), (126, 152), (112, 153), (94, 154), (97, 155), (224, 157), (227, 164), (78, 165), (230, 166), (233, 167), (236, 169), (239, 173), (173, 174), (245, 181), (242, 182), (248, 186), (166, 187), (132, 188), (181, 189), (207, 190), (211, 191), (169, 192), (214, 193), (147, 194), (204, 195), (188, 196), (191, 197), (177, 198), (195, 199), (198, 200), (185, 201), (251, 216), (254, 215), (257, 219), (263, 226), (279, 228), (285, 229), (288, 230), (291, 231)], [(106, 81), (119, 82), (123, 83), (127, 84), (131, 86), (195, 87), (202, 88), (209, 89), (216, 90), (220, 91), (224, 92), (228, 93), (232, 94), (236, 95), (240, 96), (259, 97), (266, 98), (270, 99), (275, 100), (110, 232), (7, 126), (136, 233), (17, 116), (140, 234), (21, 118), (143, 235), (24, 119), (146, 236), (27, 120), (149, 237), (30, 121), (152, 238), (33, 128), (156, 239), (39, 129), (159, 240), (42, 130), (162, 241), (45, 131), (165, 242), (48, 132), (168, 243), (51, 133), (171, 244), (54, 135), (174, 245), (57, 107), (177, 246), (61, 136), (180, 247), (64, 137), (183, 248), (67, 109), (186, 249), (70, 111), (189, 250), (73, 114), (192, 251), (76, 138), (199, 252), (79, 139), (206, 253), (82, 105), (213, 254), (85, 106), (244, 255), (88, 122), (247, 256), (91, 123), (250, 257), (94, 124), (253, 258), (97, 140), (256, 259), (100, 141), (263, 260), (103, 142), (109, 143), (116, 144), (115, 145), (122, 148), (126, 149), (130, 150), (135, 156), (139, 158), (142, 159), (145, 160), (148, 161), (151, 162), (155, 163), (158, 168), (161, 170), (164, 171), (167, 172), (170, 175), (173, 176), (176, 177), (179, 178), (182, 179), (185, 180), (188, 183), (191, 184), (194, 185), (198, 202), (201, 203), (205, 204), (208, 205), (212, 206), (215, 207), (219, 208), (223, 209), (227, 210), (231, 211), (235, 212), (239, 213), (243, 214), (246, 215), (249, 217), (252, 218), (255, 220), (258, 221), (262, 222), (265, 223), (269, 224), (274, 225), (279, 227)], [], []]
def xcal (own i : Nat) : Option Nat := match xcalT[own]? with
  | some l => xfin l i
  | none => none
def xmatT : List (List (Nat × Nat)) := [[], [], [(29, 0)], [], [(88, 0)], [(40, 0)], [], [(103, 0)], [(15, 0), (33, 1)], [(144, 0)], [], [], [], []]
def xmat (own i : Nat) : Option Nat := match xmatT[own]? with
  | some l => xfin l i
  | none => none
def xobjT : List (List (Nat × Nat)) := [[(3, 0)], [(3, 0)], [(3, 0)], [(3, 0)], [(3, 0)], [(3, 0)], [(3, 0)], [(3, 0)], [(3, 0)], [(1, 0)], [(1, 0)], [], [], []]
def xobj (own i : Nat) : Option Nat := match xobjT[own]? with
  | some l => xfin l i
  | none => none
def xclsT : List (List (Nat × Nat)) := [[], [(22, 7), (31, 8)], [(9, 6)], [(9, 8)], [(9, 3), (18, 5), (25, 8)], [(9, 8)], [(9, 8), (20, 3)], [], [], [(7, 8), (25, 7), (34, 4), (41, 0), (50, 1), (57, 6), (67, 2)], [], [(8, 9), (107, 10)], [], []]
def xcls (own i : Nat) : Option Nat := match xclsT[own]? with
  | some l => xfin l i
  | none => none
def xcatT : List (List (Nat × Nat)) := [[], [], [], [], [], [], [], [], [], [(85, 1), (172, 2), (327, 0)], [], [(13, 0), (15, 1), (37, 2)], [], []]
def xcat (own i : Nat) : Option Nat := match xcatT[own]? with
  | some l => xfin l i
  | none => none
def xcstT : List (List (Nat × (Int ⊕ (Option Nat) ⊕ Int64 ⊕ UInt64))) := [[], [(70, .inl 100000)], [], [], [], [], [], [], [], [(258, .inr (.inr (.inl 4349))), (347, .inr (.inr (.inl 31))), (376, .inr (.inr (.inl 1023))), (378, .inr (.inr (.inr 4611686018427387904))), (380, .inr (.inr (.inr 4841369599423283200)))], [(283, .inr (.inr (.inl 4349))), (267, .inr (.inr (.inl 31))), (273, .inr (.inr (.inl 1023))), (275, .inr (.inr (.inr 4611686018427387904))), (277, .inr (.inr (.inr 4841369599423283200)))], [], [], []]
def xcst (own i : Nat) : Option (Int ⊕ (Option Nat) ⊕ Int64 ⊕ UInt64) := match xcstT[own]? with
  | some l => xfin l i
  | none => none
def xthrT : List (Nat × Nat × Nat) := [(105, 7, 1), (106, 12, 2), (108, 10, 2), (110, 21, 1), (117, 22, 1), (126, 16, 1), (127, 12, 0), (128, 26, 1), (132, 18, 1), (134, 12, 1), (137, 15, 2), (139, 12, 2), (141, 14, 1), (142, 7, 1)]
def xthr (mi pc : Nat) : Option Nat := match xthrT.find? (fun q => Nat.beq q.1 mi && Nat.beq q.2.1 pc) with
  | some q => some q.2.2
  | none => none
def xdfT : List (List (Int ⊕ (Option Nat) ⊕ Int64 ⊕ UInt64)) := [[.inr (.inl none), .inr (.inl none), .inr (.inl none)], [.inr (.inl none), .inr (.inl none), .inr (.inl none), .inr (.inl none), .inl 0, .inl 0, .inr (.inl none), .inr (.inl none), .inr (.inl none), .inr (.inl none), .inr (.inl none), .inl 0], [.inr (.inl none), .inl 0], [.inr (.inl none), .inr (.inl none), .inl 0, .inl 0, .inl 0, .inl 0, .inl 0, .inl 0], [.inr (.inl none), .inr (.inl none), .inr (.inl none), .inl 0], [.inr (.inl none), .inl 0], [.inr (.inl none), .inr (.inl none), .inl 0, .inl 0, .inl 0], [.inl 0, .inr (.inl none), .inr (.inl none), .inr (.inl none), .inr (.inl none), .inr (.inl none), .inr (.inl none), .inr (.inl none), .inl 0, .inl 0, .inl 0, .inl 0, .inl 0, .inl 0], [.inl 0, .inr (.inl none), .inr (.inl none)], [.inr (.inl none), .inr (.inl none), .inr (.inl none), .inr (.inl none), .inr (.inl none), .inr (.inl none), .inr (.inl none), .inr (.inl none), .inr (.inl none), .inl 0], [.inl 0, .inr (.inl none), .inr (.inl none), .inl 0, .inr (.inl none), .inl 0, .inr (.inl none), .inl 0, .inr (.inl none), .inl 0, .inl 0, .inl 0, .inl 0, .inl 0, .inl 0, .inl 0, .inl 0, .inl 0, .inr (.inl none), .inl 0, .inl 0, .inr (.inl none), .inl 0, .inl 0, .inl 0, .inl 0, .inl 0, .inr (.inl none), .inl 0, .inr (.inl none), .inr (.inl none), .inl 0, .inr (.inl none), .inr (.inl none), .inl 0, .inr (.inl none), .inr (.inl none), .inr (.inl none), .inr (.inl none), .inr (.inl none), .inr (.inl none), .inr (.inl none), .inr (.inl none), .inl 0, .inr (.inr (.inl 0))]]
def xdf (ci : Nat) : List (Int ⊕ (Option Nat) ⊕ Int64 ⊕ UInt64) := match xdfT[ci]? with
  | some l => l
  | none => []
/-! ===== a small machine over lists: what the methods' bytecode does, with addresses counted from the law's own beginning ===== -/
abbrev xV : Type := Int ⊕ (Option Nat) ⊕ Int64 ⊕ UInt64
abbrev xC : Type := Nat × List xV
abbrev xH : Type := List xC
abbrev xL : Type := Nat → Option xV
abbrev xR : Type := (Option xV ⊕ Nat) × xH × Nat
abbrev xin (x : Int) : Prop := -2147483648 ≤ x ∧ x ≤ 2147483647
def xcat2 : xV → Bool
  | .inr (.inr _) => true
  | _ => false
def xno2 : Option xV → Option xV
  | some (.inr (.inr _)) => none
  | o => o
def xset (lv : xL) (i : Nat) (v : xV) : xL := fun k => if k = i then some v else if k + 1 = i then xno2 (lv k) else lv k
def xset2 (lv : xL) (i : Nat) (v : xV) : xL := fun k => if k = i then some v else if k = i + 1 then none else if k + 1 = i then xno2 (lv k) else lv k
def xclr (lv : xL) (i : Nat) : xL := fun k => if k = i then none else if k + 1 = i then xno2 (lv k) else lv k
def xent : List xV → xL
  | [], _ => none
  | v :: _, 0 => some v
  | v :: vs, k + 1 => if xcat2 v = true then (match k with
    | 0 => none
    | k' + 1 => xent vs k') else xent vs k
/-- the cells of the locals that arguments take -/
def xasz : List xV → Nat
  | [] => 0
  | v :: vs => (if xcat2 v = true then 2 else 1) + xasz vs
def xkd : Nat → xV → Bool
  | 0, .inl _ => true
  | 1, .inl x => x == 0 || x == 1
  | 2, .inr (.inl _) => true
  | 3, .inr (.inr (.inl _)) => true
  | _, _ => false
def xpc (pc : Nat) (off : Int) : Nat := ((pc : Int) + off).toNat
/-- the last n of a stack, in the order in which they were put, and what lies below -/
def xpop (n : Nat) (st : List xV) : Option (List xV × List xV) := if n ≤ st.length then some ((st.take n).reverse, st.drop n) else none
def xcmp {α : Type} (c : ClassFile.Cond) (x y : Int) (a b : α) : α := match c with
  | .eq => if x = y then a else b
  | .ne => if x = y then b else a
  | .lt => if x < y then a else b
  | .ge => if x < y then b else a
  | .gt => if y < x then a else b
  | .le => if y < x then b else a
def xop {α : Type} (mi pc : Nat) (op : Instr) (lv : xL) (st : List xV) (ph : xH) (g : Nat) (K : Nat → xL → List xV → xH → α) (C : Nat → List xV → List xV → α) (Rt : Option xV → α) (Th : Nat → α) (z : α) : α :=
  match op with
  | .iconst n => if -128 ≤ n ∧ n ≤ 127 then K (pc + 1) lv (.inl n :: st) ph else z
  | .bipush n => if -128 ≤ n ∧ n ≤ 127 then K (pc + 2) lv (.inl n :: st) ph else z
  | .sipush n => if -32768 ≤ n ∧ n ≤ 32767 then K (pc + 3) lv (.inl n :: st) ph else z
  | .aconst_null => K (pc + 1) lv (.inr (.inl none) :: st) ph
  | .lconst k => K (pc + 1) lv (.inr (.inr (.inl (Int64.ofNat k))) :: st) ph
  | .dconst k => if k = 0 then K (pc + 1) lv (.inr (.inr (.inr FP.dconst0)) :: st) ph else K (pc + 1) lv (.inr (.inr (.inr FP.dconst1)) :: st) ph
  | .ldc i => match xcst (xown mi) i with
    | some (.inl x) => K (pc + 2) lv (.inl x :: st) ph
    | _ => z
  | .ldc2_w i => match xcst (xown mi) i with
    | some (.inr (.inr v)) => K (pc + 3) lv (.inr (.inr v) :: st) ph
    | _ => z
  | .iload_n k => match lv k with
    | some (.inl x) => K (pc + 1) lv (.inl x :: st) ph
    | _ => z
  | .iload k => match lv k with
    | some (.inl x) => K (pc + 2) lv (.inl x :: st) ph
    | _ => z
  | .aload_n k => match lv k with
    | some (.inr (.inl x)) => K (pc + 1) lv (.inr (.inl x) :: st) ph
    | _ => z
  | .aload k => match lv k with
    | some (.inr (.inl x)) => K (pc + 2) lv (.inr (.inl x) :: st) ph
    | _ => z
  | .lload_n k => match lv k with
    | some (.inr (.inr (.inl x))) => K (pc + 1) lv (.inr (.inr (.inl x)) :: st) ph
    | _ => z
  | .lload k => match lv k with
    | some (.inr (.inr (.inl x))) => K (pc + 2) lv (.inr (.inr (.inl x)) :: st) ph
    | _ => z
  | .dload_n k => match lv k with
    | some (.inr (.inr (.inr x))) => K (pc + 1) lv (.inr (.inr (.inr x)) :: st) ph
    | _ => z
  | .dload k => match lv k with
    | some (.inr (.inr (.inr x))) => K (pc + 2) lv (.inr (.inr (.inr x)) :: st) ph
    | _ => z
  | .istore_n k => match st with
    | .inl x :: st' => if (k : Nat) < xmaxL mi then K (pc + 1) (xset lv k (.inl x)) st' ph else z
    | _ => z
  | .istore k => match st with
    | .inl x :: st' => if k < xmaxL mi then K (pc + 2) (xset lv k (.inl x)) st' ph else z
    | _ => z
  | .astore_n k => match st with
    | .inr (.inl x) :: st' => if (k : Nat) < xmaxL mi then K (pc + 1) (xset lv k (.inr (.inl x))) st' ph else z
    | _ => z
  | .astore k => match st with
    | .inr (.inl x) :: st' => if k < xmaxL mi then K (pc + 2) (xset lv k (.inr (.inl x))) st' ph else z
    | _ => z
  | .lstore_n k => match st with
    | .inr (.inr (.inl x)) :: st' => if (k : Nat) + 1 < xmaxL mi then K (pc + 1) (xset2 lv k (.inr (.inr (.inl x)))) st' ph else z
    | _ => z
  | .lstore k => match st with
    | .inr (.inr (.inl x)) :: st' => if k + 1 < xmaxL mi then K (pc + 2) (xset2 lv k (.inr (.inr (.inl x)))) st' ph else z
    | _ => z
  | .dstore_n k => match st with
    | .inr (.inr (.inr x)) :: st' => if (k : Nat) + 1 < xmaxL mi then K (pc + 1) (xset2 lv k (.inr (.inr (.inr x)))) st' ph else z
    | _ => z
  | .dstore k => match st with
    | .inr (.inr (.inr x)) :: st' => if k + 1 < xmaxL mi then K (pc + 2) (xset2 lv k (.inr (.inr (.inr x)))) st' ph else z
    | _ => z
  | .iinc k n => match lv k with
    | some (.inl x) => if xin (x + n) ∧ k < xmaxL mi then K (pc + 3) (xset lv k (.inl (x + n))) st ph else z
    | _ => z
  | .iadd => match st with
    | .inl y :: .inl x :: st' => if xin (x + y) then K (pc + 1) lv (.inl (x + y) :: st') ph else z
    | _ => z
  | .isub => match st with
    | .inl y :: .inl x :: st' => if xin (x - y) then K (pc + 1) lv (.inl (x - y) :: st') ph else z
    | _ => z
  | .imul => match st with
    | .inl y :: .inl x :: st' => if xin (x * y) then K (pc + 1) lv (.inl (x * y) :: st') ph else z
    | _ => z
  | .idiv => match st with
    | .inl y :: .inl x :: st' => if 0 ≤ x ∧ 0 < y then K (pc + 1) lv (.inl (x / y) :: st') ph else z
    | _ => z
  | .irem => match st with
    | .inl y :: .inl x :: st' => if 0 ≤ x ∧ 0 < y then K (pc + 1) lv (.inl (x % y) :: st') ph else z
    | _ => z
  | .iand => match st with
    | .inl y :: .inl x :: st' => K (pc + 1) lv (.inl (Int32.ofInt x &&& Int32.ofInt y).toInt :: st') ph
    | _ => z
  | .ior => match st with
    | .inl y :: .inl x :: st' => K (pc + 1) lv (.inl (Int32.ofInt x ||| Int32.ofInt y).toInt :: st') ph
    | _ => z
  | .ishl => match st with
    | .inl y :: .inl x :: st' => K (pc + 1) lv (.inl (Int32.ofInt x <<< (Int32.ofInt y &&& 31)).toInt :: st') ph
    | _ => z
  | .i2c => match st with
    | .inl x :: st' => if 0 ≤ x ∧ x ≤ 65535 then K (pc + 1) lv (.inl x :: st') ph else z
    | _ => z
  | .i2l => match st with
    | .inl x :: st' => K (pc + 1) lv (.inr (.inr (.inl (Int64.ofInt x))) :: st') ph
    | _ => z
  | .i2d => match st with
    | .inl x :: st' => K (pc + 1) lv (.inr (.inr (.inr (FP.i2d (Int32.ofInt x)))) :: st') ph
    | _ => z
  | .d2l => match st with
    | .inr (.inr (.inr x)) :: st' => K (pc + 1) lv (.inr (.inr (.inl (FP.d2l x))) :: st') ph
    | _ => z
  | .ladd => match st with
    | .inr (.inr (.inl y)) :: .inr (.inr (.inl x)) :: st' => K (pc + 1) lv (.inr (.inr (.inl (x + y))) :: st') ph
    | _ => z
  | .lsub => match st with
    | .inr (.inr (.inl y)) :: .inr (.inr (.inl x)) :: st' => K (pc + 1) lv (.inr (.inr (.inl (x - y))) :: st') ph
    | _ => z
  | .lmul => match st with
    | .inr (.inr (.inl y)) :: .inr (.inr (.inl x)) :: st' => K (pc + 1) lv (.inr (.inr (.inl (x * y))) :: st') ph
    | _ => z
  | .lshl => match st with
    | .inl y :: .inr (.inr (.inl x)) :: st' => K (pc + 1) lv (.inr (.inr (.inl (x <<< ((Int32.ofInt y).toInt64 &&& 63)))) :: st') ph
    | _ => z
  | .lcmp => match st with
    | .inr (.inr (.inl y)) :: .inr (.inr (.inl x)) :: st' => K (pc + 1) lv (.inl (lg_cmp x y).toInt :: st') ph
    | _ => z
  | .dcmp o => match st with
    | .inr (.inr (.inr y)) :: .inr (.inr (.inr x)) :: st' => K (pc + 1) lv (.inl (Op.cmpValue (FP.dcmp x y) o).toInt :: st') ph
    | _ => z
  | .dsub => match st with
    | .inr (.inr (.inr y)) :: .inr (.inr (.inr x)) :: st' => if FP.dsub x y &&& 0x7fffffffffffffff ≤ 0x7ff0000000000000 then K (pc + 1) lv (.inr (.inr (.inr (FP.dsub x y))) :: st') ph else z
    | _ => z
  | .dmul => match st with
    | .inr (.inr (.inr y)) :: .inr (.inr (.inr x)) :: st' => if FP.dmul x y &&& 0x7fffffffffffffff ≤ 0x7ff0000000000000 then K (pc + 1) lv (.inr (.inr (.inr (FP.dmul x y))) :: st') ph else z
    | _ => z
  | .ddiv => match st with
    | .inr (.inr (.inr y)) :: .inr (.inr (.inr x)) :: st' => if FP.ddiv x y &&& 0x7fffffffffffffff ≤ 0x7ff0000000000000 then K (pc + 1) lv (.inr (.inr (.inr (FP.ddiv x y))) :: st') ph else z
    | _ => z
  | .dup => match st with
    | .inl x :: st' => K (pc + 1) lv (.inl x :: .inl x :: st') ph
    | .inr (.inl x) :: st' => K (pc + 1) lv (.inr (.inl x) :: .inr (.inl x) :: st') ph
    | _ => z
  | .dup2 => match st with
    | .inl y :: .inr (.inl x) :: st' => K (pc + 1) lv (.inl y :: .inr (.inl x) :: .inl y :: .inr (.inl x) :: st') ph
    | _ => z
  | .pop => match st with
    | .inl _ :: st' => K (pc + 1) lv st' ph
    | .inr (.inl _) :: st' => K (pc + 1) lv st' ph
    | _ => z
  | .ifCond c off => match st with
    | .inl x :: st' => xcmp c x 0 (K (xpc pc off) lv st' ph) (K (pc + 3) lv st' ph)
    | _ => z
  | .if_icmp c off => match st with
    | .inl y :: .inl x :: st' => xcmp c x y (K (xpc pc off) lv st' ph) (K (pc + 3) lv st' ph)
    | _ => z
  | .goto off => K (xpc pc off) lv st ph
  | .ifnull off => match st with
    | .inr (.inl none) :: st' => K (xpc pc off) lv st' ph
    | .inr (.inl (some _)) :: st' => K (pc + 3) lv st' ph
    | _ => z
  | .ifnonnull off => match st with
    | .inr (.inl none) :: st' => K (pc + 3) lv st' ph
    | .inr (.inl (some _)) :: st' => K (xpc pc off) lv st' ph
    | _ => z
  | .tableswitch dflt lo hi offs => match st with
    | .inl x :: st' => if x < lo ∨ hi < x then K (xpc pc dflt) lv st' ph else match offs[(x - lo).toNat]? with
      | some off => K (xpc pc off) lv st' ph
      | none => z
    | _ => z
  | .lookupswitch dflt ps => match st with
    | .inl x :: st' => K (xpc pc (Op.lookupswitch.offset ps.toList dflt x)) lv st' ph
    | _ => z
  | .getfield i => match st with
    | .inr (.inl (some a)) :: st' => match xfld (xown mi) i with
      | some (ci, k, _, _) => match ph[a]? with
        | some (t, vs) => if t = ci then match vs[k]? with
          | some v => K (pc + 3) lv (v :: st') ph
          | none => z
          else z
        | none => z
      | none => z
    | _ => z
  | .putfield i => match st with
    | v :: .inr (.inl (some a)) :: st' => match xfld (xown mi) i with
      | some (ci, k, kd, fin) => match ph[a]? with
        | some (t, vs) => if t = ci ∧ k < vs.length ∧ xkd kd v = true ∧ (fin = 0 ∨ (xini mi = true ∧ xown mi = ci)) then K (pc + 3) lv st' (ph.set a (t, vs.set k v)) else z
        | none => z
      | none => z
    | _ => z
  | .iaload => match st with
    | .inl i :: .inr (.inl (some a)) :: st' => match ph[a]? with
      | some (t, vs) => if (t = 100 ∨ t = 200) ∧ 0 ≤ i then match vs[i.toNat]? with
        | some (.inl x) => K (pc + 1) lv (.inl x :: st') ph
        | _ => z
        else z
      | none => z
    | _ => z
  | .caload => match st with
    | .inl i :: .inr (.inl (some a)) :: st' => match ph[a]? with
      | some (t, vs) => if t = 101 ∧ 0 ≤ i then match vs[i.toNat]? with
        | some (.inl x) => K (pc + 1) lv (.inl x :: st') ph
        | _ => z
        else z
      | none => z
    | _ => z
  | .laload => match st with
    | .inl i :: .inr (.inl (some a)) :: st' => match ph[a]? with
      | some (t, vs) => if t = 102 ∧ 0 ≤ i then match vs[i.toNat]? with
        | some (.inr (.inr (.inl x))) => K (pc + 1) lv (.inr (.inr (.inl x)) :: st') ph
        | _ => z
        else z
      | none => z
    | _ => z
  | .aaload => match st with
    | .inl i :: .inr (.inl (some a)) :: st' => match ph[a]? with
      | some (t, vs) => if t = 103 ∧ 0 ≤ i then match vs[i.toNat]? with
        | some (.inr (.inl x)) => K (pc + 1) lv (.inr (.inl x) :: st') ph
        | _ => z
        else z
      | none => z
    | _ => z
  | .iastore => match st with
    | .inl x :: .inl i :: .inr (.inl (some a)) :: st' => match ph[a]? with
      | some (t, vs) => if t = 100 ∧ 0 ≤ i ∧ i < vs.length then K (pc + 1) lv st' (ph.set a (t, vs.set i.toNat (.inl x))) else z
      | none => z
    | _ => z
  | .castore => match st with
    | .inl x :: .inl i :: .inr (.inl (some a)) :: st' => match ph[a]? with
      | some (t, vs) => if t = 101 ∧ 0 ≤ i ∧ i < vs.length ∧ 0 ≤ x ∧ x ≤ 65535 then K (pc + 1) lv st' (ph.set a (t, vs.set i.toNat (.inl x))) else z
      | none => z
    | _ => z
  | .lastore => match st with
    | .inr (.inr (.inl x)) :: .inl i :: .inr (.inl (some a)) :: st' => match ph[a]? with
      | some (t, vs) => if t = 102 ∧ 0 ≤ i ∧ i < vs.length then K (pc + 1) lv st' (ph.set a (t, vs.set i.toNat (.inr (.inr (.inl x))))) else z
      | none => z
    | _ => z
  | .aastore => match st with
    | .inr (.inl (some v)) :: .inl i :: .inr (.inl (some a)) :: st' => match ph[a]? with
      | some (t, vs) => match ph[v]? with
        | some (tv, _) => if t = 103 ∧ tv = 6 ∧ 0 ≤ i ∧ i < vs.length then K (pc + 1) lv st' (ph.set a (t, vs.set i.toNat (.inr (.inl (some v))))) else z
        | none => z
      | none => z
    | _ => z
  | .arraylength => match st with
    | .inr (.inl (some a)) :: st' => match ph[a]? with
      | some (t, vs) => if 100 ≤ t ∧ (vs.length : Int) ≤ 2147483647 then K (pc + 1) lv (.inl (vs.length : Int) :: st') ph else z
      | none => z
    | _ => z
  | .new i => match xthr mi pc with
    | some E => if st = [] then Th E else z
    | none => match xcls (xown mi) i with
      | some ci => if g = 0 then K (pc + 3) lv (.inr (.inl (some ph.length)) :: st) (ph ++ [(ci, xdf ci)]) else z
      | none => z
  | .newarray ty => match st with
    | .inl n :: st' => if g = 0 ∧ 0 ≤ n ∧ n ≤ 100000 then match ty with
      | .int => K (pc + 2) lv (.inr (.inl (some ph.length)) :: st') (ph ++ [(100, List.replicate n.toNat (.inl 0))])
      | .char => K (pc + 2) lv (.inr (.inl (some ph.length)) :: st') (ph ++ [(101, List.replicate n.toNat (.inl 0))])
      | .long => K (pc + 2) lv (.inr (.inl (some ph.length)) :: st') (ph ++ [(102, List.replicate n.toNat (.inr (.inr (.inl 0))))])
      | _ => z
      else z
    | _ => z
  | .anewarray i => match st with
    | .inl n :: st' => if g = 0 ∧ 0 ≤ n ∧ n ≤ 100000 ∧ xcls (xown mi) i = some 6 then K (pc + 3) lv (.inr (.inl (some ph.length)) :: st') (ph ++ [(103, List.replicate n.toNat (.inr (.inl none)))]) else z
    | _ => z
  | .invokevirtual i => match xcal (xown mi) i with
    | some mi' => match xpop (xnp mi') st with
      | some (as, .inr (.inl (some a)) :: rest) => match ph[a]? with
        | some (t, _) => if t = xown mi' ∧ xsk mi' = 0 ∧ rest.length ≤ 4 ∧ xasz (.inr (.inl (some a)) :: as) ≤ xmaxL mi' then C mi' (.inr (.inl (some a)) :: as) rest else z
        | none => z
      | _ => z
    | none => z
  | .invokespecial i => match xobj (xown mi) i with
    | some _ => match st with
      | .inr (.inl (some _)) :: st' => if st'.length ≤ 4 then K (pc + 3) lv st' ph else z
      | _ => z
    | none => match xcal (xown mi) i with
      | some mi' => match xpop (xnp mi') st with
        | some (as, .inr (.inl (some a)) :: rest) => if xsk mi' = 2 ∧ rest.length ≤ 4 ∧ xasz (.inr (.inl (some a)) :: as) ≤ xmaxL mi' then C mi' (.inr (.inl (some a)) :: as) rest else z
        | _ => z
      | none => z
  | .invokestatic i => match xmat (xown mi) i with
    | some w => match st with
      | .inl y :: .inl x :: st' => if st'.length ≤ 4 then (if w = 0 then K (pc + 3) lv (.inl (if x < y then y else x) :: st') ph else K (pc + 3) lv (.inl (if y < x then y else x) :: st') ph) else z
      | _ => z
    | none => match xcal (xown mi) i with
      | some mi' => match xpop (xnp mi') st with
        | some (as, rest) => if xsk mi' = 1 ∧ rest.length ≤ 4 ∧ xasz as ≤ xmaxL mi' then C mi' as rest else z
        | _ => z
      | none => z
  | .ireturn => match st with
    | [.inl x] => if xrk mi = 1 ∨ (xrk mi = 2 ∧ (x = 0 ∨ x = 1)) then Rt (some (.inl x)) else z
    | _ => z
  | .lreturn => match st with
    | [.inr (.inr (.inl x))] => if xrk mi = 3 then Rt (some (.inr (.inr (.inl x)))) else z
    | _ => z
  | .dreturn => match st with
    | [.inr (.inr (.inr x))] => if xrk mi = 4 then Rt (some (.inr (.inr (.inr x)))) else z
    | _ => z
  | .return_ => match st with
    | [] => if xrk mi = 0 then Rt none else z
    | _ => z
  | _ => z
/-- where an exception of kind E that a call at pc throws is caught: behind the handler's store, which cell of the locals it goes to -/
def xhan (mi pc E : Nat) : Option (Nat × Nat) := match (xhh mi).find? (fun q => decide (q.1 ≤ pc) && decide (pc < q.2.1) && decide (xcat (xown mi) q.2.2.2 = some E)) with
  | some q => match xfetch mi q.2.2.1 with
    | some (.astore_n k) => some (q.2.2.1 + 1, (k : Nat))
    | some (.astore k) => some (q.2.2.1 + 2, k)
    | _ => none
  | none => none
def xr : Nat → Nat → Nat → Nat → xL → List xV → xH → Nat → Option xR
  | 0, _, _, _, _, _, _, _ => none
  | n + 1, d, mi, pc, lv, st, ph, g => match xfetch mi pc with
    | none => none
    | some op => xop mi pc op lv st ph g (fun pc' lv' st' ph' => xr n d mi pc' lv' st' ph' g)
      (fun mi' as rest => match d with
        | 0 => none
        | d' + 1 => match xr n d' mi' 0 (xent as) [] ph g with
          | none => none
          | some (.inl v, ph1, g1) => xr n (d' + 1) mi (pc + 3) lv (v.toList ++ rest) ph1 g1
          | some (.inr E, ph1, g1) => match xhan mi pc E with
            | some (pc', k) => xr n (d' + 1) mi pc' (xclr lv k) [] ph1 g1
            | none => some (.inr E, ph1, g1))
      (fun v => some (.inl v, ph, g)) (fun E => some (.inr E, ph, g + 1)) none
end
section
/-! ===== a step picks one way on: and what follows for runs ===== -/
abbrev xD : Type := (Nat × xL × List xV × xH) ⊕ (Nat × List xV × List xV) ⊕ (Option xV) ⊕ Nat ⊕ Unit
def xcase {α : Type} (K : Nat → xL → List xV → xH → α) (C : Nat → List xV → List xV → α) (Rt : Option xV → α) (Th : Nat → α) (z : α) : xD → α
  | .inl q => K q.1 q.2.1 q.2.2.1 q.2.2.2
  | .inr (.inl q) => C q.1 q.2.1 q.2.2
  | .inr (.inr (.inl v)) => Rt v
  | .inr (.inr (.inr (.inl e))) => Th e
  | .inr (.inr (.inr (.inr _))) => z
def xdir (mi pc : Nat) (op : Instr) (lv : xL) (st : List xV) (ph : xH) (g : Nat) : xD := xop mi pc op lv st ph g (fun a b c e => .inl (a, b, c, e)) (fun a b c => .inr (.inl (a, b, c))) (fun v => .inr (.inr (.inl v))) (fun e => .inr (.inr (.inr (.inl e)))) (.inr (.inr (.inr (.inr ()))))
set_option maxHeartbeats 4000000 in
set_option maxRecDepth 100000 in
theorem xop_dir {α : Type} (mi pc : Nat) (op : Instr) (lv : xL) (st : List xV) (ph : xH) (g : Nat) (K : Nat → xL → List xV → xH → α) (C : Nat → List xV → List xV → α) (Rt : Option xV → α) (Th : Nat → α) (z : α) :
    xop mi pc op lv st ph g K C Rt Th z = xcase K C Rt Th z (xdir mi pc op lv st ph g) := by
  unfold xdir
  cases op <;> simp only [xop, xcmp] <;> (repeat' split) <;> rfl
def xcont (x : Nat → Nat → Nat → Nat → xL → List xV → xH → Nat → Option xR) (n d mi pc : Nat) (lv : xL) (ph : xH) (g : Nat) (mi' : Nat) (as rest : List xV) : Option xR := match d with
  | 0 => none
  | d' + 1 => match x n d' mi' 0 (xent as) [] ph g with
    | none => none
    | some (.inl v, ph1, g1) => x n (d' + 1) mi (pc + 3) lv (v.toList ++ rest) ph1 g1
    | some (.inr E, ph1, g1) => match xhan mi pc E with
      | some (pc', k) => x n (d' + 1) mi pc' (xclr lv k) [] ph1 g1
      | none => some (.inr E, ph1, g1)
theorem xr_succ (n d mi pc : Nat) (lv : xL) (st : List xV) (ph : xH) (g : Nat) {op : Instr} (hf : xfetch mi pc = some op) :
    xr (n + 1) d mi pc lv st ph g = xcase (fun pc' lv' st' ph' => xr n d mi pc' lv' st' ph' g) (xcont xr n d mi pc lv ph g) (fun v => some (.inl v, ph, g)) (fun E => some (.inr E, ph, g + 1)) none (xdir mi pc op lv st ph g) := by
  rw [xr, hf]
  simp only
  rw [xop_dir]
  rfl
theorem xr_none (n d mi pc : Nat) (lv : xL) (st : List xV) (ph : xH) (g : Nat) (hf : xfetch mi pc = none) : xr (n + 1) d mi pc lv st ph g = none := by
  rw [xr, hf]
theorem xr_step1 : ∀ (n d mi pc : Nat) (lv : xL) (st : List xV) (ph : xH) (g : Nat) (r : xR), xr n d mi pc lv st ph g = some r → xr (n + 1) d mi pc lv st ph g = some r := by
  intro n
  induction n with
  | zero => intro d mi pc lv st ph g r h; cases h
  | succ n ih =>
    intro d mi pc lv st ph g r h
    cases hf : xfetch mi pc with
    | none => rw [xr_none n d mi pc lv st ph g hf] at h; cases h
    | some op =>
      rw [xr_succ n d mi pc lv st ph g hf] at h
      rw [xr_succ (n + 1) d mi pc lv st ph g hf]
      cases hd : xdir mi pc op lv st ph g with
      | inl q => rw [hd] at h; exact ih _ _ _ _ _ _ _ _ h
      | inr q =>
        cases q with
        | inl q =>
          rw [hd] at h
          simp only [xcase, xcont] at h ⊢
          cases d with
          | zero => cases h
          | succ d' =>
            simp only at h ⊢
            cases hc : xr n d' q.1 0 (xent q.2.1) [] ph g with
            | none => rw [hc] at h; cases h
            | some r1 =>
              rw [ih _ _ _ _ _ _ _ _ hc]
              rw [hc] at h
              obtain ⟨o, ph1, g1⟩ := r1
              cases o with
              | inl v => exact ih _ _ _ _ _ _ _ _ h
              | inr E =>
                simp only at h ⊢
                cases hh : xhan mi pc E with
                | none => rw [hh] at h; exact h
                | some w => rw [hh] at h; exact ih _ _ _ _ _ _ _ _ h
        | inr q =>
          cases q with
          | inl v => rw [hd] at h; exact h
          | inr q =>
            cases q with
            | inl E => rw [hd] at h; exact h
            | inr u => rw [hd] at h; cases h
theorem xr_mono {n k d mi pc : Nat} {lv : xL} {st : List xV} {ph : xH} {g : Nat} {r : xR} (h : xr n d mi pc lv st ph g = some r) : xr (n + k) d mi pc lv st ph g = some r := by
  induction k with
  | zero => exact h
  | succ k ih => exact xr_step1 _ _ _ _ _ _ _ _ _ ih
def xT (d mi pc : Nat) (lv : xL) (st : List xV) (ph : xH) (g : Nat) (Q : xR → Prop) : Prop := ∃ (n : Nat) (r : xR), xr n d mi pc lv st ph g = some r ∧ Q r
def xTC (d mi : Nat) (as : List xV) (ph : xH) (g : Nat) (Q : xR → Prop) : Prop := xT d mi 0 (xent as) [] ph g Q
/-- behind a call -/
def xKc (d mi pc : Nat) (lv : xL) (rest : List xV) (Q : xR → Prop) : xR → Prop
  | (.inl v, ph1, g1) => xT d mi (pc + 3) lv (v.toList ++ rest) ph1 g1 Q
  | (.inr E, ph1, g1) => match xhan mi pc E with
    | some (pc', k) => xT d mi pc' (xclr lv k) [] ph1 g1 Q
    | none => Q (.inr E, ph1, g1)
def xTk (d mi pc : Nat) (lv : xL) (ph : xH) (g : Nat) (Q : xR → Prop) (mi' : Nat) (as rest : List xV) : Prop := match d with
  | 0 => False
  | d' + 1 => xTC d' mi' as ph g (xKc (d' + 1) mi pc lv rest Q)
theorem xT_dir {d mi pc : Nat} {lv : xL} {st : List xV} {ph : xH} {g : Nat} {Q : xR → Prop} {op : Instr} (hf : xfetch mi pc = some op) :
    xT d mi pc lv st ph g Q ↔ xcase (fun pc' lv' st' ph' => xT d mi pc' lv' st' ph' g Q) (xTk d mi pc lv ph g Q) (fun v => Q (.inl v, ph, g)) (fun E => Q (.inr E, ph, g + 1)) False (xdir mi pc op lv st ph g) := by
  have key : xT d mi pc lv st ph g Q ↔ ∃ (n : Nat) (r : xR), xr (n + 1) d mi pc lv st ph g = some r ∧ Q r := by
    constructor
    · rintro ⟨n, r, h, hq⟩
      exact ⟨n, r, xr_step1 _ _ _ _ _ _ _ _ _ h, hq⟩
    · rintro ⟨n, r, h, hq⟩
      exact ⟨n + 1, r, h, hq⟩
  rw [key]
  simp only [xr_succ _ d mi pc lv st ph g hf]
  cases hd : xdir mi pc op lv st ph g with
  | inl q => exact Iff.rfl
  | inr q =>
    cases q with
    | inl q =>
      simp only [xcase, xcont, xTk]
      cases d with
      | zero => simp
      | succ d' =>
        simp only [xTC]
        constructor
        · rintro ⟨n, r, h, hq⟩
          cases hc : xr n d' q.1 0 (xent q.2.1) [] ph g with
          | none => rw [hc] at h; cases h
          | some r1 =>
            rw [hc] at h
            refine ⟨n, r1, hc, ?_⟩
            obtain ⟨o, ph1, g1⟩ := r1
            cases o with
            | inl v => exact ⟨n, r, h, hq⟩
            | inr E =>
              simp only [xKc] at h ⊢
              cases hh : xhan mi pc E with
              | none => rw [hh] at h; cases h; exact hq
              | some w => rw [hh] at h; exact ⟨n, r, h, hq⟩
        · rintro ⟨n, r1, hc, hk⟩
          obtain ⟨o, ph1, g1⟩ := r1
          cases o with
          | inl v =>
            obtain ⟨n2, r, h, hq⟩ := hk
            refine ⟨n + n2, r, ?_, hq⟩
            rw [xr_mono (k := n2) hc]
            simp only
            rw [Nat.add_comm]
            exact xr_mono h
          | inr E =>
            simp only [xKc] at hk
            cases hh : xhan mi pc E with
            | none =>
              rw [hh] at hk
              refine ⟨n, (.inr E, ph1, g1), ?_, hk⟩
              rw [hc]
              simp only [hh]
            | some w =>
              rw [hh] at hk
              obtain ⟨n2, r, h, hq⟩ := hk
              refine ⟨n + n2, r, ?_, hq⟩
              rw [xr_mono (k := n2) hc]
              simp only [hh]
              rw [Nat.add_comm]
              exact xr_mono h
    | inr q =>
      cases q with
      | inl v => simp [xcase]
      | inr q =>
        cases q with
        | inl E => simp [xcase]
        | inr u => simp [xcase]
theorem xT_op {d mi pc : Nat} {lv : xL} {st : List xV} {ph : xH} {g : Nat} {Q : xR → Prop} {op : Instr} (hf : xfetch mi pc = some op) :
    xT d mi pc lv st ph g Q ↔ xop mi pc op lv st ph g (fun pc' lv' st' ph' => xT d mi pc' lv' st' ph' g Q) (xTk d mi pc lv ph g Q) (fun v => Q (.inl v, ph, g)) (fun E => Q (.inr E, ph, g + 1)) False := by
  rw [xop_dir]
  exact xT_dir hf
theorem xr_det {n1 n2 d mi pc : Nat} {lv : xL} {st : List xV} {ph : xH} {g : Nat} {r1 r2 : xR} (h1 : xr n1 d mi pc lv st ph g = some r1) (h2 : xr n2 d mi pc lv st ph g = some r2) : r1 = r2 := by
  have a := xr_mono (k := n2) h1
  have b := xr_mono (k := n1) h2
  rw [Nat.add_comm] at b
  exact Option.some.inj (a.symm.trans b)
/-- a run whose end is known -/
theorem xT_iff {d mi pc : Nat} {lv : xL} {st : List xV} {ph : xH} {g : Nat} {r : xR} (h : xT d mi pc lv st ph g (fun x => x = r)) (Q : xR → Prop) : xT d mi pc lv st ph g Q ↔ Q r := by
  obtain ⟨n, r1, h1, rfl⟩ := h
  constructor
  · rintro ⟨n2, r2, h2, hq⟩
    rw [xr_det h1 h2]; exact hq
  · intro hq
    exact ⟨n, _, h1, hq⟩
theorem xT_imp {d mi pc : Nat} {lv : xL} {st : List xV} {ph : xH} {g : Nat} {Q Q' : xR → Prop} (h : xT d mi pc lv st ph g Q) (k : ∀ r, Q r → Q' r) : xT d mi pc lv st ph g Q' := by
  obtain ⟨n, r, h1, h2⟩ := h
  exact ⟨n, r, h1, k r h2⟩
end
section
/-! ===== what the tables say of the words: by program, each by its place ===== -/
def xG (w : Cond) : Prop := w ∈ lw_tbl ∧ goodWord w = true
theorem xg (i : Nat) {w : Cond} (h : lw_tbl[i]? = some w) (hg : goodWord w = true) : xG w := ⟨List.mem_of_getElem? h, hg⟩
theorem xh1 (i : Nat) {w : Cond} (h : tables_1_1[i]? = some w) : w ∈ lw_tbl := List.mem_append_right _ (List.mem_append_left _ (List.mem_of_getElem? h))
theorem xg1 (i : Nat) {w : Cond} (h : tables_1_1[i]? = some w) (hg : goodWord w = true) : xG w := ⟨xh1 i h, hg⟩
theorem xh2 (i : Nat) {w : Cond} (h : tables_1_2[i]? = some w) : w ∈ lw_tbl := List.mem_append_right _ (List.mem_append_right _ (List.mem_append_left _ (List.mem_of_getElem? h)))
theorem xg2 (i : Nat) {w : Cond} (h : tables_1_2[i]? = some w) (hg : goodWord w = true) : xG w := ⟨xh2 i h, hg⟩
theorem xh3 (i : Nat) {w : Cond} (h : tables_1_3[i]? = some w) : w ∈ lw_tbl := List.mem_append_right _ (List.mem_append_right _ (List.mem_append_right _ (List.mem_append_left _ (List.mem_of_getElem? h))))
theorem xg3 (i : Nat) {w : Cond} (h : tables_1_3[i]? = some w) (hg : goodWord w = true) : xG w := ⟨xh3 i h, hg⟩
theorem xh4 (i : Nat) {w : Cond} (h : tables_1_4[i]? = some w) : w ∈ lw_tbl := List.mem_append_right _ (List.mem_append_right _ (List.mem_append_right _ (List.mem_append_right _ (List.mem_append_left _ (List.mem_of_getElem? h)))))
theorem xg4 (i : Nat) {w : Cond} (h : tables_1_4[i]? = some w) (hg : goodWord w = true) : xG w := ⟨xh4 i h, hg⟩
theorem xh5 (i : Nat) {w : Cond} (h : tables_1_5[i]? = some w) : w ∈ lw_tbl := List.mem_append_right _ (List.mem_append_right _ (List.mem_append_right _ (List.mem_append_right _ (List.mem_append_right _ (List.mem_append_left _ (List.mem_of_getElem? h))))))
theorem xg5 (i : Nat) {w : Cond} (h : tables_1_5[i]? = some w) (hg : goodWord w = true) : xG w := ⟨xh5 i h, hg⟩
theorem xh6 (i : Nat) {w : Cond} (h : tables_1_6[i]? = some w) : w ∈ lw_tbl := List.mem_append_right _ (List.mem_append_right _ (List.mem_append_right _ (List.mem_append_right _ (List.mem_append_right _ (List.mem_append_right _ (List.mem_append_left _ (List.mem_of_getElem? h)))))))
theorem xg6 (i : Nat) {w : Cond} (h : tables_1_6[i]? = some w) (hg : goodWord w = true) : xG w := ⟨xh6 i h, hg⟩
theorem xh7 (i : Nat) {w : Cond} (h : tables_1_7[i]? = some w) : w ∈ lw_tbl := List.mem_append_right _ (List.mem_append_right _ (List.mem_append_right _ (List.mem_append_right _ (List.mem_append_right _ (List.mem_append_right _ (List.mem_append_right _ (List.mem_of_getElem? h)))))))
theorem xg7 (i : Nat) {w : Cond} (h : tables_1_7[i]? = some w) (hg : goodWord w = true) : xG w := ⟨xh7 i h, hg⟩
theorem xfin_mem {α : Type} {l : List (Nat × α)} {p : Nat} {a : α} (h : xfin l p = some a) : (p, a) ∈ l := by
  induction l with
  | nil => cases h
  | cons q r ih =>
    obtain ⟨b, o⟩ := q
    simp only [xfin] at h
    cases hb : Nat.beq b p with
    | true =>
      rw [hb] at h
      simp only [cond_true, Option.some.injEq] at h
      subst h
      rw [Nat.eq_of_beq_eq_true hb]
      exact List.mem_cons_self
    | false =>
      rw [hb] at h
      exact List.mem_cons_of_mem _ (ih h)
theorem xfind_mem {l : List (Nat × Instr)} {p : Nat} {a : Instr} (h : xfind l p = some a) : (p, a) ∈ l := by
  induction l with
  | nil => cases h
  | cons q r ih =>
    obtain ⟨b, o⟩ := q
    simp only [xfind] at h
    cases hb : Nat.beq b p with
    | true =>
      rw [hb] at h
      simp only [cond_true, Option.some.injEq] at h
      subst h
      rw [Nat.eq_of_beq_eq_true hb]
      exact List.mem_cons_self
    | false =>
      rw [hb] at h
      exact List.mem_cons_of_mem _ (ih h)
def xyt : List (MethodName × ByteArray × Option FieldType) := [(⟨"TemplateScopes$ByParts", "<init>", "(LTemplateScopes$Rendering;)V"⟩, prog_2_method_1_code, (Option.none : Option Jvm.ClassFile.FieldType)), (⟨"TemplateScopes$ByParts", "runList", "(LTemplateScopes$Template;III)I"⟩, prog_2_method_2_code, (Option.some Jvm.ClassFile.FieldType.int)), (⟨"TemplateScopes$ByParts", "runPart", "(LTemplateScopes$Template;II)I"⟩, prog_2_method_3_code, (Option.some Jvm.ClassFile.FieldType.int)), (⟨"TemplateScopes$ByParts", "runIncluded", "(LTemplateScopes$Template;II)I"⟩, prog_2_method_5_code, (Option.some Jvm.ClassFile.FieldType.int)), (⟨"TemplateScopes$ByParts", "runLoop", "(LTemplateScopes$Template;II)I"⟩, prog_2_method_6_code, (Option.some Jvm.ClassFile.FieldType.int)), (⟨"TemplateScopes$ByParts", "runWithin", "(LTemplateScopes$Template;II)I"⟩, prog_2_method_4_code, (Option.some Jvm.ClassFile.FieldType.int)), (⟨"TemplateScopes$ByParts", "runCondition", "(LTemplateScopes$Template;II)I"⟩, prog_2_method_7_code, (Option.some Jvm.ClassFile.FieldType.int)), (⟨"TemplateScopes$ByParts", "runSetting", "(LTemplateScopes$Template;II)I"⟩, prog_2_method_8_code, (Option.some Jvm.ClassFile.FieldType.int)), (⟨"TemplateScopes$ByText", "<init>", "(LTemplateScopes$Rendering;)V"⟩, prog_3_method_1_code, (Option.none : Option Jvm.ClassFile.FieldType)), (⟨"TemplateScopes$ByText", "run", "(LTemplateScopes$Texts;)V"⟩, prog_3_method_2_code, (Option.none : Option Jvm.ClassFile.FieldType)), (⟨"TemplateScopes$ByText", "endIncluded", "()Z"⟩, prog_3_method_6_code, (Option.some Jvm.ClassFile.FieldType.boolean)), (⟨"TemplateScopes$ByText", "codeAhead", "(I)I"⟩, prog_3_method_3_code, (Option.some Jvm.ClassFile.FieldType.int)), (⟨"TemplateScopes$ByText", "endBlock", "()Z"⟩, prog_3_method_10_code, (Option.some Jvm.ClassFile.FieldType.boolean)), (⟨"TemplateScopes$ByText", "beginNextPass", "(I)Z"⟩, prog_3_method_11_code, (Option.some Jvm.ClassFile.FieldType.boolean)), (⟨"TemplateScopes$ByText", "beginPart", "()I"⟩, prog_3_method_4_code, (Option.some Jvm.ClassFile.FieldType.int)), (⟨"TemplateScopes$ByText", "beginIncluded", "(I)I"⟩, prog_3_method_5_code, (Option.some Jvm.ClassFile.FieldType.int)), (⟨"TemplateScopes$ByText", "push", "(III)Z"⟩, prog_3_method_12_code, (Option.some Jvm.ClassFile.FieldType.boolean)), (⟨"TemplateScopes$ByText", "beginLoop", "(I)I"⟩, prog_3_method_7_code, (Option.some Jvm.ClassFile.FieldType.int)), (⟨"TemplateScopes$ByText", "skipBlock", "()V"⟩, prog_3_method_13_code, (Option.none : Option Jvm.ClassFile.FieldType)), (⟨"TemplateScopes$ByText", "beginCondition", "(I)I"⟩, prog_3_method_8_code, (Option.some Jvm.ClassFile.FieldType.int)), (⟨"TemplateScopes$ByText", "beginSetting", "(I)I"⟩, prog_3_method_9_code, (Option.some Jvm.ClassFile.FieldType.int)), (⟨"TemplateScopes$History", "<init>", "()V"⟩, prog_4_method_1_code, (Option.none : Option Jvm.ClassFile.FieldType)), (⟨"TemplateScopes$History", "size", "()I"⟩, prog_4_method_2_code, (Option.some Jvm.ClassFile.FieldType.int)), (⟨"TemplateScopes$History", "push", "(LTemplateScopes$State;)V"⟩, prog_4_method_3_code, (Option.none : Option Jvm.ClassFile.FieldType)), (⟨"TemplateScopes$History", "dropOldest", "()V"⟩, prog_4_method_5_code, (Option.none : Option Jvm.ClassFile.FieldType)), (⟨"TemplateScopes$History", "pop", "(LTemplateScopes$State;)Z"⟩, prog_4_method_4_code, (Option.some Jvm.ClassFile.FieldType.boolean)), (⟨"TemplateScopes$Outcome", "<init>", "()V"⟩, prog_5_method_1_code, (Option.none : Option Jvm.ClassFile.FieldType)), (⟨"TemplateScopes$Outcome", "copyFrom", "(LTemplateScopes$Outcome;)V"⟩, prog_5_method_3_code, (Option.none : Option Jvm.ClassFile.FieldType)), (⟨"TemplateScopes$Outcome", "placeAt", "(I)I"⟩, prog_5_method_4_code, (Option.some Jvm.ClassFile.FieldType.int)), (⟨"TemplateScopes$Outcome", "begin", "()V"⟩, prog_5_method_2_code, (Option.none : Option Jvm.ClassFile.FieldType)), (⟨"TemplateScopes$Outcome", "setPlace", "(II)V"⟩, prog_5_method_5_code, (Option.none : Option Jvm.ClassFile.FieldType)), (⟨"TemplateScopes$Outcome", "fail", "(III)V"⟩, prog_5_method_6_code, (Option.none : Option Jvm.ClassFile.FieldType)), (⟨"TemplateScopes$Rendering", "<init>", "()V"⟩, prog_6_method_1_code, (Option.none : Option Jvm.ClassFile.FieldType)), (⟨"TemplateScopes$Rendering", "begin", "(LTemplateScopes$Texts;I)V"⟩, prog_6_method_2_code, (Option.none : Option Jvm.ClassFile.FieldType)), (⟨"TemplateScopes$Rendering", "countStep", "()I"⟩, prog_6_method_3_code, (Option.some Jvm.ClassFile.FieldType.int)), (⟨"TemplateScopes$Rendering", "printValue", "(II)I"⟩, prog_6_method_5_code, (Option.some Jvm.ClassFile.FieldType.int)), (⟨"TemplateScopes$Rendering", "print", "(II)I"⟩, prog_6_method_4_code, (Option.some Jvm.ClassFile.FieldType.int)), (⟨"TemplateScopes$Rendering", "holds", "(I)Z"⟩, prog_6_method_6_code, (Option.some Jvm.ClassFile.FieldType.boolean)), (⟨"TemplateScopes$Rendering", "beginSetting", "()I"⟩, prog_6_method_7_code, (Option.some Jvm.ClassFile.FieldType.int)), (⟨"TemplateScopes$Rendering", "endSetting", "(I)V"⟩, prog_6_method_8_code, (Option.none : Option Jvm.ClassFile.FieldType)), (⟨"TemplateScopes$Scopes", "<init>", "()V"⟩, prog_7_method_1_code, (Option.none : Option Jvm.ClassFile.FieldType)), (⟨"TemplateScopes$Scopes", "begin", "(LTemplateScopes$Texts;I)V"⟩, prog_7_method_2_code, (Option.none : Option Jvm.ClassFile.FieldType)), (⟨"TemplateScopes$Scopes", "openOne", "()Z"⟩, prog_7_method_3_code, (Option.some Jvm.ClassFile.FieldType.boolean)), (⟨"TemplateScopes$Scopes", "innermostRow", "(I)I"⟩, prog_7_method_8_code, (Option.some Jvm.ClassFile.FieldType.int)), (⟨"TemplateScopes$Scopes", "give", "(ILTemplateScopes$Texts;I)V"⟩, prog_7_method_6_code, (Option.none : Option Jvm.ClassFile.FieldType)), (⟨"TemplateScopes$Scopes", "rowOf", "(I)I"⟩, prog_7_method_5_code, (Option.some Jvm.ClassFile.FieldType.int)), (⟨"TemplateScopes$Scopes", "closeOne", "()V"⟩, prog_7_method_4_code, (Option.none : Option Jvm.ClassFile.FieldType)), (⟨"TemplateScopes$Scopes", "openPass", "(II)Z"⟩, prog_7_method_7_code, (Option.some Jvm.ClassFile.FieldType.boolean)), (⟨"TemplateScopes$State", "<init>", "()V"⟩, prog_8_method_1_code, (Option.none : Option Jvm.ClassFile.FieldType)), (⟨"TemplateScopes$State", "copyFrom", "(LTemplateScopes$State;)V"⟩, prog_8_method_2_code, (Option.none : Option Jvm.ClassFile.FieldType)), (⟨"TemplateScopes$State", "takeOutcome", "(LTemplateScopes$Outcome;)V"⟩, prog_8_method_3_code, (Option.none : Option Jvm.ClassFile.FieldType)), (⟨"TemplateScopes$Template", "<init>", "(ILTemplateScopes$Template;)V"⟩, prog_9_method_1_code, (Option.none : Option Jvm.ClassFile.FieldType)), (⟨"TemplateScopes$Template", "readFrom", "(LTemplateScopes$Texts;I)V"⟩, prog_9_method_2_code, (Option.none : Option Jvm.ClassFile.FieldType)), (⟨"TemplateScopes$Template", "read", "(II)Z"⟩, prog_9_method_15_code, (Option.some Jvm.ClassFile.FieldType.boolean)), (⟨"TemplateScopes$Template", "setCode", "(I)V"⟩, prog_9_method_18_code, (Option.none : Option Jvm.ClassFile.FieldType)), (⟨"TemplateScopes$Template", "kindWritten", "(I)I"⟩, prog_9_method_16_code, (Option.some Jvm.ClassFile.FieldType.int)), (⟨"TemplateScopes$Template", "setName", "(I)Z"⟩, prog_9_method_20_code, (Option.some Jvm.ClassFile.FieldType.boolean)), (⟨"TemplateScopes$Template", "setKind", "(I)Z"⟩, prog_9_method_19_code, (Option.some Jvm.ClassFile.FieldType.boolean)), (⟨"TemplateScopes$Template", "openLast", "()Z"⟩, prog_9_method_21_code, (Option.some Jvm.ClassFile.FieldType.boolean)), (⟨"TemplateScopes$Template", "closeInnermost", "()Z"⟩, prog_9_method_22_code, (Option.some Jvm.ClassFile.FieldType.boolean)), (⟨"TemplateScopes$Template", "addPart", "(II)Z"⟩, prog_9_method_17_code, (Option.some Jvm.ClassFile.FieldType.boolean)), (⟨"TemplateScopes$Template", "errorPlace", "()I"⟩, prog_9_method_3_code, (Option.some Jvm.ClassFile.FieldType.int)), (⟨"TemplateScopes$Template", "isWhole", "()Z"⟩, prog_9_method_4_code, (Option.some Jvm.ClassFile.FieldType.boolean)), (⟨"TemplateScopes$Template", "partCount", "()I"⟩, prog_9_method_5_code, (Option.some Jvm.ClassFile.FieldType.int)), (⟨"TemplateScopes$Template", "kindOf", "(I)I"⟩, prog_9_method_10_code, (Option.some Jvm.ClassFile.FieldType.int)), (⟨"TemplateScopes$Template", "nameOf", "(I)I"⟩, prog_9_method_13_code, (Option.some Jvm.ClassFile.FieldType.int)), (⟨"TemplateScopes$Template", "placeOf", "(I)I"⟩, prog_9_method_11_code, (Option.some Jvm.ClassFile.FieldType.int)), (⟨"TemplateScopes$Template", "behind", "(I)I"⟩, prog_9_method_14_code, (Option.some Jvm.ClassFile.FieldType.int)), (⟨"TemplateScopes$Template", "codeOf", "(I)I"⟩, prog_9_method_12_code, (Option.some Jvm.ClassFile.FieldType.int)), (⟨"TemplateScopes$Template", "deepest", "()I"⟩, prog_9_method_6_code, (Option.some Jvm.ClassFile.FieldType.int)), (⟨"TemplateScopes$Template", "namesUsed", "()I"⟩, prog_9_method_7_code, (Option.some Jvm.ClassFile.FieldType.int)), (⟨"TemplateScopes$Template", "namesGiven", "()I"⟩, prog_9_method_8_code, (Option.some Jvm.ClassFile.FieldType.int)), (⟨"TemplateScopes$Template", "loopCount", "()I"⟩, prog_9_method_9_code, (Option.some Jvm.ClassFile.FieldType.int)), (⟨"TemplateScopes$Texts", "<init>", "(II)V"⟩, prog_10_method_1_code, (Option.none : Option Jvm.ClassFile.FieldType)), (⟨"TemplateScopes$Texts", "clear", "(I)V"⟩, prog_10_method_4_code, (Option.none : Option Jvm.ClassFile.FieldType)), (⟨"TemplateScopes$Texts", "lengthOf", "(I)I"⟩, prog_10_method_2_code, (Option.some Jvm.ClassFile.FieldType.int)), (⟨"TemplateScopes$Texts", "codeAt", "(II)I"⟩, prog_10_method_3_code, (Option.some Jvm.ClassFile.FieldType.int)), (⟨"TemplateScopes$Texts", "copyAll", "(LTemplateScopes$Texts;)V"⟩, prog_10_method_8_code, (Option.none : Option Jvm.ClassFile.FieldType)), (⟨"TemplateScopes$Texts", "copyRow", "(ILTemplateScopes$Texts;I)V"⟩, prog_10_method_7_code, (Option.none : Option Jvm.ClassFile.FieldType)), (⟨"TemplateScopes$Texts", "add", "(II)Z"⟩, prog_10_method_6_code, (Option.some Jvm.ClassFile.FieldType.boolean)), (⟨"TemplateScopes$Texts", "remove", "(I)V"⟩, prog_10_method_5_code, (Option.none : Option Jvm.ClassFile.FieldType)), (⟨"TemplateScopes", "<init>", "()V"⟩, prog_1_method_1_code, (Option.none : Option Jvm.ClassFile.FieldType)), (⟨"TemplateScopes", "clearTemplate", "()I"⟩, prog_1_method_3_code, (Option.some Jvm.ClassFile.FieldType.int)), (⟨"TemplateScopes", "templateLength", "()I"⟩, prog_1_method_4_code, (Option.some Jvm.ClassFile.FieldType.int)), (⟨"TemplateScopes", "firstError", "()I"⟩, prog_1_method_5_code, (Option.some Jvm.ClassFile.FieldType.int)), (⟨"TemplateScopes", "nameWritten", "(I)I"⟩, prog_1_method_50_code, (Option.some Jvm.ClassFile.FieldType.int)), (⟨"TemplateScopes", "isComplete", "()Z"⟩, prog_1_method_6_code, (Option.some Jvm.ClassFile.FieldType.boolean)), (⟨"TemplateScopes", "outputLength", "()I"⟩, prog_1_method_26_code, (Option.some Jvm.ClassFile.FieldType.int)), (⟨"TemplateScopes", "hasFailed", "()Z"⟩, prog_1_method_28_code, (Option.some Jvm.ClassFile.FieldType.boolean)), (⟨"TemplateScopes", "failurePlaces", "()I"⟩, prog_1_method_30_code, (Option.some Jvm.ClassFile.FieldType.int)), (⟨"TemplateScopes", "steps", "()I"⟩, prog_1_method_32_code, (Option.some Jvm.ClassFile.FieldType.int)), (⟨"TemplateScopes", "plainPrinted", "()I"⟩, prog_1_method_33_code, (Option.some Jvm.ClassFile.FieldType.int)), (⟨"TemplateScopes", "escapesPrinted", "()I"⟩, prog_1_method_34_code, (Option.some Jvm.ClassFile.FieldType.int)), (⟨"TemplateScopes", "valuesPrinted", "()I"⟩, prog_1_method_35_code, (Option.some Jvm.ClassFile.FieldType.int)), (⟨"TemplateScopes", "renderings", "()I"⟩, prog_1_method_36_code, (Option.some Jvm.ClassFile.FieldType.int)), (⟨"TemplateScopes", "failures", "()I"⟩, prog_1_method_37_code, (Option.some Jvm.ClassFile.FieldType.int)), (⟨"TemplateScopes", "printed", "()I"⟩, prog_1_method_38_code, (Option.some Jvm.ClassFile.FieldType.int)), (⟨"TemplateScopes", "keep", "()I"⟩, prog_1_method_44_code, (Option.some Jvm.ClassFile.FieldType.int)), (⟨"TemplateScopes", "savedStates", "()I"⟩, prog_1_method_46_code, (Option.some Jvm.ClassFile.FieldType.int)), (⟨"TemplateScopes", "valueShare", "()D"⟩, prog_1_method_47_code, (Option.some Jvm.ClassFile.FieldType.double)), (⟨"TemplateScopes", "digest", "()J"⟩, prog_1_method_48_code, (Option.some Jvm.ClassFile.FieldType.long)), (⟨"TemplateScopes", "hashOutcome", "(J)J"⟩, prog_1_method_61_code, (Option.some Jvm.ClassFile.FieldType.long)), (⟨"TemplateScopes", "hashText", "(JLTemplateScopes$Texts;I)J"⟩, prog_1_method_60_code, (Option.some Jvm.ClassFile.FieldType.long)), (⟨"TemplateScopes", "hashWith", "(JJ)J"⟩, prog_1_method_58_code, (Option.some Jvm.ClassFile.FieldType.long)), (⟨"TemplateScopes", "hashWithTruth", "(JZ)J"⟩, prog_1_method_59_code, (Option.some Jvm.ClassFile.FieldType.long)), (⟨"TemplateScopes", "failureReason", "()I"⟩, prog_1_method_29_code, (Option.some Jvm.ClassFile.FieldType.int)), (⟨"TemplateScopes", "failurePlace", "(I)I"⟩, prog_1_method_31_code, (Option.some Jvm.ClassFile.FieldType.int)), (⟨"TemplateScopes", "hasValue", "(I)Z"⟩, prog_1_method_19_code, (Option.some Jvm.ClassFile.FieldType.boolean)), (⟨"TemplateScopes", "requireVariable", "(I)V"⟩, prog_1_method_52_code, (Option.none : Option Jvm.ClassFile.FieldType)), (⟨"TemplateScopes", "isTemplate", "(I)Z"⟩, prog_1_method_22_code, (Option.some Jvm.ClassFile.FieldType.boolean)), (⟨"TemplateScopes", "requireValue", "(I)I"⟩, prog_1_method_53_code, (Option.some Jvm.ClassFile.FieldType.int)), (⟨"TemplateScopes", "escapedLength", "(I)I"⟩, prog_1_method_23_code, (Option.some Jvm.ClassFile.FieldType.int)), (⟨"TemplateScopes", "escapeAside", "(I)I"⟩, prog_1_method_56_code, (Option.some Jvm.ClassFile.FieldType.int)), (⟨"TemplateScopes", "isSpecial", "(I)Z"⟩, prog_1_method_49_code, (Option.some Jvm.ClassFile.FieldType.boolean)), (⟨"TemplateScopes", "alikeBehindEscaping", "(I)I"⟩, prog_1_method_24_code, (Option.some Jvm.ClassFile.FieldType.int)), (⟨"TemplateScopes", "runByParts", "(I)V"⟩, prog_1_method_57_code, (Option.none : Option Jvm.ClassFile.FieldType)), (⟨"TemplateScopes", "parts", "()I"⟩, prog_1_method_7_code, (Option.some Jvm.ClassFile.FieldType.int)), (⟨"TemplateScopes", "requireComplete", "()V"⟩, prog_1_method_54_code, (Option.none : Option Jvm.ClassFile.FieldType)), (⟨"TemplateScopes", "depth", "()I"⟩, prog_1_method_8_code, (Option.some Jvm.ClassFile.FieldType.int)), (⟨"TemplateScopes", "names", "()I"⟩, prog_1_method_9_code, (Option.some Jvm.ClassFile.FieldType.int)), (⟨"TemplateScopes", "namesSet", "()I"⟩, prog_1_method_10_code, (Option.some Jvm.ClassFile.FieldType.int)), (⟨"TemplateScopes", "loops", "()I"⟩, prog_1_method_11_code, (Option.some Jvm.ClassFile.FieldType.int)), (⟨"TemplateScopes", "wouldPrint", "()I"⟩, prog_1_method_39_code, (Option.some Jvm.ClassFile.FieldType.int)), (⟨"TemplateScopes", "wouldPrintByText", "()I"⟩, prog_1_method_40_code, (Option.some Jvm.ClassFile.FieldType.int)), (⟨"TemplateScopes", "wouldFail", "()I"⟩, prog_1_method_41_code, (Option.some Jvm.ClassFile.FieldType.int)), (⟨"TemplateScopes", "bitsOfShare", "(D)J"⟩, prog_1_method_62_code, (Option.some Jvm.ClassFile.FieldType.long)), (⟨"TemplateScopes", "append", "(I)I"⟩, prog_1_method_2_code, (Option.some Jvm.ClassFile.FieldType.int)), (⟨"TemplateScopes", "requireCode", "(I)V"⟩, prog_1_method_51_code, (Option.none : Option Jvm.ClassFile.FieldType)), (⟨"TemplateScopes", "appendValue", "(II)I"⟩, prog_1_method_12_code, (Option.some Jvm.ClassFile.FieldType.int)), (⟨"TemplateScopes", "removeValue", "(I)I"⟩, prog_1_method_13_code, (Option.some Jvm.ClassFile.FieldType.int)), (⟨"TemplateScopes", "emptyValue", "(I)I"⟩, prog_1_method_14_code, (Option.some Jvm.ClassFile.FieldType.int)), (⟨"TemplateScopes", "copyValue", "(II)I"⟩, prog_1_method_15_code, (Option.some Jvm.ClassFile.FieldType.int)), (⟨"TemplateScopes", "escapeValue", "(I)I"⟩, prog_1_method_16_code, (Option.some Jvm.ClassFile.FieldType.int)), (⟨"TemplateScopes", "takeOutput", "(I)I"⟩, prog_1_method_17_code, (Option.some Jvm.ClassFile.FieldType.int)), (⟨"TemplateScopes", "takeText", "(ILTemplateScopes$Texts;)I"⟩, prog_1_method_55_code, (Option.some Jvm.ClassFile.FieldType.int)), (⟨"TemplateScopes", "takeTemplate", "(I)I"⟩, prog_1_method_18_code, (Option.some Jvm.ClassFile.FieldType.int)), (⟨"TemplateScopes", "valueLength", "(I)I"⟩, prog_1_method_20_code, (Option.some Jvm.ClassFile.FieldType.int)), (⟨"TemplateScopes", "valueCharacter", "(II)I"⟩, prog_1_method_21_code, (Option.some Jvm.ClassFile.FieldType.int)), (⟨"TemplateScopes", "render", "()I"⟩, prog_1_method_25_code, (Option.some Jvm.ClassFile.FieldType.int)), (⟨"TemplateScopes", "outputCharacter", "(I)I"⟩, prog_1_method_27_code, (Option.some Jvm.ClassFile.FieldType.int)), (⟨"TemplateScopes", "wouldPrintWithout", "(I)I"⟩, prog_1_method_42_code, (Option.some Jvm.ClassFile.FieldType.int)), (⟨"TemplateScopes", "undo", "()I"⟩, prog_1_method_43_code, (Option.some Jvm.ClassFile.FieldType.int)), (⟨"TemplateScopes", "restore", "()I"⟩, prog_1_method_45_code, (Option.some Jvm.ClassFile.FieldType.int)), (⟨"TemplateScopesModel", "<init>", "()V"⟩, prog_12_method_1_code, (Option.none : Option Jvm.ClassFile.FieldType)), (⟨"TemplateScopesModel", "thrown", "()I"⟩, prog_12_method_2_code, (Option.some Jvm.ClassFile.FieldType.int)), (⟨"TemplateScopesModel", "append", "(I)I"⟩, prog_12_method_33_code, (Option.some Jvm.ClassFile.FieldType.int)), (⟨"TemplateScopesModel", "in", "(III)Z"⟩, prog_12_method_3_code, (Option.some Jvm.ClassFile.FieldType.boolean)), (⟨"TemplateScopesModel", "holds", "(I)Z"⟩, prog_12_method_4_code, (Option.some Jvm.ClassFile.FieldType.boolean)), (⟨"TemplateScopesModel", "clearTemplate", "()I"⟩, prog_12_method_34_code, (Option.some Jvm.ClassFile.FieldType.int)), (⟨"TemplateScopesModel", "templateLength", "()I"⟩, prog_12_method_35_code, (Option.some Jvm.ClassFile.FieldType.int)), (⟨"TemplateScopesModel", "firstError", "()I"⟩, prog_12_method_36_code, (Option.some Jvm.ClassFile.FieldType.int)), (⟨"TemplateScopesModel", "readsBuffer", "()I"⟩, prog_12_method_14_code, (Option.some Jvm.ClassFile.FieldType.int)), (⟨"TemplateScopesModel", "reads", "(II)I"⟩, prog_12_method_13_code, (Option.some Jvm.ClassFile.FieldType.int)), (⟨"TemplateScopesModel", "goesOn", "(II)I"⟩, prog_12_method_12_code, (Option.some Jvm.ClassFile.FieldType.int)), (⟨"TemplateScopesModel", "nameOf", "(I)I"⟩, prog_12_method_9_code, (Option.some Jvm.ClassFile.FieldType.int)), (⟨"TemplateScopesModel", "part", "()V"⟩, prog_12_method_11_code, (Option.none : Option Jvm.ClassFile.FieldType)), (⟨"TemplateScopesModel", "isComplete", "()Z"⟩, prog_12_method_37_code, (Option.some Jvm.ClassFile.FieldType.boolean)), (⟨"TemplateScopesModel", "isBufferWhole", "()Z"⟩, prog_12_method_32_code, (Option.some Jvm.ClassFile.FieldType.boolean)), (⟨"TemplateScopesModel", "parts", "()I"⟩, prog_12_method_38_code, (Option.some Jvm.ClassFile.FieldType.int)), (⟨"TemplateScopesModel", "depth", "()I"⟩, prog_12_method_39_code, (Option.some Jvm.ClassFile.FieldType.int)), (⟨"TemplateScopesModel", "names", "()I"⟩, prog_12_method_40_code, (Option.some Jvm.ClassFile.FieldType.int)), (⟨"TemplateScopesModel", "namesSet", "()I"⟩, prog_12_method_41_code, (Option.some Jvm.ClassFile.FieldType.int)), (⟨"TemplateScopesModel", "loops", "()I"⟩, prog_12_method_42_code, (Option.some Jvm.ClassFile.FieldType.int)), (⟨"TemplateScopesModel", "appendValue", "(II)I"⟩, prog_12_method_43_code, (Option.some Jvm.ClassFile.FieldType.int)), (⟨"TemplateScopesModel", "isVariable", "(I)Z"⟩, prog_12_method_5_code, (Option.some Jvm.ClassFile.FieldType.boolean)), (⟨"TemplateScopesModel", "valueAt", "(I)I"⟩, prog_12_method_6_code, (Option.some Jvm.ClassFile.FieldType.int)), (⟨"TemplateScopesModel", "save", "()V"⟩, prog_12_method_8_code, (Option.none : Option Jvm.ClassFile.FieldType)), (⟨"TemplateScopesModel", "has", "(I)Z"⟩, prog_12_method_7_code, (Option.some Jvm.ClassFile.FieldType.boolean)), (⟨"TemplateScopesModel", "removeValue", "(I)I"⟩, prog_12_method_45_code, (Option.some Jvm.ClassFile.FieldType.int)), (⟨"TemplateScopesModel", "errorOfValue", "(I)I"⟩, prog_12_method_44_code, (Option.some Jvm.ClassFile.FieldType.int)), (⟨"TemplateScopesModel", "emptyValue", "(I)I"⟩, prog_12_method_46_code, (Option.some Jvm.ClassFile.FieldType.int)), (⟨"TemplateScopesModel", "copyValue", "(II)I"⟩, prog_12_method_47_code, (Option.some Jvm.ClassFile.FieldType.int)), (⟨"TemplateScopesModel", "escapeValue", "(I)I"⟩, prog_12_method_49_code, (Option.some Jvm.ClassFile.FieldType.int)), (⟨"TemplateScopesModel", "specials", "(I)I"⟩, prog_12_method_48_code, (Option.some Jvm.ClassFile.FieldType.int)), (⟨"TemplateScopesModel", "isSpecial", "(I)Z"⟩, prog_12_method_10_code, (Option.some Jvm.ClassFile.FieldType.boolean)), (⟨"TemplateScopesModel", "takeOutput", "(I)I"⟩, prog_12_method_50_code, (Option.some Jvm.ClassFile.FieldType.int)), (⟨"TemplateScopesModel", "takeTemplate", "(I)I"⟩, prog_12_method_51_code, (Option.some Jvm.ClassFile.FieldType.int)), (⟨"TemplateScopesModel", "hasValue", "(I)Z"⟩, prog_12_method_52_code, (Option.some Jvm.ClassFile.FieldType.boolean)), (⟨"TemplateScopesModel", "valueLength", "(I)I"⟩, prog_12_method_53_code, (Option.some Jvm.ClassFile.FieldType.int)), (⟨"TemplateScopesModel", "valueCharacter", "(II)I"⟩, prog_12_method_54_code, (Option.some Jvm.ClassFile.FieldType.int)), (⟨"TemplateScopesModel", "isTemplate", "(I)Z"⟩, prog_12_method_56_code, (Option.some Jvm.ClassFile.FieldType.boolean)), (⟨"TemplateScopesModel", "isWholeValue", "(I)Z"⟩, prog_12_method_55_code, (Option.some Jvm.ClassFile.FieldType.boolean)), (⟨"TemplateScopesModel", "readsValue", "(I)I"⟩, prog_12_method_15_code, (Option.some Jvm.ClassFile.FieldType.int)), (⟨"TemplateScopesModel", "escapedLength", "(I)I"⟩, prog_12_method_57_code, (Option.some Jvm.ClassFile.FieldType.int)), (⟨"TemplateScopesModel", "alikeBehindEscaping", "(I)I"⟩, prog_12_method_58_code, (Option.some Jvm.ClassFile.FieldType.int)), (⟨"TemplateScopesModel", "render", "()I"⟩, prog_12_method_59_code, (Option.some Jvm.ClassFile.FieldType.int)), (⟨"TemplateScopesModel", "renders", "(I)V"⟩, prog_12_method_31_code, (Option.none : Option Jvm.ClassFile.FieldType)), (⟨"TemplateScopesModel", "opensScope", "()V"⟩, prog_12_method_17_code, (Option.none : Option Jvm.ClassFile.FieldType)), (⟨"TemplateScopesModel", "at", "(II)I"⟩, prog_12_method_16_code, (Option.some Jvm.ClassFile.FieldType.int)), (⟨"TemplateScopesModel", "opens", "(IIII)V"⟩, prog_12_method_21_code, (Option.none : Option Jvm.ClassFile.FieldType)), (⟨"TemplateScopesModel", "isAtEnd", "()Z"⟩, prog_12_method_25_code, (Option.some Jvm.ClassFile.FieldType.boolean)), (⟨"TemplateScopesModel", "closes", "()V"⟩, prog_12_method_24_code, (Option.none : Option Jvm.ClassFile.FieldType)), (⟨"TemplateScopesModel", "beginsPass", "(I)V"⟩, prog_12_method_23_code, (Option.none : Option Jvm.ClassFile.FieldType)), (⟨"TemplateScopesModel", "rendersPart", "()V"⟩, prog_12_method_30_code, (Option.none : Option Jvm.ClassFile.FieldType)), (⟨"TemplateScopesModel", "fails", "(II)V"⟩, prog_12_method_19_code, (Option.none : Option Jvm.ClassFile.FieldType)), (⟨"TemplateScopesModel", "rendersBracket", "(II)V"⟩, prog_12_method_29_code, (Option.none : Option Jvm.ClassFile.FieldType)), (⟨"TemplateScopesModel", "valueOf", "(I)I"⟩, prog_12_method_18_code, (Option.some Jvm.ClassFile.FieldType.int)), (⟨"TemplateScopesModel", "printsValue", "(IZI)V"⟩, prog_12_method_26_code, (Option.none : Option Jvm.ClassFile.FieldType)), (⟨"TemplateScopesModel", "prints", "(III)V"⟩, prog_12_method_20_code, (Option.none : Option Jvm.ClassFile.FieldType)), (⟨"TemplateScopesModel", "includes", "(II)V"⟩, prog_12_method_27_code, (Option.none : Option Jvm.ClassFile.FieldType)), (⟨"TemplateScopesModel", "goesRound", "(IIII)V"⟩, prog_12_method_28_code, (Option.none : Option Jvm.ClassFile.FieldType)), (⟨"TemplateScopesModel", "behind", "(II)I"⟩, prog_12_method_22_code, (Option.some Jvm.ClassFile.FieldType.int)), (⟨"TemplateScopesModel", "outputLength", "()I"⟩, prog_12_method_60_code, (Option.some Jvm.ClassFile.FieldType.int)), (⟨"TemplateScopesModel", "outputCharacter", "(I)I"⟩, prog_12_method_61_code, (Option.some Jvm.ClassFile.FieldType.int)), (⟨"TemplateScopesModel", "hasFailed", "()Z"⟩, prog_12_method_62_code, (Option.some Jvm.ClassFile.FieldType.boolean)), (⟨"TemplateScopesModel", "failureReason", "()I"⟩, prog_12_method_63_code, (Option.some Jvm.ClassFile.FieldType.int)), (⟨"TemplateScopesModel", "failurePlaces", "()I"⟩, prog_12_method_64_code, (Option.some Jvm.ClassFile.FieldType.int)), (⟨"TemplateScopesModel", "failurePlace", "(I)I"⟩, prog_12_method_65_code, (Option.some Jvm.ClassFile.FieldType.int)), (⟨"TemplateScopesModel", "steps", "()I"⟩, prog_12_method_66_code, (Option.some Jvm.ClassFile.FieldType.int)), (⟨"TemplateScopesModel", "plainPrinted", "()I"⟩, prog_12_method_67_code, (Option.some Jvm.ClassFile.FieldType.int)), (⟨"TemplateScopesModel", "escapesPrinted", "()I"⟩, prog_12_method_68_code, (Option.some Jvm.ClassFile.FieldType.int)), (⟨"TemplateScopesModel", "valuesPrinted", "()I"⟩, prog_12_method_69_code, (Option.some Jvm.ClassFile.FieldType.int)), (⟨"TemplateScopesModel", "renderings", "()I"⟩, prog_12_method_70_code, (Option.some Jvm.ClassFile.FieldType.int)), (⟨"TemplateScopesModel", "failures", "()I"⟩, prog_12_method_71_code, (Option.some Jvm.ClassFile.FieldType.int)), (⟨"TemplateScopesModel", "printed", "()I"⟩, prog_12_method_72_code, (Option.some Jvm.ClassFile.FieldType.int)), (⟨"TemplateScopesModel", "wouldPrint", "()I"⟩, prog_12_method_74_code, (Option.some Jvm.ClassFile.FieldType.int)), (⟨"TemplateScopesModel", "lengthWithout", "(I)I"⟩, prog_12_method_73_code, (Option.some Jvm.ClassFile.FieldType.int)), (⟨"TemplateScopesModel", "wouldPrintByText", "()I"⟩, prog_12_method_75_code, (Option.some Jvm.ClassFile.FieldType.int)), (⟨"TemplateScopesModel", "wouldFail", "()I"⟩, prog_12_method_77_code, (Option.some Jvm.ClassFile.FieldType.int)), (⟨"TemplateScopesModel", "reasonNow", "()I"⟩, prog_12_method_76_code, (Option.some Jvm.ClassFile.FieldType.int)), (⟨"TemplateScopesModel", "wouldPrintWithout", "(I)I"⟩, prog_12_method_78_code, (Option.some Jvm.ClassFile.FieldType.int)), (⟨"TemplateScopesModel", "undo", "()I"⟩, prog_12_method_79_code, (Option.some Jvm.ClassFile.FieldType.int)), (⟨"TemplateScopesModel", "keep", "()I"⟩, prog_12_method_80_code, (Option.some Jvm.ClassFile.FieldType.int)), (⟨"TemplateScopesModel", "restore", "()I"⟩, prog_12_method_81_code, (Option.some Jvm.ClassFile.FieldType.int)), (⟨"TemplateScopesModel", "savedStates", "()I"⟩, prog_12_method_82_code, (Option.some Jvm.ClassFile.FieldType.int)), (⟨"TemplateScopesModel", "valueShare", "()D"⟩, prog_12_method_84_code, (Option.some Jvm.ClassFile.FieldType.double)), (⟨"TemplateScopesModel", "share", "()D"⟩, prog_12_method_83_code, (Option.some Jvm.ClassFile.FieldType.double)), (⟨"TemplateScopesModel", "digest", "()J"⟩, prog_12_method_89_code, (Option.some Jvm.ClassFile.FieldType.long)), (⟨"TemplateScopesModel", "takesIn", "(J)V"⟩, prog_12_method_85_code, (Option.none : Option Jvm.ClassFile.FieldType)), (⟨"TemplateScopesModel", "takesValue", "(I)V"⟩, prog_12_method_87_code, (Option.none : Option Jvm.ClassFile.FieldType)), (⟨"TemplateScopesModel", "takesTemplate", "()V"⟩, prog_12_method_88_code, (Option.none : Option Jvm.ClassFile.FieldType)), (⟨"TemplateScopesModel", "bitsOf", "(D)J"⟩, prog_12_method_86_code, (Option.some Jvm.ClassFile.FieldType.long)), (⟨"TemplateScopesLaw", "append", "(LTemplateScopes;I[J)I"⟩, method_3_code, (Option.some Jvm.ClassFile.FieldType.int)), (⟨"TemplateScopesLaw", "parts", "(LTemplateScopes;[J)I"⟩, method_4_code, (Option.some Jvm.ClassFile.FieldType.int)), (⟨"TemplateScopesLaw", "depth", "(LTemplateScopes;[J)I"⟩, method_5_code, (Option.some Jvm.ClassFile.FieldType.int)), (⟨"TemplateScopesLaw", "names", "(LTemplateScopes;[J)I"⟩, method_6_code, (Option.some Jvm.ClassFile.FieldType.int)), (⟨"TemplateScopesLaw", "namesSet", "(LTemplateScopes;[J)I"⟩, method_7_code, (Option.some Jvm.ClassFile.FieldType.int)), (⟨"TemplateScopesLaw", "loops", "(LTemplateScopes;[J)I"⟩, method_8_code, (Option.some Jvm.ClassFile.FieldType.int)), (⟨"TemplateScopesLaw", "appendValue", "(LTemplateScopes;II[J)I"⟩, method_9_code, (Option.some Jvm.ClassFile.FieldType.int)), (⟨"TemplateScopesLaw", "removeValue", "(LTemplateScopes;I[J)I"⟩, method_10_code, (Option.some Jvm.ClassFile.FieldType.int)), (⟨"TemplateScopesLaw", "emptyValue", "(LTemplateScopes;I[J)I"⟩, method_11_code, (Option.some Jvm.ClassFile.FieldType.int)), (⟨"TemplateScopesLaw", "copyValue", "(LTemplateScopes;II[J)I"⟩, method_12_code, (Option.some Jvm.ClassFile.FieldType.int)), (⟨"TemplateScopesLaw", "escapeValue", "(LTemplateScopes;I[J)I"⟩, method_13_code, (Option.some Jvm.ClassFile.FieldType.int)), (⟨"TemplateScopesLaw", "takeOutput", "(LTemplateScopes;I[J)I"⟩, method_14_code, (Option.some Jvm.ClassFile.FieldType.int)), (⟨"TemplateScopesLaw", "takeTemplate", "(LTemplateScopes;I[J)I"⟩, method_15_code, (Option.some Jvm.ClassFile.FieldType.int)), (⟨"TemplateScopesLaw", "hasValue", "(LTemplateScopes;I[J)I"⟩, method_16_code, (Option.some Jvm.ClassFile.FieldType.int)), (⟨"TemplateScopesLaw", "valueLength", "(LTemplateScopes;I[J)I"⟩, method_17_code, (Option.some Jvm.ClassFile.FieldType.int)), (⟨"TemplateScopesLaw", "valueCharacter", "(LTemplateScopes;II[J)I"⟩, method_18_code, (Option.some Jvm.ClassFile.FieldType.int)), (⟨"TemplateScopesLaw", "isTemplate", "(LTemplateScopes;I[J)I"⟩, method_19_code, (Option.some Jvm.ClassFile.FieldType.int)), (⟨"TemplateScopesLaw", "escapedLength", "(LTemplateScopes;I[J)I"⟩, method_20_code, (Option.some Jvm.ClassFile.FieldType.int)), (⟨"TemplateScopesLaw", "alikeBehindEscaping", "(LTemplateScopes;I[J)I"⟩, method_21_code, (Option.some Jvm.ClassFile.FieldType.int)), (⟨"TemplateScopesLaw", "render", "(LTemplateScopes;[J)I"⟩, method_22_code, (Option.some Jvm.ClassFile.FieldType.int)), (⟨"TemplateScopesLaw", "outputCharacter", "(LTemplateScopes;I[J)I"⟩, method_23_code, (Option.some Jvm.ClassFile.FieldType.int)), (⟨"TemplateScopesLaw", "failureReason", "(LTemplateScopes;[J)I"⟩, method_24_code, (Option.some Jvm.ClassFile.FieldType.int)), (⟨"TemplateScopesLaw", "failurePlace", "(LTemplateScopes;I[J)I"⟩, method_25_code, (Option.some Jvm.ClassFile.FieldType.int)), (⟨"TemplateScopesLaw", "wouldPrint", "(LTemplateScopes;[J)I"⟩, method_26_code, (Option.some Jvm.ClassFile.FieldType.int)), (⟨"TemplateScopesLaw", "wouldPrintByText", "(LTemplateScopes;[J)I"⟩, method_27_code, (Option.some Jvm.ClassFile.FieldType.int)), (⟨"TemplateScopesLaw", "wouldFail", "(LTemplateScopes;[J)I"⟩, method_28_code, (Option.some Jvm.ClassFile.FieldType.int)), (⟨"TemplateScopesLaw", "wouldPrintWithout", "(LTemplateScopes;I[J)I"⟩, method_29_code, (Option.some Jvm.ClassFile.FieldType.int)), (⟨"TemplateScopesLaw", "undo", "(LTemplateScopes;[J)I"⟩, method_30_code, (Option.some Jvm.ClassFile.FieldType.int)), (⟨"TemplateScopesLaw", "restore", "(LTemplateScopes;[J)I"⟩, method_31_code, (Option.some Jvm.ClassFile.FieldType.int)), (⟨"TemplateScopesLaw", "law", "([I)Z"⟩, code, ret)]
def xy (mi : Nat) : MethodName := match xyt[mi]? with
  | some q => q.1
  | none => ⟨"", "", ""⟩
def xby (mi : Nat) : ByteArray := match xyt[mi]? with
  | some q => q.2.1
  | none => ⟨#[]⟩
def xre (mi : Nat) : Option FieldType := match xyt[mi]? with
  | some q => q.2.2
  | none => none
def xRn (own : Nat) : String := match (["TemplateScopes$ByParts", "TemplateScopes$ByText", "TemplateScopes$History", "TemplateScopes$Outcome", "TemplateScopes$Rendering", "TemplateScopes$Scopes", "TemplateScopes$State", "TemplateScopes$Template", "TemplateScopes$Texts", "TemplateScopes", "TemplateScopesModel", "TemplateScopesLaw", "java/lang/Math", "java/lang/Object"] : List String)[own]? with
  | some q => q
  | none => ""
def xcw (mi : Nat) : Cond := match xhh mi with
  | [] => .code (xy mi) (xby mi) (xmaxL mi) (xre mi)
  | _ :: _ => .codeWith (xy mi) (xby mi) (xmaxL mi) (xre mi) (xhh mi)
def xlen : Instr → Nat
  | .sipush _ | .ldc_w _ | .ldc2_w _ | .iinc _ _ | .ifCond _ _ | .if_icmp _ _ | .goto _ | .ifnull _ | .ifnonnull _ | .getfield _ | .putfield _ | .new _ | .anewarray _ | .invokevirtual _ | .invokespecial _ | .invokestatic _ => 3
  | .bipush _ | .ldc _ | .iload _ | .aload _ | .lload _ | .dload _ | .istore _ | .astore _ | .lstore _ | .dstore _ | .newarray _ => 2
  | _ => 1
def xsw : Instr → Bool
  | .tableswitch _ _ _ _ | .lookupswitch _ _ => true
  | _ => false
def xjmp (pc : Nat) : Instr → Bool
  | .ifCond _ f | .if_icmp _ f | .goto f | .ifnull f | .ifnonnull f => decide (0 ≤ (pc : Int) + f)
  | .tableswitch d _ _ fs => decide (0 ≤ (pc : Int) + d) && fs.toList.all (fun f => decide (0 ≤ (pc : Int) + f))
  | .lookupswitch d ps => decide (0 ≤ (pc : Int) + d) && ps.toList.all (fun f => decide (0 ≤ (pc : Int) + f.2)) && (ps.toList.zip (ps.toList.drop 1)).all (fun (a, next) => a.1 < next.1)
  | _ => true
def xdchk (by0 : ByteArray) (pc : Nat) (op : Instr) : Bool := match decode by0 pc with
  | .ok (o, len) => decide (o = op) && (decide (len = xlen op) || xsw op) && xjmp pc op
  | .error _ => false
theorem xd_0 : xk_0.all (fun q => xdchk (xby 0) q.1 q.2) = true := by decide +kernel
theorem xd_1 : xk_1.all (fun q => xdchk (xby 1) q.1 q.2) = true := by decide +kernel
theorem xd_2 : xk_2.all (fun q => xdchk (xby 2) q.1 q.2) = true := by decide +kernel
theorem xd_3_0 : ((xk_3.drop 0).take 60).all (fun q => xdchk (xby 3) q.1 q.2) = true := by decide +kernel
theorem xd_3_60 : ((xk_3.drop 60).take 60).all (fun q => xdchk (xby 3) q.1 q.2) = true := by decide +kernel
theorem xd_3 : xk_3.all (fun q => xdchk (xby 3) q.1 q.2) = true := by
  have h : xk_3 = ((xk_3.drop 0).take 60) ++ (((xk_3.drop 60).take 60)) := by decide +kernel
  rw [h]
  simp only [List.all_append, Bool.and_eq_true]
  exact ⟨xd_3_0, xd_3_60⟩
theorem xd_4 : xk_4.all (fun q => xdchk (xby 4) q.1 q.2) = true := by decide +kernel
theorem xd_5 : xk_5.all (fun q => xdchk (xby 5) q.1 q.2) = true := by decide +kernel
theorem xd_6 : xk_6.all (fun q => xdchk (xby 6) q.1 q.2) = true := by decide +kernel
theorem xd_7 : xk_7.all (fun q => xdchk (xby 7) q.1 q.2) = true := by decide +kernel
theorem xd_8 : xk_8.all (fun q => xdchk (xby 8) q.1 q.2) = true := by decide +kernel
theorem xd_9_0 : ((xk_9.drop 0).take 60).all (fun q => xdchk (xby 9) q.1 q.2) = true := by decide +kernel
theorem xd_9_60 : ((xk_9.drop 60).take 60).all (fun q => xdchk (xby 9) q.1 q.2) = true := by decide +kernel
theorem xd_9 : xk_9.all (fun q => xdchk (xby 9) q.1 q.2) = true := by
  have h : xk_9 = ((xk_9.drop 0).take 60) ++ (((xk_9.drop 60).take 60)) := by decide +kernel
  rw [h]
  simp only [List.all_append, Bool.and_eq_true]
  exact ⟨xd_9_0, xd_9_60⟩
theorem xd_10 : xk_10.all (fun q => xdchk (xby 10) q.1 q.2) = true := by decide +kernel
theorem xd_11 : xk_11.all (fun q => xdchk (xby 11) q.1 q.2) = true := by decide +kernel
theorem xd_12 : xk_12.all (fun q => xdchk (xby 12) q.1 q.2) = true := by decide +kernel
theorem xd_13 : xk_13.all (fun q => xdchk (xby 13) q.1 q.2) = true := by decide +kernel
theorem xd_14_0 : ((xk_14.drop 0).take 60).all (fun q => xdchk (xby 14) q.1 q.2) = true := by decide +kernel
theorem xd_14_60 : ((xk_14.drop 60).take 60).all (fun q => xdchk (xby 14) q.1 q.2) = true := by decide +kernel
theorem xd_14 : xk_14.all (fun q => xdchk (xby 14) q.1 q.2) = true := by
  have h : xk_14 = ((xk_14.drop 0).take 60) ++ (((xk_14.drop 60).take 60)) := by decide +kernel
  rw [h]
  simp only [List.all_append, Bool.and_eq_true]
  exact ⟨xd_14_0, xd_14_60⟩
theorem xd_15_0 : ((xk_15.drop 0).take 60).all (fun q => xdchk (xby 15) q.1 q.2) = true := by decide +kernel
theorem xd_15_60 : ((xk_15.drop 60).take 60).all (fun q => xdchk (xby 15) q.1 q.2) = true := by decide +kernel
theorem xd_15 : xk_15.all (fun q => xdchk (xby 15) q.1 q.2) = true := by
  have h : xk_15 = ((xk_15.drop 0).take 60) ++ (((xk_15.drop 60).take 60)) := by decide +kernel
  rw [h]
  simp only [List.all_append, Bool.and_eq_true]
  exact ⟨xd_15_0, xd_15_60⟩
theorem xd_16_0 : ((xk_16.drop 0).take 60).all (fun q => xdchk (xby 16) q.1 q.2) = true := by decide +kernel
theorem xd_16_60 : ((xk_16.drop 60).take 60).all (fun q => xdchk (xby 16) q.1 q.2) = true := by decide +kernel
theorem xd_16 : xk_16.all (fun q => xdchk (xby 16) q.1 q.2) = true := by
  have h : xk_16 = ((xk_16.drop 0).take 60) ++ (((xk_16.drop 60).take 60)) := by decide +kernel
  rw [h]
  simp only [List.all_append, Bool.and_eq_true]
  exact ⟨xd_16_0, xd_16_60⟩
theorem xd_17 : xk_17.all (fun q => xdchk (xby 17) q.1 q.2) = true := by decide +kernel
theorem xd_18 : xk_18.all (fun q => xdchk (xby 18) q.1 q.2) = true := by decide +kernel
theorem xd_19 : xk_19.all (fun q => xdchk (xby 19) q.1 q.2) = true := by decide +kernel
theorem xd_20 : xk_20.all (fun q => xdchk (xby 20) q.1 q.2) = true := by decide +kernel
theorem xd_21 : xk_21.all (fun q => xdchk (xby 21) q.1 q.2) = true := by decide +kernel
theorem xd_22 : xk_22.all (fun q => xdchk (xby 22) q.1 q.2) = true := by decide +kernel
theorem xd_23 : xk_23.all (fun q => xdchk (xby 23) q.1 q.2) = true := by decide +kernel
theorem xd_24 : xk_24.all (fun q => xdchk (xby 24) q.1 q.2) = true := by decide +kernel
theorem xd_25 : xk_25.all (fun q => xdchk (xby 25) q.1 q.2) = true := by decide +kernel
theorem xd_26 : xk_26.all (fun q => xdchk (xby 26) q.1 q.2) = true := by decide +kernel
theorem xd_27 : xk_27.all (fun q => xdchk (xby 27) q.1 q.2) = true := by decide +kernel
theorem xd_28 : xk_28.all (fun q => xdchk (xby 28) q.1 q.2) = true := by decide +kernel
theorem xd_29 : xk_29.all (fun q => xdchk (xby 29) q.1 q.2) = true := by decide +kernel
theorem xd_30 : xk_30.all (fun q => xdchk (xby 30) q.1 q.2) = true := by decide +kernel
theorem xd_31 : xk_31.all (fun q => xdchk (xby 31) q.1 q.2) = true := by decide +kernel
theorem xd_32 : xk_32.all (fun q => xdchk (xby 32) q.1 q.2) = true := by decide +kernel
theorem xd_33 : xk_33.all (fun q => xdchk (xby 33) q.1 q.2) = true := by decide +kernel
theorem xd_34 : xk_34.all (fun q => xdchk (xby 34) q.1 q.2) = true := by decide +kernel
theorem xd_35 : xk_35.all (fun q => xdchk (xby 35) q.1 q.2) = true := by decide +kernel
theorem xd_36 : xk_36.all (fun q => xdchk (xby 36) q.1 q.2) = true := by decide +kernel
theorem xd_37 : xk_37.all (fun q => xdchk (xby 37) q.1 q.2) = true := by decide +kernel
theorem xd_38 : xk_38.all (fun q => xdchk (xby 38) q.1 q.2) = true := by decide +kernel
theorem xd_39 : xk_39.all (fun q => xdchk (xby 39) q.1 q.2) = true := by decide +kernel
theorem xd_40 : xk_40.all (fun q => xdchk (xby 40) q.1 q.2) = true := by decide +kernel
theorem xd_41 : xk_41.all (fun q => xdchk (xby 41) q.1 q.2) = true := by decide +kernel
theorem xd_42 : xk_42.all (fun q => xdchk (xby 42) q.1 q.2) = true := by decide +kernel
theorem xd_43 : xk_43.all (fun q => xdchk (xby 43) q.1 q.2) = true := by decide +kernel
theorem xd_44 : xk_44.all (fun q => xdchk (xby 44) q.1 q.2) = true := by decide +kernel
theorem xd_45 : xk_45.all (fun q => xdchk (xby 45) q.1 q.2) = true := by decide +kernel
theorem xd_46 : xk_46.all (fun q => xdchk (xby 46) q.1 q.2) = true := by decide +kernel
theorem xd_47 : xk_47.all (fun q => xdchk (xby 47) q.1 q.2) = true := by decide +kernel
theorem xd_48 : xk_48.all (fun q => xdchk (xby 48) q.1 q.2) = true := by decide +kernel
theorem xd_49 : xk_49.all (fun q => xdchk (xby 49) q.1 q.2) = true := by decide +kernel
theorem xd_50 : xk_50.all (fun q => xdchk (xby 50) q.1 q.2) = true := by decide +kernel
theorem xd_51 : xk_51.all (fun q => xdchk (xby 51) q.1 q.2) = true := by decide +kernel
theorem xd_52 : xk_52.all (fun q => xdchk (xby 52) q.1 q.2) = true := by decide +kernel
theorem xd_53_0 : ((xk_53.drop 0).take 60).all (fun q => xdchk (xby 53) q.1 q.2) = true := by decide +kernel
theorem xd_53_60 : ((xk_53.drop 60).take 60).all (fun q => xdchk (xby 53) q.1 q.2) = true := by decide +kernel
theorem xd_53 : xk_53.all (fun q => xdchk (xby 53) q.1 q.2) = true := by
  have h : xk_53 = ((xk_53.drop 0).take 60) ++ (((xk_53.drop 60).take 60)) := by decide +kernel
  rw [h]
  simp only [List.all_append, Bool.and_eq_true]
  exact ⟨xd_53_0, xd_53_60⟩
theorem xd_54 : xk_54.all (fun q => xdchk (xby 54) q.1 q.2) = true := by decide +kernel
theorem xd_55 : xk_55.all (fun q => xdchk (xby 55) q.1 q.2) = true := by decide +kernel
theorem xd_56 : xk_56.all (fun q => xdchk (xby 56) q.1 q.2) = true := by decide +kernel
theorem xd_57 : xk_57.all (fun q => xdchk (xby 57) q.1 q.2) = true := by decide +kernel
theorem xd_58 : xk_58.all (fun q => xdchk (xby 58) q.1 q.2) = true := by decide +kernel
theorem xd_59 : xk_59.all (fun q => xdchk (xby 59) q.1 q.2) = true := by decide +kernel
theorem xd_60_0 : ((xk_60.drop 0).take 60).all (fun q => xdchk (xby 60) q.1 q.2) = true := by decide +kernel
theorem xd_60_60 : ((xk_60.drop 60).take 60).all (fun q => xdchk (xby 60) q.1 q.2) = true := by decide +kernel
theorem xd_60 : xk_60.all (fun q => xdchk (xby 60) q.1 q.2) = true := by
  have h : xk_60 = ((xk_60.drop 0).take 60) ++ (((xk_60.drop 60).take 60)) := by decide +kernel
  rw [h]
  simp only [List.all_append, Bool.and_eq_true]
  exact ⟨xd_60_0, xd_60_60⟩
theorem xd_61 : xk_61.all (fun q => xdchk (xby 61) q.1 q.2) = true := by decide +kernel
theorem xd_62 : xk_62.all (fun q => xdchk (xby 62) q.1 q.2) = true := by decide +kernel
theorem xd_63 : xk_63.all (fun q => xdchk (xby 63) q.1 q.2) = true := by decide +kernel
theorem xd_64 : xk_64.all (fun q => xdchk (xby 64) q.1 q.2) = true := by decide +kernel
theorem xd_65 : xk_65.all (fun q => xdchk (xby 65) q.1 q.2) = true := by decide +kernel
theorem xd_66 : xk_66.all (fun q => xdchk (xby 66) q.1 q.2) = true := by decide +kernel
theorem xd_67 : xk_67.all (fun q => xdchk (xby 67) q.1 q.2) = true := by decide +kernel
theorem xd_68 : xk_68.all (fun q => xdchk (xby 68) q.1 q.2) = true := by decide +kernel
theorem xd_69 : xk_69.all (fun q => xdchk (xby 69) q.1 q.2) = true := by decide +kernel
theorem xd_70 : xk_70.all (fun q => xdchk (xby 70) q.1 q.2) = true := by decide +kernel
theorem xd_71 : xk_71.all (fun q => xdchk (xby 71) q.1 q.2) = true := by decide +kernel
theorem xd_72 : xk_72.all (fun q => xdchk (xby 72) q.1 q.2) = true := by decide +kernel
theorem xd_73 : xk_73.all (fun q => xdchk (xby 73) q.1 q.2) = true := by decide +kernel
theorem xd_74 : xk_74.all (fun q => xdchk (xby 74) q.1 q.2) = true := by decide +kernel
theorem xd_75 : xk_75.all (fun q => xdchk (xby 75) q.1 q.2) = true := by decide +kernel
theorem xd_76 : xk_76.all (fun q => xdchk (xby 76) q.1 q.2) = true := by decide +kernel
theorem xd_77 : xk_77.all (fun q => xdchk (xby 77) q.1 q.2) = true := by decide +kernel
theorem xd_78 : xk_78.all (fun q => xdchk (xby 78) q.1 q.2) = true := by decide +kernel
theorem xd_79 : xk_79.all (fun q => xdchk (xby 79) q.1 q.2) = true := by decide +kernel
theorem xd_80 : xk_80.all (fun q => xdchk (xby 80) q.1 q.2) = true := by decide +kernel
theorem xd_81_0 : ((xk_81.drop 0).take 60).all (fun q => xdchk (xby 81) q.1 q.2) = true := by decide +kernel
theorem xd_81_60 : ((xk_81.drop 60).take 60).all (fun q => xdchk (xby 81) q.1 q.2) = true := by decide +kernel
theorem xd_81 : xk_81.all (fun q => xdchk (xby 81) q.1 q.2) = true := by
  have h : xk_81 = ((xk_81.drop 0).take 60) ++ (((xk_81.drop 60).take 60)) := by decide +kernel
  rw [h]
  simp only [List.all_append, Bool.and_eq_true]
  exact ⟨xd_81_0, xd_81_60⟩
theorem xd_82 : xk_82.all (fun q => xdchk (xby 82) q.1 q.2) = true := by decide +kernel
theorem xd_83 : xk_83.all (fun q => xdchk (xby 83) q.1 q.2) = true := by decide +kernel
theorem xd_84 : xk_84.all (fun q => xdchk (xby 84) q.1 q.2) = true := by decide +kernel
theorem xd_85 : xk_85.all (fun q => xdchk (xby 85) q.1 q.2) = true := by decide +kernel
theorem xd_86 : xk_86.all (fun q => xdchk (xby 86) q.1 q.2) = true := by decide +kernel
theorem xd_87 : xk_87.all (fun q => xdchk (xby 87) q.1 q.2) = true := by decide +kernel
theorem xd_88 : xk_88.all (fun q => xdchk (xby 88) q.1 q.2) = true := by decide +kernel
theorem xd_89 : xk_89.all (fun q => xdchk (xby 89) q.1 q.2) = true := by decide +kernel
theorem xd_90 : xk_90.all (fun q => xdchk (xby 90) q.1 q.2) = true := by decide +kernel
theorem xd_91 : xk_91.all (fun q => xdchk (xby 91) q.1 q.2) = true := by decide +kernel
theorem xd_92 : xk_92.all (fun q => xdchk (xby 92) q.1 q.2) = true := by decide +kernel
theorem xd_93 : xk_93.all (fun q => xdchk (xby 93) q.1 q.2) = true := by decide +kernel
theorem xd_94 : xk_94.all (fun q => xdchk (xby 94) q.1 q.2) = true := by decide +kernel
theorem xd_95 : xk_95.all (fun q => xdchk (xby 95) q.1 q.2) = true := by decide +kernel
theorem xd_96 : xk_96.all (fun q => xdchk (xby 96) q.1 q.2) = true := by decide +kernel
theorem xd_97 : xk_97.all (fun q => xdchk (xby 97) q.1 q.2) = true := by decide +kernel
theorem xd_98 : xk_98.all (fun q => xdchk (xby 98) q.1 q.2) = true := by decide +kernel
theorem xd_99 : xk_99.all (fun q => xdchk (xby 99) q.1 q.2) = true := by decide +kernel
theorem xd_100_0 : ((xk_100.drop 0).take 60).all (fun q => xdchk (xby 100) q.1 q.2) = true := by decide +kernel
theorem xd_100_60 : ((xk_100.drop 60).take 60).all (fun q => xdchk (xby 100) q.1 q.2) = true := by decide +kernel
theorem xd_100_120 : ((xk_100.drop 120).take 60).all (fun q => xdchk (xby 100) q.1 q.2) = true := by decide +kernel
theorem xd_100 : xk_100.all (fun q => xdchk (xby 100) q.1 q.2) = true := by
  have h : xk_100 = ((xk_100.drop 0).take 60) ++ (((xk_100.drop 60).take 60) ++ (((xk_100.drop 120).take 60))) := by decide +kernel
  rw [h]
  simp only [List.all_append, Bool.and_eq_true]
  exact ⟨xd_100_0, ⟨xd_100_60, xd_100_120⟩⟩
theorem xd_101_0 : ((xk_101.drop 0).take 60).all (fun q => xdchk (xby 101) q.1 q.2) = true := by decide +kernel
theorem xd_101_60 : ((xk_101.drop 60).take 60).all (fun q => xdchk (xby 101) q.1 q.2) = true := by decide +kernel
theorem xd_101 : xk_101.all (fun q => xdchk (xby 101) q.1 q.2) = true := by
  have h : xk_101 = ((xk_101.drop 0).take 60) ++ (((xk_101.drop 60).take 60)) := by decide +kernel
  rw [h]
  simp only [List.all_append, Bool.and_eq_true]
  exact ⟨xd_101_0, xd_101_60⟩
theorem xd_102 : xk_102.all (fun q => xdchk (xby 102) q.1 q.2) = true := by decide +kernel
theorem xd_103 : xk_103.all (fun q => xdchk (xby 103) q.1 q.2) = true := by decide +kernel
theorem xd_104 : xk_104.all (fun q => xdchk (xby 104) q.1 q.2) = true := by decide +kernel
theorem xd_105 : xk_105.all (fun q => xdchk (xby 105) q.1 q.2) = true := by decide +kernel
theorem xd_106 : xk_106.all (fun q => xdchk (xby 106) q.1 q.2) = true := by decide +kernel
theorem xd_107 : xk_107.all (fun q => xdchk (xby 107) q.1 q.2) = true := by decide +kernel
theorem xd_108 : xk_108.all (fun q => xdchk (xby 108) q.1 q.2) = true := by decide +kernel
theorem xd_109 : xk_109.all (fun q => xdchk (xby 109) q.1 q.2) = true := by decide +kernel
theorem xd_110 : xk_110.all (fun q => xdchk (xby 110) q.1 q.2) = true := by decide +kernel
theorem xd_111 : xk_111.all (fun q => xdchk (xby 111) q.1 q.2) = true := by decide +kernel
theorem xd_112 : xk_112.all (fun q => xdchk (xby 112) q.1 q.2) = true := by decide +kernel
theorem xd_113 : xk_113.all (fun q => xdchk (xby 113) q.1 q.2) = true := by decide +kernel
theorem xd_114 : xk_114.all (fun q => xdchk (xby 114) q.1 q.2) = true := by decide +kernel
theorem xd_115 : xk_115.all (fun q => xdchk (xby 115) q.1 q.2) = true := by decide +kernel
theorem xd_116 : xk_116.all (fun q => xdchk (xby 116) q.1 q.2) = true := by decide +kernel
theorem xd_117 : xk_117.all (fun q => xdchk (xby 117) q.1 q.2) = true := by decide +kernel
theorem xd_118 : xk_118.all (fun q => xdchk (xby 118) q.1 q.2) = true := by decide +kernel
theorem xd_119 : xk_119.all (fun q => xdchk (xby 119) q.1 q.2) = true := by decide +kernel
theorem xd_120 : xk_120.all (fun q => xdchk (xby 120) q.1 q.2) = true := by decide +kernel
theorem xd_121 : xk_121.all (fun q => xdchk (xby 121) q.1 q.2) = true := by decide +kernel
theorem xd_122 : xk_122.all (fun q => xdchk (xby 122) q.1 q.2) = true := by decide +kernel
theorem xd_123 : xk_123.all (fun q => xdchk (xby 123) q.1 q.2) = true := by decide +kernel
theorem xd_124 : xk_124.all (fun q => xdchk (xby 124) q.1 q.2) = true := by decide +kernel
theorem xd_125 : xk_125.all (fun q => xdchk (xby 125) q.1 q.2) = true := by decide +kernel
theorem xd_126 : xk_126.all (fun q => xdchk (xby 126) q.1 q.2) = true := by decide +kernel
theorem xd_127 : xk_127.all (fun q => xdchk (xby 127) q.1 q.2) = true := by decide +kernel
theorem xd_128 : xk_128.all (fun q => xdchk (xby 128) q.1 q.2) = true := by decide +kernel
theorem xd_129 : xk_129.all (fun q => xdchk (xby 129) q.1 q.2) = true := by decide +kernel
theorem xd_130 : xk_130.all (fun q => xdchk (xby 130) q.1 q.2) = true := by decide +kernel
theorem xd_131 : xk_131.all (fun q => xdchk (xby 131) q.1 q.2) = true := by decide +kernel
theorem xd_132 : xk_132.all (fun q => xdchk (xby 132) q.1 q.2) = true := by decide +kernel
theorem xd_133 : xk_133.all (fun q => xdchk (xby 133) q.1 q.2) = true := by decide +kernel
theorem xd_134 : xk_134.all (fun q => xdchk (xby 134) q.1 q.2) = true := by decide +kernel
theorem xd_135 : xk_135.all (fun q => xdchk (xby 135) q.1 q.2) = true := by decide +kernel
theorem xd_136 : xk_136.all (fun q => xdchk (xby 136) q.1 q.2) = true := by decide +kernel
theorem xd_137 : xk_137.all (fun q => xdchk (xby 137) q.1 q.2) = true := by decide +kernel
theorem xd_138 : xk_138.all (fun q => xdchk (xby 138) q.1 q.2) = true := by decide +kernel
theorem xd_139 : xk_139.all (fun q => xdchk (xby 139) q.1 q.2) = true := by decide +kernel
theorem xd_140 : xk_140.all (fun q => xdchk (xby 140) q.1 q.2) = true := by decide +kernel
theorem xd_141 : xk_141.all (fun q => xdchk (xby 141) q.1 q.2) = true := by decide +kernel
theorem xd_142 : xk_142.all (fun q => xdchk (xby 142) q.1 q.2) = true := by decide +kernel
theorem xd_143_0 : ((xk_143.drop 0).take 60).all (fun q => xdchk (xby 143) q.1 q.2) = true := by decide +kernel
theorem xd_143_60 : ((xk_143.drop 60).take 60).all (fun q => xdchk (xby 143) q.1 q.2) = true := by decide +kernel
theorem xd_143 : xk_143.all (fun q => xdchk (xby 143) q.1 q.2) = true := by
  have h : xk_143 = ((xk_143.drop 0).take 60) ++ (((xk_143.drop 60).take 60)) := by decide +kernel
  rw [h]
  simp only [List.all_append, Bool.and_eq_true]
  exact ⟨xd_143_0, xd_143_60⟩
theorem xd_144 : xk_144.all (fun q => xdchk (xby 144) q.1 q.2) = true := by decide +kernel
theorem xd_145 : xk_145.all (fun q => xdchk (xby 145) q.1 q.2) = true := by decide +kernel
theorem xd_146 : xk_146.all (fun q => xdchk (xby 146) q.1 q.2) = true := by decide +kernel
theorem xd_147 : xk_147.all (fun q => xdchk (xby 147) q.1 q.2) = true := by decide +kernel
theorem xd_148 : xk_148.all (fun q => xdchk (xby 148) q.1 q.2) = true := by decide +kernel
theorem xd_149 : xk_149.all (fun q => xdchk (xby 149) q.1 q.2) = true := by decide +kernel
theorem xd_150 : xk_150.all (fun q => xdchk (xby 150) q.1 q.2) = true := by decide +kernel
theorem xd_151 : xk_151.all (fun q => xdchk (xby 151) q.1 q.2) = true := by decide +kernel
theorem xd_152 : xk_152.all (fun q => xdchk (xby 152) q.1 q.2) = true := by decide +kernel
theorem xd_153_0 : ((xk_153.drop 0).take 60).all (fun q => xdchk (xby 153) q.1 q.2) = true := by decide +kernel
theorem xd_153_60 : ((xk_153.drop 60).take 60).all (fun q => xdchk (xby 153) q.1 q.2) = true := by decide +kernel
theorem xd_153_120 : ((xk_153.drop 120).take 60).all (fun q => xdchk (xby 153) q.1 q.2) = true := by decide +kernel
theorem xd_153 : xk_153.all (fun q => xdchk (xby 153) q.1 q.2) = true := by
  have h : xk_153 = ((xk_153.drop 0).take 60) ++ (((xk_153.drop 60).take 60) ++ (((xk_153.drop 120).take 60))) := by decide +kernel
  rw [h]
  simp only [List.all_append, Bool.and_eq_true]
  exact ⟨xd_153_0, ⟨xd_153_60, xd_153_120⟩⟩
theorem xd_154 : xk_154.all (fun q => xdchk (xby 154) q.1 q.2) = true := by decide +kernel
theorem xd_155 : xk_155.all (fun q => xdchk (xby 155) q.1 q.2) = true := by decide +kernel
theorem xd_156 : xk_156.all (fun q => xdchk (xby 156) q.1 q.2) = true := by decide +kernel
theorem xd_157 : xk_157.all (fun q => xdchk (xby 157) q.1 q.2) = true := by decide +kernel
theorem xd_158 : xk_158.all (fun q => xdchk (xby 158) q.1 q.2) = true := by decide +kernel
theorem xd_159 : xk_159.all (fun q => xdchk (xby 159) q.1 q.2) = true := by decide +kernel
theorem xd_160 : xk_160.all (fun q => xdchk (xby 160) q.1 q.2) = true := by decide +kernel
theorem xd_161 : xk_161.all (fun q => xdchk (xby 161) q.1 q.2) = true := by decide +kernel
theorem xd_162 : xk_162.all (fun q => xdchk (xby 162) q.1 q.2) = true := by decide +kernel
theorem xd_163_0 : ((xk_163.drop 0).take 60).all (fun q => xdchk (xby 163) q.1 q.2) = true := by decide +kernel
theorem xd_163_60 : ((xk_163.drop 60).take 60).all (fun q => xdchk (xby 163) q.1 q.2) = true := by decide +kernel
theorem xd_163 : xk_163.all (fun q => xdchk (xby 163) q.1 q.2) = true := by
  have h : xk_163 = ((xk_163.drop 0).take 60) ++ (((xk_163.drop 60).take 60)) := by decide +kernel
  rw [h]
  simp only [List.all_append, Bool.and_eq_true]
  exact ⟨xd_163_0, xd_163_60⟩
theorem xd_164 : xk_164.all (fun q => xdchk (xby 164) q.1 q.2) = true := by decide +kernel
theorem xd_165 : xk_165.all (fun q => xdchk (xby 165) q.1 q.2) = true := by decide +kernel
theorem xd_166 : xk_166.all (fun q => xdchk (xby 166) q.1 q.2) = true := by decide +kernel
theorem xd_167 : xk_167.all (fun q => xdchk (xby 167) q.1 q.2) = true := by decide +kernel
theorem xd_168 : xk_168.all (fun q => xdchk (xby 168) q.1 q.2) = true := by decide +kernel
theorem xd_169 : xk_169.all (fun q => xdchk (xby 169) q.1 q.2) = true := by decide +kernel
theorem xd_170 : xk_170.all (fun q => xdchk (xby 170) q.1 q.2) = true := by decide +kernel
theorem xd_171 : xk_171.all (fun q => xdchk (xby 171) q.1 q.2) = true := by decide +kernel
theorem xd_172_0 : ((xk_172.drop 0).take 60).all (fun q => xdchk (xby 172) q.1 q.2) = true := by decide +kernel
theorem xd_172_60 : ((xk_172.drop 60).take 60).all (fun q => xdchk (xby 172) q.1 q.2) = true := by decide +kernel
theorem xd_172 : xk_172.all (fun q => xdchk (xby 172) q.1 q.2) = true := by
  have h : xk_172 = ((xk_172.drop 0).take 60) ++ (((xk_172.drop 60).take 60)) := by decide +kernel
  rw [h]
  simp only [List.all_append, Bool.and_eq_true]
  exact ⟨xd_172_0, xd_172_60⟩
theorem xd_173 : xk_173.all (fun q => xdchk (xby 173) q.1 q.2) = true := by decide +kernel
theorem xd_174 : xk_174.all (fun q => xdchk (xby 174) q.1 q.2) = true := by decide +kernel
theorem xd_175_0 : ((xk_175.drop 0).take 60).all (fun q => xdchk (xby 175) q.1 q.2) = true := by decide +kernel
theorem xd_175_60 : ((xk_175.drop 60).take 60).all (fun q => xdchk (xby 175) q.1 q.2) = true := by decide +kernel
theorem xd_175 : xk_175.all (fun q => xdchk (xby 175) q.1 q.2) = true := by
  have h : xk_175 = ((xk_175.drop 0).take 60) ++ (((xk_175.drop 60).take 60)) := by decide +kernel
  rw [h]
  simp only [List.all_append, Bool.and_eq_true]
  exact ⟨xd_175_0, xd_175_60⟩
theorem xd_176 : xk_176.all (fun q => xdchk (xby 176) q.1 q.2) = true := by decide +kernel
theorem xd_177 : xk_177.all (fun q => xdchk (xby 177) q.1 q.2) = true := by decide +kernel
theorem xd_178 : xk_178.all (fun q => xdchk (xby 178) q.1 q.2) = true := by decide +kernel
theorem xd_179 : xk_179.all (fun q => xdchk (xby 179) q.1 q.2) = true := by decide +kernel
theorem xd_180 : xk_180.all (fun q => xdchk (xby 180) q.1 q.2) = true := by decide +kernel
theorem xd_181 : xk_181.all (fun q => xdchk (xby 181) q.1 q.2) = true := by decide +kernel
theorem xd_182 : xk_182.all (fun q => xdchk (xby 182) q.1 q.2) = true := by decide +kernel
theorem xd_183 : xk_183.all (fun q => xdchk (xby 183) q.1 q.2) = true := by decide +kernel
theorem xd_184 : xk_184.all (fun q => xdchk (xby 184) q.1 q.2) = true := by decide +kernel
theorem xd_185_0 : ((xk_185.drop 0).take 60).all (fun q => xdchk (xby 185) q.1 q.2) = true := by decide +kernel
theorem xd_185_60 : ((xk_185.drop 60).take 60).all (fun q => xdchk (xby 185) q.1 q.2) = true := by decide +kernel
theorem xd_185_120 : ((xk_185.drop 120).take 60).all (fun q => xdchk (xby 185) q.1 q.2) = true := by decide +kernel
theorem xd_185 : xk_185.all (fun q => xdchk (xby 185) q.1 q.2) = true := by
  have h : xk_185 = ((xk_185.drop 0).take 60) ++ (((xk_185.drop 60).take 60) ++ (((xk_185.drop 120).take 60))) := by decide +kernel
  rw [h]
  simp only [List.all_append, Bool.and_eq_true]
  exact ⟨xd_185_0, ⟨xd_185_60, xd_185_120⟩⟩
theorem xd_186_0 : ((xk_186.drop 0).take 60).all (fun q => xdchk (xby 186) q.1 q.2) = true := by decide +kernel
theorem xd_186_60 : ((xk_186.drop 60).take 60).all (fun q => xdchk (xby 186) q.1 q.2) = true := by decide +kernel
theorem xd_186 : xk_186.all (fun q => xdchk (xby 186) q.1 q.2) = true := by
  have h : xk_186 = ((xk_186.drop 0).take 60) ++ (((xk_186.drop 60).take 60)) := by decide +kernel
  rw [h]
  simp only [List.all_append, Bool.and_eq_true]
  exact ⟨xd_186_0, xd_186_60⟩
theorem xd_187 : xk_187.all (fun q => xdchk (xby 187) q.1 q.2) = true := by decide +kernel
theorem xd_188 : xk_188.all (fun q => xdchk (xby 188) q.1 q.2) = true := by decide +kernel
theorem xd_189 : xk_189.all (fun q => xdchk (xby 189) q.1 q.2) = true := by decide +kernel
theorem xd_190 : xk_190.all (fun q => xdchk (xby 190) q.1 q.2) = true := by decide +kernel
theorem xd_191_0 : ((xk_191.drop 0).take 60).all (fun q => xdchk (xby 191) q.1 q.2) = true := by decide +kernel
theorem xd_191_60 : ((xk_191.drop 60).take 60).all (fun q => xdchk (xby 191) q.1 q.2) = true := by decide +kernel
theorem xd_191_120 : ((xk_191.drop 120).take 60).all (fun q => xdchk (xby 191) q.1 q.2) = true := by decide +kernel
theorem xd_191 : xk_191.all (fun q => xdchk (xby 191) q.1 q.2) = true := by
  have h : xk_191 = ((xk_191.drop 0).take 60) ++ (((xk_191.drop 60).take 60) ++ (((xk_191.drop 120).take 60))) := by decide +kernel
  rw [h]
  simp only [List.all_append, Bool.and_eq_true]
  exact ⟨xd_191_0, ⟨xd_191_60, xd_191_120⟩⟩
theorem xd_192_0 : ((xk_192.drop 0).take 60).all (fun q => xdchk (xby 192) q.1 q.2) = true := by decide +kernel
theorem xd_192_60 : ((xk_192.drop 60).take 60).all (fun q => xdchk (xby 192) q.1 q.2) = true := by decide +kernel
theorem xd_192 : xk_192.all (fun q => xdchk (xby 192) q.1 q.2) = true := by
  have h : xk_192 = ((xk_192.drop 0).take 60) ++ (((xk_192.drop 60).take 60)) := by decide +kernel
  rw [h]
  simp only [List.all_append, Bool.and_eq_true]
  exact ⟨xd_192_0, xd_192_60⟩
theorem xd_193_0 : ((xk_193.drop 0).take 60).all (fun q => xdchk (xby 193) q.1 q.2) = true := by decide +kernel
theorem xd_193_60 : ((xk_193.drop 60).take 60).all (fun q => xdchk (xby 193) q.1 q.2) = true := by decide +kernel
theorem xd_193 : xk_193.all (fun q => xdchk (xby 193) q.1 q.2) = true := by
  have h : xk_193 = ((xk_193.drop 0).take 60) ++ (((xk_193.drop 60).take 60)) := by decide +kernel
  rw [h]
  simp only [List.all_append, Bool.and_eq_true]
  exact ⟨xd_193_0, xd_193_60⟩
theorem xd_194 : xk_194.all (fun q => xdchk (xby 194) q.1 q.2) = true := by decide +kernel
theorem xd_195_0 : ((xk_195.drop 0).take 60).all (fun q => xdchk (xby 195) q.1 q.2) = true := by decide +kernel
theorem xd_195_60 : ((xk_195.drop 60).take 60).all (fun q => xdchk (xby 195) q.1 q.2) = true := by decide +kernel
theorem xd_195_120 : ((xk_195.drop 120).take 60).all (fun q => xdchk (xby 195) q.1 q.2) = true := by decide +kernel
theorem xd_195 : xk_195.all (fun q => xdchk (xby 195) q.1 q.2) = true := by
  have h : xk_195 = ((xk_195.drop 0).take 60) ++ (((xk_195.drop 60).take 60) ++ (((xk_195.drop 120).take 60))) := by decide +kernel
  rw [h]
  simp only [List.all_append, Bool.and_eq_true]
  exact ⟨xd_195_0, ⟨xd_195_60, xd_195_120⟩⟩
theorem xd_196 : xk_196.all (fun q => xdchk (xby 196) q.1 q.2) = true := by decide +kernel
theorem xd_197 : xk_197.all (fun q => xdchk (xby 197) q.1 q.2) = true := by decide +kernel
theorem xd_198_0 : ((xk_198.drop 0).take 60).all (fun q => xdchk (xby 198) q.1 q.2) = true := by decide +kernel
theorem xd_198_60 : ((xk_198.drop 60).take 60).all (fun q => xdchk (xby 198) q.1 q.2) = true := by decide +kernel
theorem xd_198 : xk_198.all (fun q => xdchk (xby 198) q.1 q.2) = true := by
  have h : xk_198 = ((xk_198.drop 0).take 60) ++ (((xk_198.drop 60).take 60)) := by decide +kernel
  rw [h]
  simp only [List.all_append, Bool.and_eq_true]
  exact ⟨xd_198_0, xd_198_60⟩
theorem xd_199_0 : ((xk_199.drop 0).take 60).all (fun q => xdchk (xby 199) q.1 q.2) = true := by decide +kernel
theorem xd_199_60 : ((xk_199.drop 60).take 60).all (fun q => xdchk (xby 199) q.1 q.2) = true := by decide +kernel
theorem xd_199 : xk_199.all (fun q => xdchk (xby 199) q.1 q.2) = true := by
  have h : xk_199 = ((xk_199.drop 0).take 60) ++ (((xk_199.drop 60).take 60)) := by decide +kernel
  rw [h]
  simp only [List.all_append, Bool.and_eq_true]
  exact ⟨xd_199_0, xd_199_60⟩
theorem xd_200_0 : ((xk_200.drop 0).take 60).all (fun q => xdchk (xby 200) q.1 q.2) = true := by decide +kernel
theorem xd_200_60 : ((xk_200.drop 60).take 60).all (fun q => xdchk (xby 200) q.1 q.2) = true := by decide +kernel
theorem xd_200 : xk_200.all (fun q => xdchk (xby 200) q.1 q.2) = true := by
  have h : xk_200 = ((xk_200.drop 0).take 60) ++ (((xk_200.drop 60).take 60)) := by decide +kernel
  rw [h]
  simp only [List.all_append, Bool.and_eq_true]
  exact ⟨xd_200_0, xd_200_60⟩
theorem xd_201_0 : ((xk_201.drop 0).take 60).all (fun q => xdchk (xby 201) q.1 q.2) = true := by decide +kernel
theorem xd_201_60 : ((xk_201.drop 60).take 60).all (fun q => xdchk (xby 201) q.1 q.2) = true := by decide +kernel
theorem xd_201 : xk_201.all (fun q => xdchk (xby 201) q.1 q.2) = true := by
  have h : xk_201 = ((xk_201.drop 0).take 60) ++ (((xk_201.drop 60).take 60)) := by decide +kernel
  rw [h]
  simp only [List.all_append, Bool.and_eq_true]
  exact ⟨xd_201_0, xd_201_60⟩
theorem xd_202 : xk_202.all (fun q => xdchk (xby 202) q.1 q.2) = true := by decide +kernel
theorem xd_203 : xk_203.all (fun q => xdchk (xby 203) q.1 q.2) = true := by decide +kernel
theorem xd_204 : xk_204.all (fun q => xdchk (xby 204) q.1 q.2) = true := by decide +kernel
theorem xd_205 : xk_205.all (fun q => xdchk (xby 205) q.1 q.2) = true := by decide +kernel
theorem xd_206 : xk_206.all (fun q => xdchk (xby 206) q.1 q.2) = true := by decide +kernel
theorem xd_207 : xk_207.all (fun q => xdchk (xby 207) q.1 q.2) = true := by decide +kernel
theorem xd_208 : xk_208.all (fun q => xdchk (xby 208) q.1 q.2) = true := by decide +kernel
theorem xd_209 : xk_209.all (fun q => xdchk (xby 209) q.1 q.2) = true := by decide +kernel
theorem xd_210 : xk_210.all (fun q => xdchk (xby 210) q.1 q.2) = true := by decide +kernel
theorem xd_211 : xk_211.all (fun q => xdchk (xby 211) q.1 q.2) = true := by decide +kernel
theorem xd_212 : xk_212.all (fun q => xdchk (xby 212) q.1 q.2) = true := by decide +kernel
theorem xd_213 : xk_213.all (fun q => xdchk (xby 213) q.1 q.2) = true := by decide +kernel
theorem xd_214 : xk_214.all (fun q => xdchk (xby 214) q.1 q.2) = true := by decide +kernel
theorem xd_215 : xk_215.all (fun q => xdchk (xby 215) q.1 q.2) = true := by decide +kernel
theorem xd_216 : xk_216.all (fun q => xdchk (xby 216) q.1 q.2) = true := by decide +kernel
theorem xd_217 : xk_217.all (fun q => xdchk (xby 217) q.1 q.2) = true := by decide +kernel
theorem xd_218 : xk_218.all (fun q => xdchk (xby 218) q.1 q.2) = true := by decide +kernel
theorem xd_219 : xk_219.all (fun q => xdchk (xby 219) q.1 q.2) = true := by decide +kernel
theorem xd_220 : xk_220.all (fun q => xdchk (xby 220) q.1 q.2) = true := by decide +kernel
theorem xd_221 : xk_221.all (fun q => xdchk (xby 221) q.1 q.2) = true := by decide +kernel
theorem xd_222 : xk_222.all (fun q => xdchk (xby 222) q.1 q.2) = true := by decide +kernel
theorem xd_223 : xk_223.all (fun q => xdchk (xby 223) q.1 q.2) = true := by decide +kernel
theorem xd_224 : xk_224.all (fun q => xdchk (xby 224) q.1 q.2) = true := by decide +kernel
theorem xd_225 : xk_225.all (fun q => xdchk (xby 225) q.1 q.2) = true := by decide +kernel
theorem xd_226 : xk_226.all (fun q => xdchk (xby 226) q.1 q.2) = true := by decide +kernel
theorem xd_227_0 : ((xk_227.drop 0).take 60).all (fun q => xdchk (xby 227) q.1 q.2) = true := by decide +kernel
theorem xd_227_60 : ((xk_227.drop 60).take 60).all (fun q => xdchk (xby 227) q.1 q.2) = true := by decide +kernel
theorem xd_227_120 : ((xk_227.drop 120).take 60).all (fun q => xdchk (xby 227) q.1 q.2) = true := by decide +kernel
theorem xd_227 : xk_227.all (fun q => xdchk (xby 227) q.1 q.2) = true := by
  have h : xk_227 = ((xk_227.drop 0).take 60) ++ (((xk_227.drop 60).take 60) ++ (((xk_227.drop 120).take 60))) := by decide +kernel
  rw [h]
  simp only [List.all_append, Bool.and_eq_true]
  exact ⟨xd_227_0, ⟨xd_227_60, xd_227_120⟩⟩
theorem xd_228 : xk_228.all (fun q => xdchk (xby 228) q.1 q.2) = true := by decide +kernel
theorem xd_229_0 : ((xk_229.drop 0).take 60).all (fun q => xdchk (xby 229) q.1 q.2) = true := by decide +kernel
theorem xd_229_60 : ((xk_229.drop 60).take 60).all (fun q => xdchk (xby 229) q.1 q.2) = true := by decide +kernel
theorem xd_229 : xk_229.all (fun q => xdchk (xby 229) q.1 q.2) = true := by
  have h : xk_229 = ((xk_229.drop 0).take 60) ++ (((xk_229.drop 60).take 60)) := by decide +kernel
  rw [h]
  simp only [List.all_append, Bool.and_eq_true]
  exact ⟨xd_229_0, xd_229_60⟩
theorem xd_230_0 : ((xk_230.drop 0).take 60).all (fun q => xdchk (xby 230) q.1 q.2) = true := by decide +kernel
theorem xd_230_60 : ((xk_230.drop 60).take 60).all (fun q => xdchk (xby 230) q.1 q.2) = true := by decide +kernel
theorem xd_230 : xk_230.all (fun q => xdchk (xby 230) q.1 q.2) = true := by
  have h : xk_230 = ((xk_230.drop 0).take 60) ++ (((xk_230.drop 60).take 60)) := by decide +kernel
  rw [h]
  simp only [List.all_append, Bool.and_eq_true]
  exact ⟨xd_230_0, xd_230_60⟩
theorem xd_231 : xk_231.all (fun q => xdchk (xby 231) q.1 q.2) = true := by decide +kernel
theorem xd_232 : xk_232.all (fun q => xdchk (xby 232) q.1 q.2) = true := by decide +kernel
theorem xd_233 : xk_233.all (fun q => xdchk (xby 233) q.1 q.2) = true := by decide +kernel
theorem xd_234 : xk_234.all (fun q => xdchk (xby 234) q.1 q.2) = true := by decide +kernel
theorem xd_235 : xk_235.all (fun q => xdchk (xby 235) q.1 q.2) = true := by decide +kernel
theorem xd_236 : xk_236.all (fun q => xdchk (xby 236) q.1 q.2) = true := by decide +kernel
theorem xd_237 : xk_237.all (fun q => xdchk (xby 237) q.1 q.2) = true := by decide +kernel
theorem xd_238 : xk_238.all (fun q => xdchk (xby 238) q.1 q.2) = true := by decide +kernel
theorem xd_239 : xk_239.all (fun q => xdchk (xby 239) q.1 q.2) = true := by decide +kernel
theorem xd_240 : xk_240.all (fun q => xdchk (xby 240) q.1 q.2) = true := by decide +kernel
theorem xd_241 : xk_241.all (fun q => xdchk (xby 241) q.1 q.2) = true := by decide +kernel
theorem xd_242 : xk_242.all (fun q => xdchk (xby 242) q.1 q.2) = true := by decide +kernel
theorem xd_243 : xk_243.all (fun q => xdchk (xby 243) q.1 q.2) = true := by decide +kernel
theorem xd_244 : xk_244.all (fun q => xdchk (xby 244) q.1 q.2) = true := by decide +kernel
theorem xd_245 : xk_245.all (fun q => xdchk (xby 245) q.1 q.2) = true := by decide +kernel
theorem xd_246 : xk_246.all (fun q => xdchk (xby 246) q.1 q.2) = true := by decide +kernel
theorem xd_247 : xk_247.all (fun q => xdchk (xby 247) q.1 q.2) = true := by decide +kernel
theorem xd_248 : xk_248.all (fun q => xdchk (xby 248) q.1 q.2) = true := by decide +kernel
theorem xd_249 : xk_249.all (fun q => xdchk (xby 249) q.1 q.2) = true := by decide +kernel
theorem xd_250 : xk_250.all (fun q => xdchk (xby 250) q.1 q.2) = true := by decide +kernel
theorem xd_251 : xk_251.all (fun q => xdchk (xby 251) q.1 q.2) = true := by decide +kernel
theorem xd_252 : xk_252.all (fun q => xdchk (xby 252) q.1 q.2) = true := by decide +kernel
theorem xd_253 : xk_253.all (fun q => xdchk (xby 253) q.1 q.2) = true := by decide +kernel
theorem xd_254 : xk_254.all (fun q => xdchk (xby 254) q.1 q.2) = true := by decide +kernel
theorem xd_255 : xk_255.all (fun q => xdchk (xby 255) q.1 q.2) = true := by decide +kernel
theorem xd_256 : xk_256.all (fun q => xdchk (xby 256) q.1 q.2) = true := by decide +kernel
theorem xd_257 : xk_257.all (fun q => xdchk (xby 257) q.1 q.2) = true := by decide +kernel
theorem xd_258 : xk_258.all (fun q => xdchk (xby 258) q.1 q.2) = true := by decide +kernel
theorem xd_259 : xk_259.all (fun q => xdchk (xby 259) q.1 q.2) = true := by decide +kernel
theorem xd_260 : xk_260.all (fun q => xdchk (xby 260) q.1 q.2) = true := by decide +kernel
theorem xd_261_0 : ((xk_261.drop 0).take 60).all (fun q => xdchk (xby 261) q.1 q.2) = true := by decide +kernel
theorem xd_261_60 : ((xk_261.drop 60).take 60).all (fun q => xdchk (xby 261) q.1 q.2) = true := by decide +kernel
theorem xd_261_120 : ((xk_261.drop 120).take 60).all (fun q => xdchk (xby 261) q.1 q.2) = true := by decide +kernel
theorem xd_261_180 : ((xk_261.drop 180).take 60).all (fun q => xdchk (xby 261) q.1 q.2) = true := by decide +kernel
theorem xd_261_240 : ((xk_261.drop 240).take 60).all (fun q => xdchk (xby 261) q.1 q.2) = true := by decide +kernel
theorem xd_261_300 : ((xk_261.drop 300).take 60).all (fun q => xdchk (xby 261) q.1 q.2) = true := by decide +kernel
theorem xd_261_360 : ((xk_261.drop 360).take 60).all (fun q => xdchk (xby 261) q.1 q.2) = true := by decide +kernel
theorem xd_261_420 : ((xk_261.drop 420).take 60).all (fun q => xdchk (xby 261) q.1 q.2) = true := by decide +kernel
theorem xd_261_480 : ((xk_261.drop 480).take 60).all (fun q => xdchk (xby 261) q.1 q.2) = true := by decide +kernel
theorem xd_261_540 : ((xk_261.drop 540).take 60).all (fun q => xdchk (xby 261) q.1 q.2) = true := by decide +kernel
theorem xd_261_600 : ((xk_261.drop 600).take 60).all (fun q => xdchk (xby 261) q.1 q.2) = true := by decide +kernel
theorem xd_261_660 : ((xk_261.drop 660).take 60).all (fun q => xdchk (xby 261) q.1 q.2) = true := by decide +kernel
theorem xd_261_720 : ((xk_261.drop 720).take 60).all (fun q => xdchk (xby 261) q.1 q.2) = true := by decide +kernel
theorem xd_261_780 : ((xk_261.drop 780).take 60).all (fun q => xdchk (xby 261) q.1 q.2) = true := by decide +kernel
theorem xd_261_840 : ((xk_261.drop 840).take 60).all (fun q => xdchk (xby 261) q.1 q.2) = true := by decide +kernel
theorem xd_261_900 : ((xk_261.drop 900).take 60).all (fun q => xdchk (xby 261) q.1 q.2) = true := by decide +kernel
theorem xd_261_960 : ((xk_261.drop 960).take 60).all (fun q => xdchk (xby 261) q.1 q.2) = true := by decide +kernel
theorem xd_261_1020 : ((xk_261.drop 1020).take 60).all (fun q => xdchk (xby 261) q.1 q.2) = true := by decide +kernel
theorem xd_261_1080 : ((xk_261.drop 1080).take 60).all (fun q => xdchk (xby 261) q.1 q.2) = true := by decide +kernel
theorem xd_261 : xk_261.all (fun q => xdchk (xby 261) q.1 q.2) = true := by
  have h : xk_261 = ((xk_261.drop 0).take 60) ++ (((xk_261.drop 60).take 60) ++ (((xk_261.drop 120).take 60) ++ (((xk_261.drop 180).take 60) ++ (((xk_261.drop 240).take 60) ++ (((xk_261.drop 300).take 60) ++ (((xk_261.drop 360).take 60) ++ (((xk_261.drop 420).take 60) ++ (((xk_261.drop 480).take 60) ++ (((xk_261.drop 540).take 60) ++ (((xk_261.drop 600).take 60) ++ (((xk_261.drop 660).take 60) ++ (((xk_261.drop 720).take 60) ++ (((xk_261.drop 780).take 60) ++ (((xk_261.drop 840).take 60) ++ (((xk_261.drop 900).take 60) ++ (((xk_261.drop 960).take 60) ++ (((xk_261.drop 1020).take 60) ++ (((xk_261.drop 1080).take 60))))))))))))))))))) := by decide +kernel
  rw [h]
  simp only [List.all_append, Bool.and_eq_true]
  exact ⟨xd_261_0, ⟨xd_261_60, ⟨xd_261_120, ⟨xd_261_180, ⟨xd_261_240, ⟨xd_261_300, ⟨xd_261_360, ⟨xd_261_420, ⟨xd_261_480, ⟨xd_261_540, ⟨xd_261_600, ⟨xd_261_660, ⟨xd_261_720, ⟨xd_261_780, ⟨xd_261_840, ⟨xd_261_900, ⟨xd_261_960, ⟨xd_261_1020, xd_261_1080⟩⟩⟩⟩⟩⟩⟩⟩⟩⟩⟩⟩⟩⟩⟩⟩⟩⟩
def xDok (mi : Nat) : Prop := ∀ l, xcode[mi]? = some l → l.all (fun q => xdchk (xby mi) q.1 q.2) = true
def xDs_l0 : List (Nat) := [0, 1, 2, 3, 4, 5, 6, 7, 8, 9, 10, 11, 12, 13, 14, 15]
theorem xDs_b0 : ∀ q ∈ xDs_l0, xDok q := List.forall_mem_cons.mpr ⟨(fun l h => by cases h; exact xd_0), List.forall_mem_cons.mpr ⟨(fun l h => by cases h; exact xd_1), List.forall_mem_cons.mpr ⟨(fun l h => by cases h; exact xd_2), List.forall_mem_cons.mpr ⟨(fun l h => by cases h; exact xd_3), List.forall_mem_cons.mpr ⟨(fun l h => by cases h; exact xd_4), List.forall_mem_cons.mpr ⟨(fun l h => by cases h; exact xd_5), List.forall_mem_cons.mpr ⟨(fun l h => by cases h; exact xd_6), List.forall_mem_cons.mpr ⟨(fun l h => by cases h; exact xd_7), List.forall_mem_cons.mpr ⟨(fun l h => by cases h; exact xd_8), List.forall_mem_cons.mpr ⟨(fun l h => by cases h; exact xd_9), List.forall_mem_cons.mpr ⟨(fun l h => by cases h; exact xd_10), List.forall_mem_cons.mpr ⟨(fun l h => by cases h; exact xd_11), List.forall_mem_cons.mpr ⟨(fun l h => by cases h; exact xd_12), List.forall_mem_cons.mpr ⟨(fun l h => by cases h; exact xd_13), List.forall_mem_cons.mpr ⟨(fun l h => by cases h; exact xd_14), List.forall_mem_cons.mpr ⟨(fun l h => by cases h; exact xd_15), fun _ h => absurd h List.not_mem_nil⟩⟩⟩⟩⟩⟩⟩⟩⟩⟩⟩⟩⟩⟩⟩⟩
def xDs_l16 : List (Nat) := [16, 17, 18, 19, 20, 21, 22, 23, 24, 25, 26, 27, 28, 29, 30, 31]
theorem xDs_b16 : ∀ q ∈ xDs_l16, xDok q := List.forall_mem_cons.mpr ⟨(fun l h => by cases h; exact xd_16), List.forall_mem_cons.mpr ⟨(fun l h => by cases h; exact xd_17), List.forall_mem_cons.mpr ⟨(fun l h => by cases h; exact xd_18), List.forall_mem_cons.mpr ⟨(fun l h => by cases h; exact xd_19), List.forall_mem_cons.mpr ⟨(fun l h => by cases h; exact xd_20), List.forall_mem_cons.mpr ⟨(fun l h => by cases h; exact xd_21), List.forall_mem_cons.mpr ⟨(fun l h => by cases h; exact xd_22), List.forall_mem_cons.mpr ⟨(fun l h => by cases h; exact xd_23), List.forall_mem_cons.mpr ⟨(fun l h => by cases h; exact xd_24), List.forall_mem_cons.mpr ⟨(fun l h => by cases h; exact xd_25), List.forall_mem_cons.mpr ⟨(fun l h => by cases h; exact xd_26), List.forall_mem_cons.mpr ⟨(fun l h => by cases h; exact xd_27), List.forall_mem_cons.mpr ⟨(fun l h => by cases h; exact xd_28), List.forall_mem_cons.mpr ⟨(fun l h => by cases h; exact xd_29), List.forall_mem_cons.mpr ⟨(fun l h => by cases h; exact xd_30), List.forall_mem_cons.mpr ⟨(fun l h => by cases h; exact xd_31), fun _ h => absurd h List.not_mem_nil⟩⟩⟩⟩⟩⟩⟩⟩⟩⟩⟩⟩⟩⟩⟩⟩
def xDs_l32 : List (Nat) := [32, 33, 34, 35, 36, 37, 38, 39, 40, 41, 42, 43, 44, 45, 46, 47]
theorem xDs_b32 : ∀ q ∈ xDs_l32, xDok q := List.forall_mem_cons.mpr ⟨(fun l h => by cases h; exact xd_32), List.forall_mem_cons.mpr ⟨(fun l h => by cases h; exact xd_33), List.forall_mem_cons.mpr ⟨(fun l h => by cases h; exact xd_34), List.forall_mem_cons.mpr ⟨(fun l h => by cases h; exact xd_35), List.forall_mem_cons.mpr ⟨(fun l h => by cases h; exact xd_36), List.forall_mem_cons.mpr ⟨(fun l h => by cases h; exact xd_37), List.forall_mem_cons.mpr ⟨(fun l h => by cases h; exact xd_38), List.forall_mem_cons.mpr ⟨(fun l h => by cases h; exact xd_39), List.forall_mem_cons.mpr ⟨(fun l h => by cases h; exact xd_40), List.forall_mem_cons.mpr ⟨(fun l h => by cases h; exact xd_41), List.forall_mem_cons.mpr ⟨(fun l h => by cases h; exact xd_42), List.forall_mem_cons.mpr ⟨(fun l h => by cases h; exact xd_43), List.forall_mem_cons.mpr ⟨(fun l h => by cases h; exact xd_44), List.forall_mem_cons.mpr ⟨(fun l h => by cases h; exact xd_45), List.forall_mem_cons.mpr ⟨(fun l h => by cases h; exact xd_46), List.forall_mem_cons.mpr ⟨(fun l h => by cases h; exact xd_47), fun _ h => absurd h List.not_mem_nil⟩⟩⟩⟩⟩⟩⟩⟩⟩⟩⟩⟩⟩⟩⟩⟩
def xDs_l48 : List (Nat) := [48, 49, 50, 51, 52, 53, 54, 55, 56, 57, 58, 59, 60, 61, 62, 63]
theorem xDs_b48 : ∀ q ∈ xDs_l48, xDok q := List.forall_mem_cons.mpr ⟨(fun l h => by cases h; exact xd_48), List.forall_mem_cons.mpr ⟨(fun l h => by cases h; exact xd_49), List.forall_mem_cons.mpr ⟨(fun l h => by cases h; exact xd_50), List.forall_mem_cons.mpr ⟨(fun l h => by cases h; exact xd_51), List.forall_mem_cons.mpr ⟨(fun l h => by cases h; exact xd_52), List.forall_mem_cons.mpr ⟨(fun l h => by cases h; exact xd_53), List.forall_mem_cons.mpr ⟨(fun l h => by cases h; exact xd_54), List.forall_mem_cons.mpr ⟨(fun l h => by cases h; exact xd_55), List.forall_mem_cons.mpr ⟨(fun l h => by cases h; exact xd_56), List.forall_mem_cons.mpr ⟨(fun l h => by cases h; exact xd_57), List.forall_mem_cons.mpr ⟨(fun l h => by cases h; exact xd_58), List.forall_mem_cons.mpr ⟨(fun l h => by cases h; exact xd_59), List.forall_mem_cons.mpr ⟨(fun l h => by cases h; exact xd_60), List.forall_mem_cons.mpr ⟨(fun l h => by cases h; exact xd_61), List.forall_mem_cons.mpr ⟨(fun l h => by cases h; exact xd_62), List.forall_mem_cons.mpr ⟨(fun l h => by cases h; exact xd_63), fun _ h => absurd h List.not_mem_nil⟩⟩⟩⟩⟩⟩⟩⟩⟩⟩⟩⟩⟩⟩⟩⟩
def xDs_l64 : List (Nat) := [64, 65, 66, 67, 68, 69, 70, 71, 72, 73, 74, 75, 76, 77, 78, 79]
theorem xDs_b64 : ∀ q ∈ xDs_l64, xDok q := List.forall_mem_cons.mpr ⟨(fun l h => by cases h; exact xd_64), List.forall_mem_cons.mpr ⟨(fun l h => by cases h; exact xd_65), List.forall_mem_cons.mpr ⟨(fun l h => by cases h; exact xd_66), List.forall_mem_cons.mpr ⟨(fun l h => by cases h; exact xd_67), List.forall_mem_cons.mpr ⟨(fun l h => by cases h; exact xd_68), List.forall_mem_cons.mpr ⟨(fun l h => by cases h; exact xd_69), List.forall_mem_cons.mpr ⟨(fun l h => by cases h; exact xd_70), List.forall_mem_cons.mpr ⟨(fun l h => by cases h; exact xd_71), List.forall_mem_cons.mpr ⟨(fun l h => by cases h; exact xd_72), List.forall_mem_cons.mpr ⟨(fun l h => by cases h; exact xd_73), List.forall_mem_cons.mpr ⟨(fun l h => by cases h; exact xd_74), List.forall_mem_cons.mpr ⟨(fun l h => by cases h; exact xd_75), List.forall_mem_cons.mpr ⟨(fun l h => by cases h; exact xd_76), List.forall_mem_cons.mpr ⟨(fun l h => by cases h; exact xd_77), List.forall_mem_cons.mpr ⟨(fun l h => by cases h; exact xd_78), List.forall_mem_cons.mpr ⟨(fun l h => by cases h; exact xd_79), fun _ h => absurd h List.not_mem_nil⟩⟩⟩⟩⟩⟩⟩⟩⟩⟩⟩⟩⟩⟩⟩⟩
def xDs_l80 : List (Nat) := [80, 81, 82, 83, 84, 85, 86, 87, 88, 89, 90, 91, 92, 93, 94, 95]
theorem xDs_b80 : ∀ q ∈ xDs_l80, xDok q := List.forall_mem_cons.mpr ⟨(fun l h => by cases h; exact xd_80), List.forall_mem_cons.mpr ⟨(fun l h => by cases h; exact xd_81), List.forall_mem_cons.mpr ⟨(fun l h => by cases h; exact xd_82), List.forall_mem_cons.mpr ⟨(fun l h => by cases h; exact xd_83), List.forall_mem_cons.mpr ⟨(fun l h => by cases h; exact xd_84), List.forall_mem_cons.mpr ⟨(fun l h => by cases h; exact xd_85), List.forall_mem_cons.mpr ⟨(fun l h => by cases h; exact xd_86), List.forall_mem_cons.mpr ⟨(fun l h => by cases h; exact xd_87), List.forall_mem_cons.mpr ⟨(fun l h => by cases h; exact xd_88), List.forall_mem_cons.mpr ⟨(fun l h => by cases h; exact xd_89), List.forall_mem_cons.mpr ⟨(fun l h => by cases h; exact xd_90), List.forall_mem_cons.mpr ⟨(fun l h => by cases h; exact xd_91), List.forall_mem_cons.mpr ⟨(fun l h => by cases h; exact xd_92), List.forall_mem_cons.mpr ⟨(fun l h => by cases h; exact xd_93), List.forall_mem_cons.mpr ⟨(fun l h => by cases h; exact xd_94), List.forall_mem_cons.mpr ⟨(fun l h => by cases h; exact xd_95), fun _ h => absurd h List.not_mem_nil⟩⟩⟩⟩⟩⟩⟩⟩⟩⟩⟩⟩⟩⟩⟩⟩
def xDs_l96 : List (Nat) := [96, 97, 98, 99, 100, 101, 102, 103, 104, 105, 106, 107, 108, 109, 110, 111]
theorem xDs_b96 : ∀ q ∈ xDs_l96, xDok q := List.forall_mem_cons.mpr ⟨(fun l h => by cases h; exact xd_96), List.forall_mem_cons.mpr ⟨(fun l h => by cases h; exact xd_97), List.forall_mem_cons.mpr ⟨(fun l h => by cases h; exact xd_98), List.forall_mem_cons.mpr ⟨(fun l h => by cases h; exact xd_99), List.forall_mem_cons.mpr ⟨(fun l h => by cases h; exact xd_100), List.forall_mem_cons.mpr ⟨(fun l h => by cases h; exact xd_101), List.forall_mem_cons.mpr ⟨(fun l h => by cases h; exact xd_102), List.forall_mem_cons.mpr ⟨(fun l h => by cases h; exact xd_103), List.forall_mem_cons.mpr ⟨(fun l h => by cases h; exact xd_104), List.forall_mem_cons.mpr ⟨(fun l h => by cases h; exact xd_105), List.forall_mem_cons.mpr ⟨(fun l h => by cases h; exact xd_106), List.forall_mem_cons.mpr ⟨(fun l h => by cases h; exact xd_107), List.forall_mem_cons.mpr ⟨(fun l h => by cases h; exact xd_108), List.forall_mem_cons.mpr ⟨(fun l h => by cases h; exact xd_109), List.forall_mem_cons.mpr ⟨(fun l h => by cases h; exact xd_110), List.forall_mem_cons.mpr ⟨(fun l h => by cases h; exact xd_111), fun _ h => absurd h List.not_mem_nil⟩⟩⟩⟩⟩⟩⟩⟩⟩⟩⟩⟩⟩⟩⟩⟩
def xDs_l112 : List (Nat) := [112, 113, 114, 115, 116, 117, 118, 119, 120, 121, 122, 123, 124, 125, 126, 127]
theorem xDs_b112 : ∀ q ∈ xDs_l112, xDok q := List.forall_mem_cons.mpr ⟨(fun l h => by cases h; exact xd_112), List.forall_mem_cons.mpr ⟨(fun l h => by cases h; exact xd_113), List.forall_mem_cons.mpr ⟨(fun l h => by cases h; exact xd_114), List.forall_mem_cons.mpr ⟨(fun l h => by cases h; exact xd_115), List.forall_mem_cons.mpr ⟨(fun l h => by cases h; exact xd_116), List.forall_mem_cons.mpr ⟨(fun l h => by cases h; exact xd_117), List.forall_mem_cons.mpr ⟨(fun l h => by cases h; exact xd_118), List.forall_mem_cons.mpr ⟨(fun l h => by cases h; exact xd_119), List.forall_mem_cons.mpr ⟨(fun l h => by cases h; exact xd_120), List.forall_mem_cons.mpr ⟨(fun l h => by cases h; exact xd_121), List.forall_mem_cons.mpr ⟨(fun l h => by cases h; exact xd_122), List.forall_mem_cons.mpr ⟨(fun l h => by cases h; exact xd_123), List.forall_mem_cons.mpr ⟨(fun l h => by cases h; exact xd_124), List.forall_mem_cons.mpr ⟨(fun l h => by cases h; exact xd_125), List.forall_mem_cons.mpr ⟨(fun l h => by cases h; exact xd_126), List.forall_mem_cons.mpr ⟨(fun l h => by cases h; exact xd_127), fun _ h => absurd h List.not_mem_nil⟩⟩⟩⟩⟩⟩⟩⟩⟩⟩⟩⟩⟩⟩⟩⟩
def xDs_l128 : List (Nat) := [128, 129, 130, 131, 132, 133, 134, 135, 136, 137, 138, 139, 140, 141, 142, 143]
theorem xDs_b128 : ∀ q ∈ xDs_l128, xDok q := List.forall_mem_cons.mpr ⟨(fun l h => by cases h; exact xd_128), List.forall_mem_cons.mpr ⟨(fun l h => by cases h; exact xd_129), List.forall_mem_cons.mpr ⟨(fun l h => by cases h; exact xd_130), List.forall_mem_cons.mpr ⟨(fun l h => by cases h; exact xd_131), List.forall_mem_cons.mpr ⟨(fun l h => by cases h; exact xd_132), List.forall_mem_cons.mpr ⟨(fun l h => by cases h; exact xd_133), List.forall_mem_cons.mpr ⟨(fun l h => by cases h; exact xd_134), List.forall_mem_cons.mpr ⟨(fun l h => by cases h; exact xd_135), List.forall_mem_cons.mpr ⟨(fun l h => by cases h; exact xd_136), List.forall_mem_cons.mpr ⟨(fun l h => by cases h; exact xd_137), List.forall_mem_cons.mpr ⟨(fun l h => by cases h; exact xd_138), List.forall_mem_cons.mpr ⟨(fun l h => by cases h; exact xd_139), List.forall_mem_cons.mpr ⟨(fun l h => by cases h; exact xd_140), List.forall_mem_cons.mpr ⟨(fun l h => by cases h; exact xd_141), List.forall_mem_cons.mpr ⟨(fun l h => by cases h; exact xd_142), List.forall_mem_cons.mpr ⟨(fun l h => by cases h; exact xd_143), fun _ h => absurd h List.not_mem_nil⟩⟩⟩⟩⟩⟩⟩⟩⟩⟩⟩⟩⟩⟩⟩⟩
def xDs_l144 : List (Nat) := [144, 145, 146, 147, 148, 149, 150, 151, 152, 153, 154, 155, 156, 157, 158, 159]
theorem xDs_b144 : ∀ q ∈ xDs_l144, xDok q := List.forall_mem_cons.mpr ⟨(fun l h => by cases h; exact xd_144), List.forall_mem_cons.mpr ⟨(fun l h => by cases h; exact xd_145), List.forall_mem_cons.mpr ⟨(fun l h => by cases h; exact xd_146), List.forall_mem_cons.mpr ⟨(fun l h => by cases h; exact xd_147), List.forall_mem_cons.mpr ⟨(fun l h => by cases h; exact xd_148), List.forall_mem_cons.mpr ⟨(fun l h => by cases h; exact xd_149), List.forall_mem_cons.mpr ⟨(fun l h => by cases h; exact xd_150), List.forall_mem_cons.mpr ⟨(fun l h => by cases h; exact xd_151), List.forall_mem_cons.mpr ⟨(fun l h => by cases h; exact xd_152), List.forall_mem_cons.mpr ⟨(fun l h => by cases h; exact xd_153), List.forall_mem_cons.mpr ⟨(fun l h => by cases h; exact xd_154), List.forall_mem_cons.mpr ⟨(fun l h => by cases h; exact xd_155), List.forall_mem_cons.mpr ⟨(fun l h => by cases h; exact xd_156), List.forall_mem_cons.mpr ⟨(fun l h => by cases h; exact xd_157), List.forall_mem_cons.mpr ⟨(fun l h => by cases h; exact xd_158), List.forall_mem_cons.mpr ⟨(fun l h => by cases h; exact xd_159), fun _ h => absurd h List.not_mem_nil⟩⟩⟩⟩⟩⟩⟩⟩⟩⟩⟩⟩⟩⟩⟩⟩
def xDs_l160 : List (Nat) := [160, 161, 162, 163, 164, 165, 166, 167, 168, 169, 170, 171, 172, 173, 174, 175]
theorem xDs_b160 : ∀ q ∈ xDs_l160, xDok q := List.forall_mem_cons.mpr ⟨(fun l h => by cases h; exact xd_160), List.forall_mem_cons.mpr ⟨(fun l h => by cases h; exact xd_161), List.forall_mem_cons.mpr ⟨(fun l h => by cases h; exact xd_162), List.forall_mem_cons.mpr ⟨(fun l h => by cases h; exact xd_163), List.forall_mem_cons.mpr ⟨(fun l h => by cases h; exact xd_164), List.forall_mem_cons.mpr ⟨(fun l h => by cases h; exact xd_165), List.forall_mem_cons.mpr ⟨(fun l h => by cases h; exact xd_166), List.forall_mem_cons.mpr ⟨(fun l h => by cases h; exact xd_167), List.forall_mem_cons.mpr ⟨(fun l h => by cases h; exact xd_168), List.forall_mem_cons.mpr ⟨(fun l h => by cases h; exact xd_169), List.forall_mem_cons.mpr ⟨(fun l h => by cases h; exact xd_170), List.forall_mem_cons.mpr ⟨(fun l h => by cases h; exact xd_171), List.forall_mem_cons.mpr ⟨(fun l h => by cases h; exact xd_172), List.forall_mem_cons.mpr ⟨(fun l h => by cases h; exact xd_173), List.forall_mem_cons.mpr ⟨(fun l h => by cases h; exact xd_174), List.forall_mem_cons.mpr ⟨(fun l h => by cases h; exact xd_175), fun _ h => absurd h List.not_mem_nil⟩⟩⟩⟩⟩⟩⟩⟩⟩⟩⟩⟩⟩⟩⟩⟩
def xDs_l176 : List (Nat) := [176, 177, 178, 179, 180, 181, 182, 183, 184, 185, 186, 187, 188, 189, 190, 191]
theorem xDs_b176 : ∀ q ∈ xDs_l176, xDok q := List.forall_mem_cons.mpr ⟨(fun l h => by cases h; exact xd_176), List.forall_mem_cons.mpr ⟨(fun l h => by cases h; exact xd_177), List.forall_mem_cons.mpr ⟨(fun l h => by cases h; exact xd_178), List.forall_mem_cons.mpr ⟨(fun l h => by cases h; exact xd_179), List.forall_mem_cons.mpr ⟨(fun l h => by cases h; exact xd_180), List.forall_mem_cons.mpr ⟨(fun l h => by cases h; exact xd_181), List.forall_mem_cons.mpr ⟨(fun l h => by cases h; exact xd_182), List.forall_mem_cons.mpr ⟨(fun l h => by cases h; exact xd_183), List.forall_mem_cons.mpr ⟨(fun l h => by cases h; exact xd_184), List.forall_mem_cons.mpr ⟨(fun l h => by cases h; exact xd_185), List.forall_mem_cons.mpr ⟨(fun l h => by cases h; exact xd_186), List.forall_mem_cons.mpr ⟨(fun l h => by cases h; exact xd_187), List.forall_mem_cons.mpr ⟨(fun l h => by cases h; exact xd_188), List.forall_mem_cons.mpr ⟨(fun l h => by cases h; exact xd_189), List.forall_mem_cons.mpr ⟨(fun l h => by cases h; exact xd_190), List.forall_mem_cons.mpr ⟨(fun l h => by cases h; exact xd_191), fun _ h => absurd h List.not_mem_nil⟩⟩⟩⟩⟩⟩⟩⟩⟩⟩⟩⟩⟩⟩⟩⟩
def xDs_l192 : List (Nat) := [192, 193, 194, 195, 196, 197, 198, 199, 200, 201, 202, 203, 204, 205, 206, 207]
theorem xDs_b192 : ∀ q ∈ xDs_l192, xDok q := List.forall_mem_cons.mpr ⟨(fun l h => by cases h; exact xd_192), List.forall_mem_cons.mpr ⟨(fun l h => by cases h; exact xd_193), List.forall_mem_cons.mpr ⟨(fun l h => by cases h; exact xd_194), List.forall_mem_cons.mpr ⟨(fun l h => by cases h; exact xd_195), List.forall_mem_cons.mpr ⟨(fun l h => by cases h; exact xd_196), List.forall_mem_cons.mpr ⟨(fun l h => by cases h; exact xd_197), List.forall_mem_cons.mpr ⟨(fun l h => by cases h; exact xd_198), List.forall_mem_cons.mpr ⟨(fun l h => by cases h; exact xd_199), List.forall_mem_cons.mpr ⟨(fun l h => by cases h; exact xd_200), List.forall_mem_cons.mpr ⟨(fun l h => by cases h; exact xd_201), List.forall_mem_cons.mpr ⟨(fun l h => by cases h; exact xd_202), List.forall_mem_cons.mpr ⟨(fun l h => by cases h; exact xd_203), List.forall_mem_cons.mpr ⟨(fun l h => by cases h; exact xd_204), List.forall_mem_cons.mpr ⟨(fun l h => by cases h; exact xd_205), List.forall_mem_cons.mpr ⟨(fun l h => by cases h; exact xd_206), List.forall_mem_cons.mpr ⟨(fun l h => by cases h; exact xd_207), fun _ h => absurd h List.not_mem_nil⟩⟩⟩⟩⟩⟩⟩⟩⟩⟩⟩⟩⟩⟩⟩⟩
def xDs_l208 : List (Nat) := [208, 209, 210, 211, 212, 213, 214, 215, 216, 217, 218, 219, 220, 221, 222, 223]
theorem xDs_b208 : ∀ q ∈ xDs_l208, xDok q := List.forall_mem_cons.mpr ⟨(fun l h => by cases h; exact xd_208), List.forall_mem_cons.mpr ⟨(fun l h => by cases h; exact xd_209), List.forall_mem_cons.mpr ⟨(fun l h => by cases h; exact xd_210), List.forall_mem_cons.mpr ⟨(fun l h => by cases h; exact xd_211), List.forall_mem_cons.mpr ⟨(fun l h => by cases h; exact xd_212), List.forall_mem_cons.mpr ⟨(fun l h => by cases h; exact xd_213), List.forall_mem_cons.mpr ⟨(fun l h => by cases h; exact xd_214), List.forall_mem_cons.mpr ⟨(fun l h => by cases h; exact xd_215), List.forall_mem_cons.mpr ⟨(fun l h => by cases h; exact xd_216), List.forall_mem_cons.mpr ⟨(fun l h => by cases h; exact xd_217), List.forall_mem_cons.mpr ⟨(fun l h => by cases h; exact xd_218), List.forall_mem_cons.mpr ⟨(fun l h => by cases h; exact xd_219), List.forall_mem_cons.mpr ⟨(fun l h => by cases h; exact xd_220), List.forall_mem_cons.mpr ⟨(fun l h => by cases h; exact xd_221), List.forall_mem_cons.mpr ⟨(fun l h => by cases h; exact xd_222), List.forall_mem_cons.mpr ⟨(fun l h => by cases h; exact xd_223), fun _ h => absurd h List.not_mem_nil⟩⟩⟩⟩⟩⟩⟩⟩⟩⟩⟩⟩⟩⟩⟩⟩
def xDs_l224 : List (Nat) := [224, 225, 226, 227, 228, 229, 230, 231, 232, 233, 234, 235, 236, 237, 238, 239]
theorem xDs_b224 : ∀ q ∈ xDs_l224, xDok q := List.forall_mem_cons.mpr ⟨(fun l h => by cases h; exact xd_224), List.forall_mem_cons.mpr ⟨(fun l h => by cases h; exact xd_225), List.forall_mem_cons.mpr ⟨(fun l h => by cases h; exact xd_226), List.forall_mem_cons.mpr ⟨(fun l h => by cases h; exact xd_227), List.forall_mem_cons.mpr ⟨(fun l h => by cases h; exact xd_228), List.forall_mem_cons.mpr ⟨(fun l h => by cases h; exact xd_229), List.forall_mem_cons.mpr ⟨(fun l h => by cases h; exact xd_230), List.forall_mem_cons.mpr ⟨(fun l h => by cases h; exact xd_231), List.forall_mem_cons.mpr ⟨(fun l h => by cases h; exact xd_232), List.forall_mem_cons.mpr ⟨(fun l h => by cases h; exact xd_233), List.forall_mem_cons.mpr ⟨(fun l h => by cases h; exact xd_234), List.forall_mem_cons.mpr ⟨(fun l h => by cases h; exact xd_235), List.forall_mem_cons.mpr ⟨(fun l h => by cases h; exact xd_236), List.forall_mem_cons.mpr ⟨(fun l h => by cases h; exact xd_237), List.forall_mem_cons.mpr ⟨(fun l h => by cases h; exact xd_238), List.forall_mem_cons.mpr ⟨(fun l h => by cases h; exact xd_239), fun _ h => absurd h List.not_mem_nil⟩⟩⟩⟩⟩⟩⟩⟩⟩⟩⟩⟩⟩⟩⟩⟩
def xDs_l240 : List (Nat) := [240, 241, 242, 243, 244, 245, 246, 247, 248, 249, 250, 251, 252, 253, 254, 255]
theorem xDs_b240 : ∀ q ∈ xDs_l240, xDok q := List.forall_mem_cons.mpr ⟨(fun l h => by cases h; exact xd_240), List.forall_mem_cons.mpr ⟨(fun l h => by cases h; exact xd_241), List.forall_mem_cons.mpr ⟨(fun l h => by cases h; exact xd_242), List.forall_mem_cons.mpr ⟨(fun l h => by cases h; exact xd_243), List.forall_mem_cons.mpr ⟨(fun l h => by cases h; exact xd_244), List.forall_mem_cons.mpr ⟨(fun l h => by cases h; exact xd_245), List.forall_mem_cons.mpr ⟨(fun l h => by cases h; exact xd_246), List.forall_mem_cons.mpr ⟨(fun l h => by cases h; exact xd_247), List.forall_mem_cons.mpr ⟨(fun l h => by cases h; exact xd_248), List.forall_mem_cons.mpr ⟨(fun l h => by cases h; exact xd_249), List.forall_mem_cons.mpr ⟨(fun l h => by cases h; exact xd_250), List.forall_mem_cons.mpr ⟨(fun l h => by cases h; exact xd_251), List.forall_mem_cons.mpr ⟨(fun l h => by cases h; exact xd_252), List.forall_mem_cons.mpr ⟨(fun l h => by cases h; exact xd_253), List.forall_mem_cons.mpr ⟨(fun l h => by cases h; exact xd_254), List.forall_mem_cons.mpr ⟨(fun l h => by cases h; exact xd_255), fun _ h => absurd h List.not_mem_nil⟩⟩⟩⟩⟩⟩⟩⟩⟩⟩⟩⟩⟩⟩⟩⟩
def xDs_l256 : List (Nat) := [256, 257, 258, 259, 260, 261]
theorem xDs_b256 : ∀ q ∈ xDs_l256, xDok q := List.forall_mem_cons.mpr ⟨(fun l h => by cases h; exact xd_256), List.forall_mem_cons.mpr ⟨(fun l h => by cases h; exact xd_257), List.forall_mem_cons.mpr ⟨(fun l h => by cases h; exact xd_258), List.forall_mem_cons.mpr ⟨(fun l h => by cases h; exact xd_259), List.forall_mem_cons.mpr ⟨(fun l h => by cases h; exact xd_260), List.forall_mem_cons.mpr ⟨(fun l h => by cases h; exact xd_261), fun _ h => absurd h List.not_mem_nil⟩⟩⟩⟩⟩⟩
def xDs_l : List (Nat) := xDs_l0 ++ (xDs_l16 ++ (xDs_l32 ++ (xDs_l48 ++ (xDs_l64 ++ (xDs_l80 ++ (xDs_l96 ++ (xDs_l112 ++ (xDs_l128 ++ (xDs_l144 ++ (xDs_l160 ++ (xDs_l176 ++ (xDs_l192 ++ (xDs_l208 ++ (xDs_l224 ++ (xDs_l240 ++ (xDs_l256))))))))))))))))
theorem xDs_all : ∀ q ∈ xDs_l, xDok q := List.forall_mem_append.mpr ⟨xDs_b0, List.forall_mem_append.mpr ⟨xDs_b16, List.forall_mem_append.mpr ⟨xDs_b32, List.forall_mem_append.mpr ⟨xDs_b48, List.forall_mem_append.mpr ⟨xDs_b64, List.forall_mem_append.mpr ⟨xDs_b80, List.forall_mem_append.mpr ⟨xDs_b96, List.forall_mem_append.mpr ⟨xDs_b112, List.forall_mem_append.mpr ⟨xDs_b128, List.forall_mem_append.mpr ⟨xDs_b144, List.forall_mem_append.mpr ⟨xDs_b160, List.forall_mem_append.mpr ⟨xDs_b176, List.forall_mem_append.mpr ⟨xDs_b192, List.forall_mem_append.mpr ⟨xDs_b208, List.forall_mem_append.mpr ⟨xDs_b224, List.forall_mem_append.mpr ⟨xDs_b240, xDs_b256⟩⟩⟩⟩⟩⟩⟩⟩⟩⟩⟩⟩⟩⟩⟩⟩
theorem xDs_range : xDs_l = List.range 262 := by decide +kernel
theorem xdec {mi pc : Nat} {op : Instr} (h : xfetch mi pc = some op) : ∃ len, decode (xby mi) pc = .ok (op, len) ∧ (len = xlen op ∨ xsw op = true) ∧ xjmp pc op = true := by
  unfold xfetch at h
  cases hl : xcode[mi]? with
  | none => rw [hl] at h; cases h
  | some l =>
    rw [hl] at h
    have hlt : mi < xcode.length := (List.getElem?_eq_some_iff.mp hl).1
    have hlen : xcode.length = 262 := by decide +kernel
    have hm : mi ∈ xDs_l := by rw [xDs_range]; exact List.mem_range.mpr (by omega)
    have h1 := List.all_eq_true.mp (xDs_all mi hm l hl) _ (xfind_mem h)
    unfold xdchk at h1
    simp only at h1
    cases hd : decode (xby mi) pc with
    | error e => rw [hd] at h1; cases h1
    | ok q =>
      obtain ⟨o, len⟩ := q
      rw [hd] at h1
      simp only [Bool.and_eq_true, Bool.or_eq_true, decide_eq_true_eq] at h1
      obtain ⟨⟨rfl, h2⟩, h3⟩ := h1
      exact ⟨len, rfl, h2, h3⟩
def xRk : Nat → Option FieldType → Prop
  | 0, r => r = none
  | 1, r => r = some .int
  | 2, r => r = some .boolean
  | 3, r => r = some .long
  | 4, r => r = some .double
  | _, _ => False
def xMok (mi : Nat) : Prop := (xG (xcw mi) ∧ xG (.initialized (xy mi).cls)) ∧ ((xy mi).cls ≠ "java/lang/invoke/MethodHandle" ∧ (xy mi).cls ≠ "java/lang/invoke/VarHandle" ∧ (parseMethodDescriptor (xy mi).desc).map (fun d => d.parameters.length) = some (xnp mi) ∧ plainName (xy mi).cls = true ∧ (xy mi).cls = xRn (xown mi)) ∧ xRk (xrk mi) (xre mi) ∧ ((xsk mi = 0 ∧ xG (.instanceMethod (xy mi)) ∧ xG (.selects (xy mi).cls (xy mi) (xy mi))) ∨ (xsk mi = 1 ∧ xG (.static (xy mi))) ∨ (xsk mi = 2 ∧ xG (.instanceMethod (xy mi)) ∧ (xy mi).name = "<init>" ∧ xre mi = none))
theorem xm_0 : xMok 0 := ⟨⟨xg1 198 (by decide +kernel) rfl, xg1 8 (by decide +kernel) rfl⟩, ⟨by decide +kernel, by decide +kernel, by decide +kernel, by decide +kernel, by decide +kernel⟩, by show xre 0 = _; decide +kernel, Or.inr (Or.inr ⟨rfl, xg1 197 (by decide +kernel) rfl, by decide +kernel, by decide +kernel⟩)⟩
theorem xm_1 : xMok 1 := ⟨⟨xg3 209 (by decide +kernel) rfl, xg1 8 (by decide +kernel) rfl⟩, ⟨by decide +kernel, by decide +kernel, by decide +kernel, by decide +kernel, by decide +kernel⟩, by show xre 1 = _; decide +kernel, Or.inl ⟨rfl, xg3 208 (by decide +kernel) rfl, xg 13 (by decide +kernel) rfl⟩⟩
theorem xm_2 : xMok 2 := ⟨⟨xg3 213 (by decide +kernel) rfl, xg1 8 (by decide +kernel) rfl⟩, ⟨by decide +kernel, by decide +kernel, by decide +kernel, by decide +kernel, by decide +kernel⟩, by show xre 2 = _; decide +kernel, Or.inl ⟨rfl, xg3 212 (by decide +kernel) rfl, xg 14 (by decide +kernel) rfl⟩⟩
theorem xm_3 : xMok 3 := ⟨⟨xg4 6 (by decide +kernel) rfl, xg1 8 (by decide +kernel) rfl⟩, ⟨by decide +kernel, by decide +kernel, by decide +kernel, by decide +kernel, by decide +kernel⟩, by show xre 3 = _; decide +kernel, Or.inl ⟨rfl, xg4 5 (by decide +kernel) rfl, xg 15 (by decide +kernel) rfl⟩⟩
theorem xm_4 : xMok 4 := ⟨⟨xg4 35 (by decide +kernel) rfl, xg1 8 (by decide +kernel) rfl⟩, ⟨by decide +kernel, by decide +kernel, by decide +kernel, by decide +kernel, by decide +kernel⟩, by show xre 4 = _; decide +kernel, Or.inl ⟨rfl, xg4 34 (by decide +kernel) rfl, xg 16 (by decide +kernel) rfl⟩⟩
theorem xm_5 : xMok 5 := ⟨⟨xg4 47 (by decide +kernel) rfl, xg1 8 (by decide +kernel) rfl⟩, ⟨by decide +kernel, by decide +kernel, by decide +kernel, by decide +kernel, by decide +kernel⟩, by show xre 5 = _; decide +kernel, Or.inl ⟨rfl, xg4 46 (by decide +kernel) rfl, xg 17 (by decide +kernel) rfl⟩⟩
theorem xm_6 : xMok 6 := ⟨⟨xg4 55 (by decide +kernel) rfl, xg1 8 (by decide +kernel) rfl⟩, ⟨by decide +kernel, by decide +kernel, by decide +kernel, by decide +kernel, by decide +kernel⟩, by show xre 6 = _; decide +kernel, Or.inl ⟨rfl, xg4 54 (by decide +kernel) rfl, xg 18 (by decide +kernel) rfl⟩⟩
theorem xm_7 : xMok 7 := ⟨⟨xg4 63 (by decide +kernel) rfl, xg1 8 (by decide +kernel) rfl⟩, ⟨by decide +kernel, by decide +kernel, by decide +kernel, by decide +kernel, by decide +kernel⟩, by show xre 7 = _; decide +kernel, Or.inl ⟨rfl, xg4 62 (by decide +kernel) rfl, xg 19 (by decide +kernel) rfl⟩⟩
theorem xm_8 : xMok 8 := ⟨⟨xg1 214 (by decide +kernel) rfl, xg1 9 (by decide +kernel) rfl⟩, ⟨by decide +kernel, by decide +kernel, by decide +kernel, by decide +kernel, by decide +kernel⟩, by show xre 8 = _; decide +kernel, Or.inr (Or.inr ⟨rfl, xg1 213 (by decide +kernel) rfl, by decide +kernel, by decide +kernel⟩)⟩
theorem xm_9 : xMok 9 := ⟨⟨xg4 135 (by decide +kernel) rfl, xg1 9 (by decide +kernel) rfl⟩, ⟨by decide +kernel, by decide +kernel, by decide +kernel, by decide +kernel, by decide +kernel⟩, by show xre 9 = _; decide +kernel, Or.inl ⟨rfl, xg4 133 (by decide +kernel) rfl, xg4 134 (by decide +kernel) rfl⟩⟩
theorem xm_10 : xMok 10 := ⟨⟨xg4 142 (by decide +kernel) rfl, xg1 9 (by decide +kernel) rfl⟩, ⟨by decide +kernel, by decide +kernel, by decide +kernel, by decide +kernel, by decide +kernel⟩, by show xre 10 = _; decide +kernel, Or.inl ⟨rfl, xg4 141 (by decide +kernel) rfl, xg 21 (by decide +kernel) rfl⟩⟩
theorem xm_11 : xMok 11 := ⟨⟨xg4 147 (by decide +kernel) rfl, xg1 9 (by decide +kernel) rfl⟩, ⟨by decide +kernel, by decide +kernel, by decide +kernel, by decide +kernel, by decide +kernel⟩, by show xre 11 = _; decide +kernel, Or.inl ⟨rfl, xg4 146 (by decide +kernel) rfl, xg 22 (by decide +kernel) rfl⟩⟩
theorem xm_12 : xMok 12 := ⟨⟨xg4 152 (by decide +kernel) rfl, xg1 9 (by decide +kernel) rfl⟩, ⟨by decide +kernel, by decide +kernel, by decide +kernel, by decide +kernel, by decide +kernel⟩, by show xre 12 = _; decide +kernel, Or.inl ⟨rfl, xg4 151 (by decide +kernel) rfl, xg 23 (by decide +kernel) rfl⟩⟩
theorem xm_13 : xMok 13 := ⟨⟨xg4 156 (by decide +kernel) rfl, xg1 9 (by decide +kernel) rfl⟩, ⟨by decide +kernel, by decide +kernel, by decide +kernel, by decide +kernel, by decide +kernel⟩, by show xre 13 = _; decide +kernel, Or.inl ⟨rfl, xg4 155 (by decide +kernel) rfl, xg 24 (by decide +kernel) rfl⟩⟩
theorem xm_14 : xMok 14 := ⟨⟨xg4 162 (by decide +kernel) rfl, xg1 9 (by decide +kernel) rfl⟩, ⟨by decide +kernel, by decide +kernel, by decide +kernel, by decide +kernel, by decide +kernel⟩, by show xre 14 = _; decide +kernel, Or.inl ⟨rfl, xg4 161 (by decide +kernel) rfl, xg 25 (by decide +kernel) rfl⟩⟩
theorem xm_15 : xMok 15 := ⟨⟨xg4 170 (by decide +kernel) rfl, xg1 9 (by decide +kernel) rfl⟩, ⟨by decide +kernel, by decide +kernel, by decide +kernel, by decide +kernel, by decide +kernel⟩, by show xre 15 = _; decide +kernel, Or.inl ⟨rfl, xg4 169 (by decide +kernel) rfl, xg 26 (by decide +kernel) rfl⟩⟩
theorem xm_16 : xMok 16 := ⟨⟨xg4 177 (by decide +kernel) rfl, xg1 9 (by decide +kernel) rfl⟩, ⟨by decide +kernel, by decide +kernel, by decide +kernel, by decide +kernel, by decide +kernel⟩, by show xre 16 = _; decide +kernel, Or.inl ⟨rfl, xg4 176 (by decide +kernel) rfl, xg 27 (by decide +kernel) rfl⟩⟩
theorem xm_17 : xMok 17 := ⟨⟨xg4 182 (by decide +kernel) rfl, xg1 9 (by decide +kernel) rfl⟩, ⟨by decide +kernel, by decide +kernel, by decide +kernel, by decide +kernel, by decide +kernel⟩, by show xre 17 = _; decide +kernel, Or.inl ⟨rfl, xg4 181 (by decide +kernel) rfl, xg 28 (by decide +kernel) rfl⟩⟩
theorem xm_18 : xMok 18 := ⟨⟨xg4 186 (by decide +kernel) rfl, xg1 9 (by decide +kernel) rfl⟩, ⟨by decide +kernel, by decide +kernel, by decide +kernel, by decide +kernel, by decide +kernel⟩, by show xre 18 = _; decide +kernel, Or.inl ⟨rfl, xg4 185 (by decide +kernel) rfl, xg 29 (by decide +kernel) rfl⟩⟩
theorem xm_19 : xMok 19 := ⟨⟨xg4 190 (by decide +kernel) rfl, xg1 9 (by decide +kernel) rfl⟩, ⟨by decide +kernel, by decide +kernel, by decide +kernel, by decide +kernel, by decide +kernel⟩, by show xre 19 = _; decide +kernel, Or.inl ⟨rfl, xg4 189 (by decide +kernel) rfl, xg 30 (by decide +kernel) rfl⟩⟩
theorem xm_20 : xMok 20 := ⟨⟨xg4 195 (by decide +kernel) rfl, xg1 9 (by decide +kernel) rfl⟩, ⟨by decide +kernel, by decide +kernel, by decide +kernel, by decide +kernel, by decide +kernel⟩, by show xre 20 = _; decide +kernel, Or.inl ⟨rfl, xg4 194 (by decide +kernel) rfl, xg 31 (by decide +kernel) rfl⟩⟩
theorem xm_21 : xMok 21 := ⟨⟨xg2 52 (by decide +kernel) rfl, xg1 11 (by decide +kernel) rfl⟩, ⟨by decide +kernel, by decide +kernel, by decide +kernel, by decide +kernel, by decide +kernel⟩, by show xre 21 = _; decide +kernel, Or.inr (Or.inr ⟨rfl, xg2 51 (by decide +kernel) rfl, by decide +kernel, by decide +kernel⟩)⟩
theorem xm_22 : xMok 22 := ⟨⟨xg3 5 (by decide +kernel) rfl, xg1 11 (by decide +kernel) rfl⟩, ⟨by decide +kernel, by decide +kernel, by decide +kernel, by decide +kernel, by decide +kernel⟩, by show xre 22 = _; decide +kernel, Or.inl ⟨rfl, xg3 3 (by decide +kernel) rfl, xg3 4 (by decide +kernel) rfl⟩⟩
theorem xm_23 : xMok 23 := ⟨⟨xg5 30 (by decide +kernel) rfl, xg1 11 (by decide +kernel) rfl⟩, ⟨by decide +kernel, by decide +kernel, by decide +kernel, by decide +kernel, by decide +kernel⟩, by show xre 23 = _; decide +kernel, Or.inl ⟨rfl, xg5 28 (by decide +kernel) rfl, xg5 29 (by decide +kernel) rfl⟩⟩
theorem xm_24 : xMok 24 := ⟨⟨xg5 34 (by decide +kernel) rfl, xg1 11 (by decide +kernel) rfl⟩, ⟨by decide +kernel, by decide +kernel, by decide +kernel, by decide +kernel, by decide +kernel⟩, by show xre 24 = _; decide +kernel, Or.inl ⟨rfl, xg5 33 (by decide +kernel) rfl, xg 32 (by decide +kernel) rfl⟩⟩
theorem xm_25 : xMok 25 := ⟨⟨xg5 176 (by decide +kernel) rfl, xg1 11 (by decide +kernel) rfl⟩, ⟨by decide +kernel, by decide +kernel, by decide +kernel, by decide +kernel, by decide +kernel⟩, by show xre 25 = _; decide +kernel, Or.inl ⟨rfl, xg5 174 (by decide +kernel) rfl, xg5 175 (by decide +kernel) rfl⟩⟩
theorem xm_26 : xMok 26 := ⟨⟨xg1 113 (by decide +kernel) rfl, xg1 6 (by decide +kernel) rfl⟩, ⟨by decide +kernel, by decide +kernel, by decide +kernel, by decide +kernel, by decide +kernel⟩, by show xre 26 = _; decide +kernel, Or.inr (Or.inr ⟨rfl, xg1 112 (by decide +kernel) rfl, by decide +kernel, by decide +kernel⟩)⟩
theorem xm_27 : xMok 27 := ⟨⟨xg2 231 (by decide +kernel) rfl, xg1 6 (by decide +kernel) rfl⟩, ⟨by decide +kernel, by decide +kernel, by decide +kernel, by decide +kernel, by decide +kernel⟩, by show xre 27 = _; decide +kernel, Or.inl ⟨rfl, xg2 229 (by decide +kernel) rfl, xg2 230 (by decide +kernel) rfl⟩⟩
theorem xm_28 : xMok 28 := ⟨⟨xg2 236 (by decide +kernel) rfl, xg1 6 (by decide +kernel) rfl⟩, ⟨by decide +kernel, by decide +kernel, by decide +kernel, by decide +kernel, by decide +kernel⟩, by show xre 28 = _; decide +kernel, Or.inl ⟨rfl, xg2 234 (by decide +kernel) rfl, xg2 235 (by decide +kernel) rfl⟩⟩
theorem xm_29 : xMok 29 := ⟨⟨xg3 180 (by decide +kernel) rfl, xg1 6 (by decide +kernel) rfl⟩, ⟨by decide +kernel, by decide +kernel, by decide +kernel, by decide +kernel, by decide +kernel⟩, by show xre 29 = _; decide +kernel, Or.inl ⟨rfl, xg3 178 (by decide +kernel) rfl, xg3 179 (by decide +kernel) rfl⟩⟩
theorem xm_30 : xMok 30 := ⟨⟨xg4 16 (by decide +kernel) rfl, xg1 6 (by decide +kernel) rfl⟩, ⟨by decide +kernel, by decide +kernel, by decide +kernel, by decide +kernel, by decide +kernel⟩, by show xre 30 = _; decide +kernel, Or.inl ⟨rfl, xg4 14 (by decide +kernel) rfl, xg4 15 (by decide +kernel) rfl⟩⟩
theorem xm_31 : xMok 31 := ⟨⟨xg4 22 (by decide +kernel) rfl, xg1 6 (by decide +kernel) rfl⟩, ⟨by decide +kernel, by decide +kernel, by decide +kernel, by decide +kernel, by decide +kernel⟩, by show xre 31 = _; decide +kernel, Or.inl ⟨rfl, xg4 20 (by decide +kernel) rfl, xg4 21 (by decide +kernel) rfl⟩⟩
theorem xm_32 : xMok 32 := ⟨⟨xg1 107 (by decide +kernel) rfl, xg1 5 (by decide +kernel) rfl⟩, ⟨by decide +kernel, by decide +kernel, by decide +kernel, by decide +kernel, by decide +kernel⟩, by show xre 32 = _; decide +kernel, Or.inr (Or.inr ⟨rfl, xg1 106 (by decide +kernel) rfl, by decide +kernel, by decide +kernel⟩)⟩
theorem xm_33 : xMok 33 := ⟨⟨xg3 176 (by decide +kernel) rfl, xg1 5 (by decide +kernel) rfl⟩, ⟨by decide +kernel, by decide +kernel, by decide +kernel, by decide +kernel, by decide +kernel⟩, by show xre 33 = _; decide +kernel, Or.inl ⟨rfl, xg3 174 (by decide +kernel) rfl, xg3 175 (by decide +kernel) rfl⟩⟩
theorem xm_34 : xMok 34 := ⟨⟨xg3 217 (by decide +kernel) rfl, xg1 5 (by decide +kernel) rfl⟩, ⟨by decide +kernel, by decide +kernel, by decide +kernel, by decide +kernel, by decide +kernel⟩, by show xre 34 = _; decide +kernel, Or.inl ⟨rfl, xg3 215 (by decide +kernel) rfl, xg3 216 (by decide +kernel) rfl⟩⟩
theorem xm_35 : xMok 35 := ⟨⟨xg3 229 (by decide +kernel) rfl, xg1 5 (by decide +kernel) rfl⟩, ⟨by decide +kernel, by decide +kernel, by decide +kernel, by decide +kernel, by decide +kernel⟩, by show xre 35 = _; decide +kernel, Or.inl ⟨rfl, xg3 227 (by decide +kernel) rfl, xg3 228 (by decide +kernel) rfl⟩⟩
theorem xm_36 : xMok 36 := ⟨⟨xg4 1 (by decide +kernel) rfl, xg1 5 (by decide +kernel) rfl⟩, ⟨by decide +kernel, by decide +kernel, by decide +kernel, by decide +kernel, by decide +kernel⟩, by show xre 36 = _; decide +kernel, Or.inl ⟨rfl, xg3 239 (by decide +kernel) rfl, xg4 0 (by decide +kernel) rfl⟩⟩
theorem xm_37 : xMok 37 := ⟨⟨xg4 59 (by decide +kernel) rfl, xg1 5 (by decide +kernel) rfl⟩, ⟨by decide +kernel, by decide +kernel, by decide +kernel, by decide +kernel, by decide +kernel⟩, by show xre 37 = _; decide +kernel, Or.inl ⟨rfl, xg4 57 (by decide +kernel) rfl, xg4 58 (by decide +kernel) rfl⟩⟩
theorem xm_38 : xMok 38 := ⟨⟨xg4 67 (by decide +kernel) rfl, xg1 5 (by decide +kernel) rfl⟩, ⟨by decide +kernel, by decide +kernel, by decide +kernel, by decide +kernel, by decide +kernel⟩, by show xre 38 = _; decide +kernel, Or.inl ⟨rfl, xg4 65 (by decide +kernel) rfl, xg4 66 (by decide +kernel) rfl⟩⟩
theorem xm_39 : xMok 39 := ⟨⟨xg4 72 (by decide +kernel) rfl, xg1 5 (by decide +kernel) rfl⟩, ⟨by decide +kernel, by decide +kernel, by decide +kernel, by decide +kernel, by decide +kernel⟩, by show xre 39 = _; decide +kernel, Or.inl ⟨rfl, xg4 70 (by decide +kernel) rfl, xg4 71 (by decide +kernel) rfl⟩⟩
theorem xm_40 : xMok 40 := ⟨⟨xg1 161 (by decide +kernel) rfl, xg1 7 (by decide +kernel) rfl⟩, ⟨by decide +kernel, by decide +kernel, by decide +kernel, by decide +kernel, by decide +kernel⟩, by show xre 40 = _; decide +kernel, Or.inr (Or.inr ⟨rfl, xg1 160 (by decide +kernel) rfl, by decide +kernel, by decide +kernel⟩)⟩
theorem xm_41 : xMok 41 := ⟨⟨xg3 184 (by decide +kernel) rfl, xg1 7 (by decide +kernel) rfl⟩, ⟨by decide +kernel, by decide +kernel, by decide +kernel, by decide +kernel, by decide +kernel⟩, by show xre 41 = _; decide +kernel, Or.inl ⟨rfl, xg3 182 (by decide +kernel) rfl, xg3 183 (by decide +kernel) rfl⟩⟩
theorem xm_42 : xMok 42 := ⟨⟨xg3 188 (by decide +kernel) rfl, xg1 7 (by decide +kernel) rfl⟩, ⟨by decide +kernel, by decide +kernel, by decide +kernel, by decide +kernel, by decide +kernel⟩, by show xre 42 = _; decide +kernel, Or.inl ⟨rfl, xg3 186 (by decide +kernel) rfl, xg3 187 (by decide +kernel) rfl⟩⟩
theorem xm_43 : xMok 43 := ⟨⟨xg3 192 (by decide +kernel) rfl, xg1 7 (by decide +kernel) rfl⟩, ⟨by decide +kernel, by decide +kernel, by decide +kernel, by decide +kernel, by decide +kernel⟩, by show xre 43 = _; decide +kernel, Or.inl ⟨rfl, xg3 191 (by decide +kernel) rfl, xg 12 (by decide +kernel) rfl⟩⟩
theorem xm_44 : xMok 44 := ⟨⟨xg3 200 (by decide +kernel) rfl, xg1 7 (by decide +kernel) rfl⟩, ⟨by decide +kernel, by decide +kernel, by decide +kernel, by decide +kernel, by decide +kernel⟩, by show xre 44 = _; decide +kernel, Or.inl ⟨rfl, xg3 198 (by decide +kernel) rfl, xg3 199 (by decide +kernel) rfl⟩⟩
theorem xm_45 : xMok 45 := ⟨⟨xg3 233 (by decide +kernel) rfl, xg1 7 (by decide +kernel) rfl⟩, ⟨by decide +kernel, by decide +kernel, by decide +kernel, by decide +kernel, by decide +kernel⟩, by show xre 45 = _; decide +kernel, Or.inl ⟨rfl, xg3 231 (by decide +kernel) rfl, xg3 232 (by decide +kernel) rfl⟩⟩
theorem xm_46 : xMok 46 := ⟨⟨xg4 30 (by decide +kernel) rfl, xg1 7 (by decide +kernel) rfl⟩, ⟨by decide +kernel, by decide +kernel, by decide +kernel, by decide +kernel, by decide +kernel⟩, by show xre 46 = _; decide +kernel, Or.inl ⟨rfl, xg4 28 (by decide +kernel) rfl, xg4 29 (by decide +kernel) rfl⟩⟩
theorem xm_47 : xMok 47 := ⟨⟨xg4 40 (by decide +kernel) rfl, xg1 7 (by decide +kernel) rfl⟩, ⟨by decide +kernel, by decide +kernel, by decide +kernel, by decide +kernel, by decide +kernel⟩, by show xre 47 = _; decide +kernel, Or.inl ⟨rfl, xg4 38 (by decide +kernel) rfl, xg4 39 (by decide +kernel) rfl⟩⟩
theorem xm_48 : xMok 48 := ⟨⟨xg2 21 (by decide +kernel) rfl, xg1 10 (by decide +kernel) rfl⟩, ⟨by decide +kernel, by decide +kernel, by decide +kernel, by decide +kernel, by decide +kernel⟩, by show xre 48 = _; decide +kernel, Or.inr (Or.inr ⟨rfl, xg2 20 (by decide +kernel) rfl, by decide +kernel, by decide +kernel⟩)⟩
theorem xm_49 : xMok 49 := ⟨⟨xg2 214 (by decide +kernel) rfl, xg1 10 (by decide +kernel) rfl⟩, ⟨by decide +kernel, by decide +kernel, by decide +kernel, by decide +kernel, by decide +kernel⟩, by show xre 49 = _; decide +kernel, Or.inl ⟨rfl, xg2 212 (by decide +kernel) rfl, xg2 213 (by decide +kernel) rfl⟩⟩
theorem xm_50 : xMok 50 := ⟨⟨xg5 129 (by decide +kernel) rfl, xg1 10 (by decide +kernel) rfl⟩, ⟨by decide +kernel, by decide +kernel, by decide +kernel, by decide +kernel, by decide +kernel⟩, by show xre 50 = _; decide +kernel, Or.inl ⟨rfl, xg5 127 (by decide +kernel) rfl, xg5 128 (by decide +kernel) rfl⟩⟩
theorem xm_51 : xMok 51 := ⟨⟨xg1 56 (by decide +kernel) rfl, xg1 4 (by decide +kernel) rfl⟩, ⟨by decide +kernel, by decide +kernel, by decide +kernel, by decide +kernel, by decide +kernel⟩, by show xre 51 = _; decide +kernel, Or.inr (Or.inr ⟨rfl, xg1 55 (by decide +kernel) rfl, by decide +kernel, by decide +kernel⟩)⟩
theorem xm_52 : xMok 52 := ⟨⟨xg2 114 (by decide +kernel) rfl, xg1 4 (by decide +kernel) rfl⟩, ⟨by decide +kernel, by decide +kernel, by decide +kernel, by decide +kernel, by decide +kernel⟩, by show xre 52 = _; decide +kernel, Or.inl ⟨rfl, xg2 112 (by decide +kernel) rfl, xg2 113 (by decide +kernel) rfl⟩⟩
theorem xm_53 : xMok 53 := ⟨⟨xg2 123 (by decide +kernel) rfl, xg1 4 (by decide +kernel) rfl⟩, ⟨by decide +kernel, by decide +kernel, by decide +kernel, by decide +kernel, by decide +kernel⟩, by show xre 53 = _; decide +kernel, Or.inl ⟨rfl, xg2 122 (by decide +kernel) rfl, xg 0 (by decide +kernel) rfl⟩⟩
theorem xm_54 : xMok 54 := ⟨⟨xg2 127 (by decide +kernel) rfl, xg1 4 (by decide +kernel) rfl⟩, ⟨by decide +kernel, by decide +kernel, by decide +kernel, by decide +kernel, by decide +kernel⟩, by show xre 54 = _; decide +kernel, Or.inl ⟨rfl, xg2 126 (by decide +kernel) rfl, xg 1 (by decide +kernel) rfl⟩⟩
theorem xm_55 : xMok 55 := ⟨⟨xg2 130 (by decide +kernel) rfl, xg1 4 (by decide +kernel) rfl⟩, ⟨by decide +kernel, by decide +kernel, by decide +kernel, by decide +kernel, by decide +kernel⟩, by show xre 55 = _; decide +kernel, Or.inr (Or.inl ⟨rfl, xg2 129 (by decide +kernel) rfl⟩)⟩
theorem xm_56 : xMok 56 := ⟨⟨xg2 137 (by decide +kernel) rfl, xg1 4 (by decide +kernel) rfl⟩, ⟨by decide +kernel, by decide +kernel, by decide +kernel, by decide +kernel, by decide +kernel⟩, by show xre 56 = _; decide +kernel, Or.inl ⟨rfl, xg2 136 (by decide +kernel) rfl, xg 2 (by decide +kernel) rfl⟩⟩
theorem xm_57 : xMok 57 := ⟨⟨xg2 141 (by decide +kernel) rfl, xg1 4 (by decide +kernel) rfl⟩, ⟨by decide +kernel, by decide +kernel, by decide +kernel, by decide +kernel, by decide +kernel⟩, by show xre 57 = _; decide +kernel, Or.inl ⟨rfl, xg2 140 (by decide +kernel) rfl, xg 3 (by decide +kernel) rfl⟩⟩
theorem xm_58 : xMok 58 := ⟨⟨xg2 145 (by decide +kernel) rfl, xg1 4 (by decide +kernel) rfl⟩, ⟨by decide +kernel, by decide +kernel, by decide +kernel, by decide +kernel, by decide +kernel⟩, by show xre 58 = _; decide +kernel, Or.inl ⟨rfl, xg2 144 (by decide +kernel) rfl, xg 4 (by decide +kernel) rfl⟩⟩
theorem xm_59 : xMok 59 := ⟨⟨xg2 149 (by decide +kernel) rfl, xg1 4 (by decide +kernel) rfl⟩, ⟨by decide +kernel, by decide +kernel, by decide +kernel, by decide +kernel, by decide +kernel⟩, by show xre 59 = _; decide +kernel, Or.inl ⟨rfl, xg2 148 (by decide +kernel) rfl, xg 5 (by decide +kernel) rfl⟩⟩
theorem xm_60 : xMok 60 := ⟨⟨xg2 153 (by decide +kernel) rfl, xg1 4 (by decide +kernel) rfl⟩, ⟨by decide +kernel, by decide +kernel, by decide +kernel, by decide +kernel, by decide +kernel⟩, by show xre 60 = _; decide +kernel, Or.inl ⟨rfl, xg2 152 (by decide +kernel) rfl, xg 6 (by decide +kernel) rfl⟩⟩
theorem xm_61 : xMok 61 := ⟨⟨xg2 158 (by decide +kernel) rfl, xg1 4 (by decide +kernel) rfl⟩, ⟨by decide +kernel, by decide +kernel, by decide +kernel, by decide +kernel, by decide +kernel⟩, by show xre 61 = _; decide +kernel, Or.inl ⟨rfl, xg2 156 (by decide +kernel) rfl, xg2 157 (by decide +kernel) rfl⟩⟩
theorem xm_62 : xMok 62 := ⟨⟨xg2 166 (by decide +kernel) rfl, xg1 4 (by decide +kernel) rfl⟩, ⟨by decide +kernel, by decide +kernel, by decide +kernel, by decide +kernel, by decide +kernel⟩, by show xre 62 = _; decide +kernel, Or.inl ⟨rfl, xg2 164 (by decide +kernel) rfl, xg2 165 (by decide +kernel) rfl⟩⟩
theorem xm_63 : xMok 63 := ⟨⟨xg3 205 (by decide +kernel) rfl, xg1 4 (by decide +kernel) rfl⟩, ⟨by decide +kernel, by decide +kernel, by decide +kernel, by decide +kernel, by decide +kernel⟩, by show xre 63 = _; decide +kernel, Or.inl ⟨rfl, xg3 203 (by decide +kernel) rfl, xg3 204 (by decide +kernel) rfl⟩⟩
theorem xm_64 : xMok 64 := ⟨⟨xg3 221 (by decide +kernel) rfl, xg1 4 (by decide +kernel) rfl⟩, ⟨by decide +kernel, by decide +kernel, by decide +kernel, by decide +kernel, by decide +kernel⟩, by show xre 64 = _; decide +kernel, Or.inl ⟨rfl, xg3 219 (by decide +kernel) rfl, xg3 220 (by decide +kernel) rfl⟩⟩
theorem xm_65 : xMok 65 := ⟨⟨xg3 225 (by decide +kernel) rfl, xg1 4 (by decide +kernel) rfl⟩, ⟨by decide +kernel, by decide +kernel, by decide +kernel, by decide +kernel, by decide +kernel⟩, by show xre 65 = _; decide +kernel, Or.inl ⟨rfl, xg3 223 (by decide +kernel) rfl, xg3 224 (by decide +kernel) rfl⟩⟩
theorem xm_66 : xMok 66 := ⟨⟨xg4 12 (by decide +kernel) rfl, xg1 4 (by decide +kernel) rfl⟩, ⟨by decide +kernel, by decide +kernel, by decide +kernel, by decide +kernel, by decide +kernel⟩, by show xre 66 = _; decide +kernel, Or.inl ⟨rfl, xg4 10 (by decide +kernel) rfl, xg4 11 (by decide +kernel) rfl⟩⟩
theorem xm_67 : xMok 67 := ⟨⟨xg4 51 (by decide +kernel) rfl, xg1 4 (by decide +kernel) rfl⟩, ⟨by decide +kernel, by decide +kernel, by decide +kernel, by decide +kernel, by decide +kernel⟩, by show xre 67 = _; decide +kernel, Or.inl ⟨rfl, xg4 49 (by decide +kernel) rfl, xg4 50 (by decide +kernel) rfl⟩⟩
theorem xm_68 : xMok 68 := ⟨⟨xg4 78 (by decide +kernel) rfl, xg1 4 (by decide +kernel) rfl⟩, ⟨by decide +kernel, by decide +kernel, by decide +kernel, by decide +kernel, by decide +kernel⟩, by show xre 68 = _; decide +kernel, Or.inl ⟨rfl, xg4 76 (by decide +kernel) rfl, xg4 77 (by decide +kernel) rfl⟩⟩
theorem xm_69 : xMok 69 := ⟨⟨xg4 97 (by decide +kernel) rfl, xg1 4 (by decide +kernel) rfl⟩, ⟨by decide +kernel, by decide +kernel, by decide +kernel, by decide +kernel, by decide +kernel⟩, by show xre 69 = _; decide +kernel, Or.inl ⟨rfl, xg4 95 (by decide +kernel) rfl, xg4 96 (by decide +kernel) rfl⟩⟩
theorem xm_70 : xMok 70 := ⟨⟨xg4 105 (by decide +kernel) rfl, xg1 4 (by decide +kernel) rfl⟩, ⟨by decide +kernel, by decide +kernel, by decide +kernel, by decide +kernel, by decide +kernel⟩, by show xre 70 = _; decide +kernel, Or.inl ⟨rfl, xg4 103 (by decide +kernel) rfl, xg4 104 (by decide +kernel) rfl⟩⟩
theorem xm_71 : xMok 71 := ⟨⟨xg4 115 (by decide +kernel) rfl, xg1 4 (by decide +kernel) rfl⟩, ⟨by decide +kernel, by decide +kernel, by decide +kernel, by decide +kernel, by decide +kernel⟩, by show xre 71 = _; decide +kernel, Or.inl ⟨rfl, xg4 113 (by decide +kernel) rfl, xg4 114 (by decide +kernel) rfl⟩⟩
theorem xm_72 : xMok 72 := ⟨⟨xg4 123 (by decide +kernel) rfl, xg1 4 (by decide +kernel) rfl⟩, ⟨by decide +kernel, by decide +kernel, by decide +kernel, by decide +kernel, by decide +kernel⟩, by show xre 72 = _; decide +kernel, Or.inl ⟨rfl, xg4 121 (by decide +kernel) rfl, xg4 122 (by decide +kernel) rfl⟩⟩
theorem xm_73 : xMok 73 := ⟨⟨xg1 31 (by decide +kernel) rfl, xg1 2 (by decide +kernel) rfl⟩, ⟨by decide +kernel, by decide +kernel, by decide +kernel, by decide +kernel, by decide +kernel⟩, by show xre 73 = _; decide +kernel, Or.inr (Or.inr ⟨rfl, xg1 30 (by decide +kernel) rfl, by decide +kernel, by decide +kernel⟩)⟩
theorem xm_74 : xMok 74 := ⟨⟨xg1 51 (by decide +kernel) rfl, xg1 2 (by decide +kernel) rfl⟩, ⟨by decide +kernel, by decide +kernel, by decide +kernel, by decide +kernel, by decide +kernel⟩, by show xre 74 = _; decide +kernel, Or.inl ⟨rfl, xg1 49 (by decide +kernel) rfl, xg1 50 (by decide +kernel) rfl⟩⟩
theorem xm_75 : xMok 75 := ⟨⟨xg2 102 (by decide +kernel) rfl, xg1 2 (by decide +kernel) rfl⟩, ⟨by decide +kernel, by decide +kernel, by decide +kernel, by decide +kernel, by decide +kernel⟩, by show xre 75 = _; decide +kernel, Or.inl ⟨rfl, xg2 100 (by decide +kernel) rfl, xg2 101 (by decide +kernel) rfl⟩⟩
theorem xm_76 : xMok 76 := ⟨⟨xg2 119 (by decide +kernel) rfl, xg1 2 (by decide +kernel) rfl⟩, ⟨by decide +kernel, by decide +kernel, by decide +kernel, by decide +kernel, by decide +kernel⟩, by show xre 76 = _; decide +kernel, Or.inl ⟨rfl, xg2 117 (by decide +kernel) rfl, xg2 118 (by decide +kernel) rfl⟩⟩
theorem xm_77 : xMok 77 := ⟨⟨xg2 218 (by decide +kernel) rfl, xg1 2 (by decide +kernel) rfl⟩, ⟨by decide +kernel, by decide +kernel, by decide +kernel, by decide +kernel, by decide +kernel⟩, by show xre 77 = _; decide +kernel, Or.inl ⟨rfl, xg2 216 (by decide +kernel) rfl, xg2 217 (by decide +kernel) rfl⟩⟩
theorem xm_78 : xMok 78 := ⟨⟨xg2 222 (by decide +kernel) rfl, xg1 2 (by decide +kernel) rfl⟩, ⟨by decide +kernel, by decide +kernel, by decide +kernel, by decide +kernel, by decide +kernel⟩, by show xre 78 = _; decide +kernel, Or.inl ⟨rfl, xg2 220 (by decide +kernel) rfl, xg2 221 (by decide +kernel) rfl⟩⟩
theorem xm_79 : xMok 79 := ⟨⟨xg3 164 (by decide +kernel) rfl, xg1 2 (by decide +kernel) rfl⟩, ⟨by decide +kernel, by decide +kernel, by decide +kernel, by decide +kernel, by decide +kernel⟩, by show xre 79 = _; decide +kernel, Or.inl ⟨rfl, xg3 162 (by decide +kernel) rfl, xg3 163 (by decide +kernel) rfl⟩⟩
theorem xm_80 : xMok 80 := ⟨⟨xg3 196 (by decide +kernel) rfl, xg1 2 (by decide +kernel) rfl⟩, ⟨by decide +kernel, by decide +kernel, by decide +kernel, by decide +kernel, by decide +kernel⟩, by show xre 80 = _; decide +kernel, Or.inl ⟨rfl, xg3 194 (by decide +kernel) rfl, xg3 195 (by decide +kernel) rfl⟩⟩
theorem xm_81 : xMok 81 := ⟨⟨xg1 23 (by decide +kernel) rfl, xg1 1 (by decide +kernel) rfl⟩, ⟨by decide +kernel, by decide +kernel, by decide +kernel, by decide +kernel, by decide +kernel⟩, by show xre 81 = _; decide +kernel, Or.inr (Or.inr ⟨rfl, xg1 22 (by decide +kernel) rfl, by decide +kernel, by decide +kernel⟩)⟩
theorem xm_82 : xMok 82 := ⟨⟨xg2 98 (by decide +kernel) rfl, xg1 1 (by decide +kernel) rfl⟩, ⟨by decide +kernel, by decide +kernel, by decide +kernel, by decide +kernel, by decide +kernel⟩, by show xre 82 = _; decide +kernel, Or.inl ⟨rfl, xg2 96 (by decide +kernel) rfl, xg2 97 (by decide +kernel) rfl⟩⟩
theorem xm_83 : xMok 83 := ⟨⟨xg2 106 (by decide +kernel) rfl, xg1 1 (by decide +kernel) rfl⟩, ⟨by decide +kernel, by decide +kernel, by decide +kernel, by decide +kernel, by decide +kernel⟩, by show xre 83 = _; decide +kernel, Or.inl ⟨rfl, xg2 104 (by decide +kernel) rfl, xg2 105 (by decide +kernel) rfl⟩⟩
theorem xm_84 : xMok 84 := ⟨⟨xg2 110 (by decide +kernel) rfl, xg1 1 (by decide +kernel) rfl⟩, ⟨by decide +kernel, by decide +kernel, by decide +kernel, by decide +kernel, by decide +kernel⟩, by show xre 84 = _; decide +kernel, Or.inl ⟨rfl, xg2 108 (by decide +kernel) rfl, xg2 109 (by decide +kernel) rfl⟩⟩
theorem xm_85 : xMok 85 := ⟨⟨xg2 133 (by decide +kernel) rfl, xg1 1 (by decide +kernel) rfl⟩, ⟨by decide +kernel, by decide +kernel, by decide +kernel, by decide +kernel, by decide +kernel⟩, by show xre 85 = _; decide +kernel, Or.inr (Or.inl ⟨rfl, xg2 132 (by decide +kernel) rfl⟩)⟩
theorem xm_86 : xMok 86 := ⟨⟨xg2 162 (by decide +kernel) rfl, xg1 1 (by decide +kernel) rfl⟩, ⟨by decide +kernel, by decide +kernel, by decide +kernel, by decide +kernel, by decide +kernel⟩, by show xre 86 = _; decide +kernel, Or.inl ⟨rfl, xg2 160 (by decide +kernel) rfl, xg2 161 (by decide +kernel) rfl⟩⟩
theorem xm_87 : xMok 87 := ⟨⟨xg2 170 (by decide +kernel) rfl, xg1 1 (by decide +kernel) rfl⟩, ⟨by decide +kernel, by decide +kernel, by decide +kernel, by decide +kernel, by decide +kernel⟩, by show xre 87 = _; decide +kernel, Or.inl ⟨rfl, xg2 168 (by decide +kernel) rfl, xg2 169 (by decide +kernel) rfl⟩⟩
theorem xm_88 : xMok 88 := ⟨⟨xg2 174 (by decide +kernel) rfl, xg1 1 (by decide +kernel) rfl⟩, ⟨by decide +kernel, by decide +kernel, by decide +kernel, by decide +kernel, by decide +kernel⟩, by show xre 88 = _; decide +kernel, Or.inl ⟨rfl, xg2 172 (by decide +kernel) rfl, xg2 173 (by decide +kernel) rfl⟩⟩
theorem xm_89 : xMok 89 := ⟨⟨xg2 178 (by decide +kernel) rfl, xg1 1 (by decide +kernel) rfl⟩, ⟨by decide +kernel, by decide +kernel, by decide +kernel, by decide +kernel, by decide +kernel⟩, by show xre 89 = _; decide +kernel, Or.inl ⟨rfl, xg2 176 (by decide +kernel) rfl, xg2 177 (by decide +kernel) rfl⟩⟩
theorem xm_90 : xMok 90 := ⟨⟨xg2 182 (by decide +kernel) rfl, xg1 1 (by decide +kernel) rfl⟩, ⟨by decide +kernel, by decide +kernel, by decide +kernel, by decide +kernel, by decide +kernel⟩, by show xre 90 = _; decide +kernel, Or.inl ⟨rfl, xg2 180 (by decide +kernel) rfl, xg2 181 (by decide +kernel) rfl⟩⟩
theorem xm_91 : xMok 91 := ⟨⟨xg2 186 (by decide +kernel) rfl, xg1 1 (by decide +kernel) rfl⟩, ⟨by decide +kernel, by decide +kernel, by decide +kernel, by decide +kernel, by decide +kernel⟩, by show xre 91 = _; decide +kernel, Or.inl ⟨rfl, xg2 184 (by decide +kernel) rfl, xg2 185 (by decide +kernel) rfl⟩⟩
theorem xm_92 : xMok 92 := ⟨⟨xg2 190 (by decide +kernel) rfl, xg1 1 (by decide +kernel) rfl⟩, ⟨by decide +kernel, by decide +kernel, by decide +kernel, by decide +kernel, by decide +kernel⟩, by show xre 92 = _; decide +kernel, Or.inl ⟨rfl, xg2 188 (by decide +kernel) rfl, xg2 189 (by decide +kernel) rfl⟩⟩
theorem xm_93 : xMok 93 := ⟨⟨xg2 194 (by decide +kernel) rfl, xg1 1 (by decide +kernel) rfl⟩, ⟨by decide +kernel, by decide +kernel, by decide +kernel, by decide +kernel, by decide +kernel⟩, by show xre 93 = _; decide +kernel, Or.inl ⟨rfl, xg2 192 (by decide +kernel) rfl, xg2 193 (by decide +kernel) rfl⟩⟩
theorem xm_94 : xMok 94 := ⟨⟨xg2 198 (by decide +kernel) rfl, xg1 1 (by decide +kernel) rfl⟩, ⟨by decide +kernel, by decide +kernel, by decide +kernel, by decide +kernel, by decide +kernel⟩, by show xre 94 = _; decide +kernel, Or.inl ⟨rfl, xg2 196 (by decide +kernel) rfl, xg2 197 (by decide +kernel) rfl⟩⟩
theorem xm_95 : xMok 95 := ⟨⟨xg2 202 (by decide +kernel) rfl, xg1 1 (by decide +kernel) rfl⟩, ⟨by decide +kernel, by decide +kernel, by decide +kernel, by decide +kernel, by decide +kernel⟩, by show xre 95 = _; decide +kernel, Or.inl ⟨rfl, xg2 200 (by decide +kernel) rfl, xg2 201 (by decide +kernel) rfl⟩⟩
theorem xm_96 : xMok 96 := ⟨⟨xg2 206 (by decide +kernel) rfl, xg1 1 (by decide +kernel) rfl⟩, ⟨by decide +kernel, by decide +kernel, by decide +kernel, by decide +kernel, by decide +kernel⟩, by show xre 96 = _; decide +kernel, Or.inl ⟨rfl, xg2 204 (by decide +kernel) rfl, xg2 205 (by decide +kernel) rfl⟩⟩
theorem xm_97 : xMok 97 := ⟨⟨xg2 210 (by decide +kernel) rfl, xg1 1 (by decide +kernel) rfl⟩, ⟨by decide +kernel, by decide +kernel, by decide +kernel, by decide +kernel, by decide +kernel⟩, by show xre 97 = _; decide +kernel, Or.inl ⟨rfl, xg2 208 (by decide +kernel) rfl, xg2 209 (by decide +kernel) rfl⟩⟩
theorem xm_98 : xMok 98 := ⟨⟨xg3 1 (by decide +kernel) rfl, xg1 1 (by decide +kernel) rfl⟩, ⟨by decide +kernel, by decide +kernel, by decide +kernel, by decide +kernel, by decide +kernel⟩, by show xre 98 = _; decide +kernel, Or.inl ⟨rfl, xg2 239 (by decide +kernel) rfl, xg3 0 (by decide +kernel) rfl⟩⟩
theorem xm_99 : xMok 99 := ⟨⟨xg3 9 (by decide +kernel) rfl, xg1 1 (by decide +kernel) rfl⟩, ⟨by decide +kernel, by decide +kernel, by decide +kernel, by decide +kernel, by decide +kernel⟩, by show xre 99 = _; decide +kernel, Or.inl ⟨rfl, xg3 7 (by decide +kernel) rfl, xg3 8 (by decide +kernel) rfl⟩⟩
theorem xm_100 : xMok 100 := ⟨⟨xg3 14 (by decide +kernel) rfl, xg1 1 (by decide +kernel) rfl⟩, ⟨by decide +kernel, by decide +kernel, by decide +kernel, by decide +kernel, by decide +kernel⟩, by show xre 100 = _; decide +kernel, Or.inl ⟨rfl, xg3 12 (by decide +kernel) rfl, xg3 13 (by decide +kernel) rfl⟩⟩
theorem xm_101 : xMok 101 := ⟨⟨xg3 19 (by decide +kernel) rfl, xg1 1 (by decide +kernel) rfl⟩, ⟨by decide +kernel, by decide +kernel, by decide +kernel, by decide +kernel, by decide +kernel⟩, by show xre 101 = _; decide +kernel, Or.inl ⟨rfl, xg3 18 (by decide +kernel) rfl, xg 7 (by decide +kernel) rfl⟩⟩
theorem xm_102 : xMok 102 := ⟨⟨xg3 22 (by decide +kernel) rfl, xg1 1 (by decide +kernel) rfl⟩, ⟨by decide +kernel, by decide +kernel, by decide +kernel, by decide +kernel, by decide +kernel⟩, by show xre 102 = _; decide +kernel, Or.inr (Or.inl ⟨rfl, xg3 21 (by decide +kernel) rfl⟩)⟩
theorem xm_103 : xMok 103 := ⟨⟨xg3 25 (by decide +kernel) rfl, xg1 1 (by decide +kernel) rfl⟩, ⟨by decide +kernel, by decide +kernel, by decide +kernel, by decide +kernel, by decide +kernel⟩, by show xre 103 = _; decide +kernel, Or.inr (Or.inl ⟨rfl, xg3 24 (by decide +kernel) rfl⟩)⟩
theorem xm_104 : xMok 104 := ⟨⟨xg3 31 (by decide +kernel) rfl, xg1 1 (by decide +kernel) rfl⟩, ⟨by decide +kernel, by decide +kernel, by decide +kernel, by decide +kernel, by decide +kernel⟩, by show xre 104 = _; decide +kernel, Or.inr (Or.inl ⟨rfl, xg3 30 (by decide +kernel) rfl⟩)⟩
theorem xm_105 : xMok 105 := ⟨⟨xg3 35 (by decide +kernel) rfl, xg1 1 (by decide +kernel) rfl⟩, ⟨by decide +kernel, by decide +kernel, by decide +kernel, by decide +kernel, by decide +kernel⟩, by show xre 105 = _; decide +kernel, Or.inl ⟨rfl, xg3 33 (by decide +kernel) rfl, xg3 34 (by decide +kernel) rfl⟩⟩
theorem xm_106 : xMok 106 := ⟨⟨xg3 108 (by decide +kernel) rfl, xg1 1 (by decide +kernel) rfl⟩, ⟨by decide +kernel, by decide +kernel, by decide +kernel, by decide +kernel, by decide +kernel⟩, by show xre 106 = _; decide +kernel, Or.inl ⟨rfl, xg3 106 (by decide +kernel) rfl, xg3 107 (by decide +kernel) rfl⟩⟩
theorem xm_107 : xMok 107 := ⟨⟨xg3 136 (by decide +kernel) rfl, xg1 1 (by decide +kernel) rfl⟩, ⟨by decide +kernel, by decide +kernel, by decide +kernel, by decide +kernel, by decide +kernel⟩, by show xre 107 = _; decide +kernel, Or.inl ⟨rfl, xg3 134 (by decide +kernel) rfl, xg3 135 (by decide +kernel) rfl⟩⟩
theorem xm_108 : xMok 108 := ⟨⟨xg3 139 (by decide +kernel) rfl, xg1 1 (by decide +kernel) rfl⟩, ⟨by decide +kernel, by decide +kernel, by decide +kernel, by decide +kernel, by decide +kernel⟩, by show xre 108 = _; decide +kernel, Or.inr (Or.inl ⟨rfl, xg3 138 (by decide +kernel) rfl⟩)⟩
theorem xm_109 : xMok 109 := ⟨⟨xg3 144 (by decide +kernel) rfl, xg1 1 (by decide +kernel) rfl⟩, ⟨by decide +kernel, by decide +kernel, by decide +kernel, by decide +kernel, by decide +kernel⟩, by show xre 109 = _; decide +kernel, Or.inl ⟨rfl, xg3 142 (by decide +kernel) rfl, xg3 143 (by decide +kernel) rfl⟩⟩
theorem xm_110 : xMok 110 := ⟨⟨xg3 148 (by decide +kernel) rfl, xg1 1 (by decide +kernel) rfl⟩, ⟨by decide +kernel, by decide +kernel, by decide +kernel, by decide +kernel, by decide +kernel⟩, by show xre 110 = _; decide +kernel, Or.inl ⟨rfl, xg3 147 (by decide +kernel) rfl, xg 9 (by decide +kernel) rfl⟩⟩
theorem xm_111 : xMok 111 := ⟨⟨xg3 153 (by decide +kernel) rfl, xg1 1 (by decide +kernel) rfl⟩, ⟨by decide +kernel, by decide +kernel, by decide +kernel, by decide +kernel, by decide +kernel⟩, by show xre 111 = _; decide +kernel, Or.inl ⟨rfl, xg3 151 (by decide +kernel) rfl, xg3 152 (by decide +kernel) rfl⟩⟩
theorem xm_112 : xMok 112 := ⟨⟨xg3 157 (by decide +kernel) rfl, xg1 1 (by decide +kernel) rfl⟩, ⟨by decide +kernel, by decide +kernel, by decide +kernel, by decide +kernel, by decide +kernel⟩, by show xre 112 = _; decide +kernel, Or.inl ⟨rfl, xg3 156 (by decide +kernel) rfl, xg 10 (by decide +kernel) rfl⟩⟩
theorem xm_113 : xMok 113 := ⟨⟨xg3 160 (by decide +kernel) rfl, xg1 1 (by decide +kernel) rfl⟩, ⟨by decide +kernel, by decide +kernel, by decide +kernel, by decide +kernel, by decide +kernel⟩, by show xre 113 = _; decide +kernel, Or.inr (Or.inl ⟨rfl, xg3 159 (by decide +kernel) rfl⟩)⟩
theorem xm_114 : xMok 114 := ⟨⟨xg3 168 (by decide +kernel) rfl, xg1 1 (by decide +kernel) rfl⟩, ⟨by decide +kernel, by decide +kernel, by decide +kernel, by decide +kernel, by decide +kernel⟩, by show xre 114 = _; decide +kernel, Or.inl ⟨rfl, xg3 166 (by decide +kernel) rfl, xg3 167 (by decide +kernel) rfl⟩⟩
theorem xm_115 : xMok 115 := ⟨⟨xg3 172 (by decide +kernel) rfl, xg1 1 (by decide +kernel) rfl⟩, ⟨by decide +kernel, by decide +kernel, by decide +kernel, by decide +kernel, by decide +kernel⟩, by show xre 115 = _; decide +kernel, Or.inl ⟨rfl, xg3 171 (by decide +kernel) rfl, xg 11 (by decide +kernel) rfl⟩⟩
theorem xm_116 : xMok 116 := ⟨⟨xg4 84 (by decide +kernel) rfl, xg1 1 (by decide +kernel) rfl⟩, ⟨by decide +kernel, by decide +kernel, by decide +kernel, by decide +kernel, by decide +kernel⟩, by show xre 116 = _; decide +kernel, Or.inl ⟨rfl, xg4 82 (by decide +kernel) rfl, xg4 83 (by decide +kernel) rfl⟩⟩
theorem xm_117 : xMok 117 := ⟨⟨xg4 88 (by decide +kernel) rfl, xg1 1 (by decide +kernel) rfl⟩, ⟨by decide +kernel, by decide +kernel, by decide +kernel, by decide +kernel, by decide +kernel⟩, by show xre 117 = _; decide +kernel, Or.inl ⟨rfl, xg4 87 (by decide +kernel) rfl, xg 20 (by decide +kernel) rfl⟩⟩
theorem xm_118 : xMok 118 := ⟨⟨xg4 93 (by decide +kernel) rfl, xg1 1 (by decide +kernel) rfl⟩, ⟨by decide +kernel, by decide +kernel, by decide +kernel, by decide +kernel, by decide +kernel⟩, by show xre 118 = _; decide +kernel, Or.inl ⟨rfl, xg4 91 (by decide +kernel) rfl, xg4 92 (by decide +kernel) rfl⟩⟩
theorem xm_119 : xMok 119 := ⟨⟨xg4 101 (by decide +kernel) rfl, xg1 1 (by decide +kernel) rfl⟩, ⟨by decide +kernel, by decide +kernel, by decide +kernel, by decide +kernel, by decide +kernel⟩, by show xre 119 = _; decide +kernel, Or.inl ⟨rfl, xg4 99 (by decide +kernel) rfl, xg4 100 (by decide +kernel) rfl⟩⟩
theorem xm_120 : xMok 120 := ⟨⟨xg4 111 (by decide +kernel) rfl, xg1 1 (by decide +kernel) rfl⟩, ⟨by decide +kernel, by decide +kernel, by decide +kernel, by decide +kernel, by decide +kernel⟩, by show xre 120 = _; decide +kernel, Or.inl ⟨rfl, xg4 109 (by decide +kernel) rfl, xg4 110 (by decide +kernel) rfl⟩⟩
theorem xm_121 : xMok 121 := ⟨⟨xg4 119 (by decide +kernel) rfl, xg1 1 (by decide +kernel) rfl⟩, ⟨by decide +kernel, by decide +kernel, by decide +kernel, by decide +kernel, by decide +kernel⟩, by show xre 121 = _; decide +kernel, Or.inl ⟨rfl, xg4 117 (by decide +kernel) rfl, xg4 118 (by decide +kernel) rfl⟩⟩
theorem xm_122 : xMok 122 := ⟨⟨xg4 127 (by decide +kernel) rfl, xg1 1 (by decide +kernel) rfl⟩, ⟨by decide +kernel, by decide +kernel, by decide +kernel, by decide +kernel, by decide +kernel⟩, by show xre 122 = _; decide +kernel, Or.inl ⟨rfl, xg4 125 (by decide +kernel) rfl, xg4 126 (by decide +kernel) rfl⟩⟩
theorem xm_123 : xMok 123 := ⟨⟨xg4 131 (by decide +kernel) rfl, xg1 1 (by decide +kernel) rfl⟩, ⟨by decide +kernel, by decide +kernel, by decide +kernel, by decide +kernel, by decide +kernel⟩, by show xre 123 = _; decide +kernel, Or.inl ⟨rfl, xg4 129 (by decide +kernel) rfl, xg4 130 (by decide +kernel) rfl⟩⟩
theorem xm_124 : xMok 124 := ⟨⟨xg4 200 (by decide +kernel) rfl, xg1 1 (by decide +kernel) rfl⟩, ⟨by decide +kernel, by decide +kernel, by decide +kernel, by decide +kernel, by decide +kernel⟩, by show xre 124 = _; decide +kernel, Or.inl ⟨rfl, xg4 198 (by decide +kernel) rfl, xg4 199 (by decide +kernel) rfl⟩⟩
theorem xm_125 : xMok 125 := ⟨⟨xg4 205 (by decide +kernel) rfl, xg1 1 (by decide +kernel) rfl⟩, ⟨by decide +kernel, by decide +kernel, by decide +kernel, by decide +kernel, by decide +kernel⟩, by show xre 125 = _; decide +kernel, Or.inr (Or.inl ⟨rfl, xg4 204 (by decide +kernel) rfl⟩)⟩
theorem xm_126 : xMok 126 := ⟨⟨xg4 217 (by decide +kernel) rfl, xg1 1 (by decide +kernel) rfl⟩, ⟨by decide +kernel, by decide +kernel, by decide +kernel, by decide +kernel, by decide +kernel⟩, by show xre 126 = _; decide +kernel, Or.inl ⟨rfl, xg4 215 (by decide +kernel) rfl, xg4 216 (by decide +kernel) rfl⟩⟩
theorem xm_127 : xMok 127 := ⟨⟨xg4 220 (by decide +kernel) rfl, xg1 1 (by decide +kernel) rfl⟩, ⟨by decide +kernel, by decide +kernel, by decide +kernel, by decide +kernel, by decide +kernel⟩, by show xre 127 = _; decide +kernel, Or.inr (Or.inl ⟨rfl, xg4 219 (by decide +kernel) rfl⟩)⟩
theorem xm_128 : xMok 128 := ⟨⟨xg5 25 (by decide +kernel) rfl, xg1 1 (by decide +kernel) rfl⟩, ⟨by decide +kernel, by decide +kernel, by decide +kernel, by decide +kernel, by decide +kernel⟩, by show xre 128 = _; decide +kernel, Or.inl ⟨rfl, xg5 23 (by decide +kernel) rfl, xg5 24 (by decide +kernel) rfl⟩⟩
theorem xm_129 : xMok 129 := ⟨⟨xg5 43 (by decide +kernel) rfl, xg1 1 (by decide +kernel) rfl⟩, ⟨by decide +kernel, by decide +kernel, by decide +kernel, by decide +kernel, by decide +kernel⟩, by show xre 129 = _; decide +kernel, Or.inl ⟨rfl, xg5 41 (by decide +kernel) rfl, xg5 42 (by decide +kernel) rfl⟩⟩
theorem xm_130 : xMok 130 := ⟨⟨xg5 51 (by decide +kernel) rfl, xg1 1 (by decide +kernel) rfl⟩, ⟨by decide +kernel, by decide +kernel, by decide +kernel, by decide +kernel, by decide +kernel⟩, by show xre 130 = _; decide +kernel, Or.inl ⟨rfl, xg5 49 (by decide +kernel) rfl, xg5 50 (by decide +kernel) rfl⟩⟩
theorem xm_131 : xMok 131 := ⟨⟨xg5 59 (by decide +kernel) rfl, xg1 1 (by decide +kernel) rfl⟩, ⟨by decide +kernel, by decide +kernel, by decide +kernel, by decide +kernel, by decide +kernel⟩, by show xre 131 = _; decide +kernel, Or.inl ⟨rfl, xg5 57 (by decide +kernel) rfl, xg5 58 (by decide +kernel) rfl⟩⟩
theorem xm_132 : xMok 132 := ⟨⟨xg5 67 (by decide +kernel) rfl, xg1 1 (by decide +kernel) rfl⟩, ⟨by decide +kernel, by decide +kernel, by decide +kernel, by decide +kernel, by decide +kernel⟩, by show xre 132 = _; decide +kernel, Or.inl ⟨rfl, xg5 65 (by decide +kernel) rfl, xg5 66 (by decide +kernel) rfl⟩⟩
theorem xm_133 : xMok 133 := ⟨⟨xg5 75 (by decide +kernel) rfl, xg1 1 (by decide +kernel) rfl⟩, ⟨by decide +kernel, by decide +kernel, by decide +kernel, by decide +kernel, by decide +kernel⟩, by show xre 133 = _; decide +kernel, Or.inl ⟨rfl, xg5 73 (by decide +kernel) rfl, xg5 74 (by decide +kernel) rfl⟩⟩
theorem xm_134 : xMok 134 := ⟨⟨xg5 79 (by decide +kernel) rfl, xg1 1 (by decide +kernel) rfl⟩, ⟨by decide +kernel, by decide +kernel, by decide +kernel, by decide +kernel, by decide +kernel⟩, by show xre 134 = _; decide +kernel, Or.inl ⟨rfl, xg5 78 (by decide +kernel) rfl, xg 33 (by decide +kernel) rfl⟩⟩
theorem xm_135 : xMok 135 := ⟨⟨xg5 87 (by decide +kernel) rfl, xg1 1 (by decide +kernel) rfl⟩, ⟨by decide +kernel, by decide +kernel, by decide +kernel, by decide +kernel, by decide +kernel⟩, by show xre 135 = _; decide +kernel, Or.inl ⟨rfl, xg5 85 (by decide +kernel) rfl, xg5 86 (by decide +kernel) rfl⟩⟩
theorem xm_136 : xMok 136 := ⟨⟨xg5 98 (by decide +kernel) rfl, xg1 1 (by decide +kernel) rfl⟩, ⟨by decide +kernel, by decide +kernel, by decide +kernel, by decide +kernel, by decide +kernel⟩, by show xre 136 = _; decide +kernel, Or.inl ⟨rfl, xg5 96 (by decide +kernel) rfl, xg5 97 (by decide +kernel) rfl⟩⟩
theorem xm_137 : xMok 137 := ⟨⟨xg5 105 (by decide +kernel) rfl, xg1 1 (by decide +kernel) rfl⟩, ⟨by decide +kernel, by decide +kernel, by decide +kernel, by decide +kernel, by decide +kernel⟩, by show xre 137 = _; decide +kernel, Or.inl ⟨rfl, xg5 103 (by decide +kernel) rfl, xg5 104 (by decide +kernel) rfl⟩⟩
theorem xm_138 : xMok 138 := ⟨⟨xg5 125 (by decide +kernel) rfl, xg1 1 (by decide +kernel) rfl⟩, ⟨by decide +kernel, by decide +kernel, by decide +kernel, by decide +kernel, by decide +kernel⟩, by show xre 138 = _; decide +kernel, Or.inl ⟨rfl, xg5 123 (by decide +kernel) rfl, xg5 124 (by decide +kernel) rfl⟩⟩
theorem xm_139 : xMok 139 := ⟨⟨xg5 137 (by decide +kernel) rfl, xg1 1 (by decide +kernel) rfl⟩, ⟨by decide +kernel, by decide +kernel, by decide +kernel, by decide +kernel, by decide +kernel⟩, by show xre 139 = _; decide +kernel, Or.inl ⟨rfl, xg5 135 (by decide +kernel) rfl, xg5 136 (by decide +kernel) rfl⟩⟩
theorem xm_140 : xMok 140 := ⟨⟨xg5 165 (by decide +kernel) rfl, xg1 1 (by decide +kernel) rfl⟩, ⟨by decide +kernel, by decide +kernel, by decide +kernel, by decide +kernel, by decide +kernel⟩, by show xre 140 = _; decide +kernel, Or.inl ⟨rfl, xg5 163 (by decide +kernel) rfl, xg5 164 (by decide +kernel) rfl⟩⟩
theorem xm_141 : xMok 141 := ⟨⟨xg5 172 (by decide +kernel) rfl, xg1 1 (by decide +kernel) rfl⟩, ⟨by decide +kernel, by decide +kernel, by decide +kernel, by decide +kernel, by decide +kernel⟩, by show xre 141 = _; decide +kernel, Or.inl ⟨rfl, xg5 170 (by decide +kernel) rfl, xg5 171 (by decide +kernel) rfl⟩⟩
theorem xm_142 : xMok 142 := ⟨⟨xg5 184 (by decide +kernel) rfl, xg1 1 (by decide +kernel) rfl⟩, ⟨by decide +kernel, by decide +kernel, by decide +kernel, by decide +kernel, by decide +kernel⟩, by show xre 142 = _; decide +kernel, Or.inl ⟨rfl, xg5 182 (by decide +kernel) rfl, xg5 183 (by decide +kernel) rfl⟩⟩
theorem xm_143 : xMok 143 := ⟨⟨xg5 190 (by decide +kernel) rfl, xg1 12 (by decide +kernel) rfl⟩, ⟨by decide +kernel, by decide +kernel, by decide +kernel, by decide +kernel, by decide +kernel⟩, by show xre 143 = _; decide +kernel, Or.inr (Or.inr ⟨rfl, xg5 189 (by decide +kernel) rfl, by decide +kernel, by decide +kernel⟩)⟩
theorem xm_144 : xMok 144 := ⟨⟨xg6 91 (by decide +kernel) rfl, xg1 12 (by decide +kernel) rfl⟩, ⟨by decide +kernel, by decide +kernel, by decide +kernel, by decide +kernel, by decide +kernel⟩, by show xre 144 = _; decide +kernel, Or.inl ⟨rfl, xg6 89 (by decide +kernel) rfl, xg6 90 (by decide +kernel) rfl⟩⟩
theorem xm_145 : xMok 145 := ⟨⟨xg6 95 (by decide +kernel) rfl, xg1 12 (by decide +kernel) rfl⟩, ⟨by decide +kernel, by decide +kernel, by decide +kernel, by decide +kernel, by decide +kernel⟩, by show xre 145 = _; decide +kernel, Or.inl ⟨rfl, xg6 93 (by decide +kernel) rfl, xg6 94 (by decide +kernel) rfl⟩⟩
theorem xm_146 : xMok 146 := ⟨⟨xg6 98 (by decide +kernel) rfl, xg1 12 (by decide +kernel) rfl⟩, ⟨by decide +kernel, by decide +kernel, by decide +kernel, by decide +kernel, by decide +kernel⟩, by show xre 146 = _; decide +kernel, Or.inr (Or.inl ⟨rfl, xg6 97 (by decide +kernel) rfl⟩)⟩
theorem xm_147 : xMok 147 := ⟨⟨xg6 102 (by decide +kernel) rfl, xg1 12 (by decide +kernel) rfl⟩, ⟨by decide +kernel, by decide +kernel, by decide +kernel, by decide +kernel, by decide +kernel⟩, by show xre 147 = _; decide +kernel, Or.inl ⟨rfl, xg6 101 (by decide +kernel) rfl, xg 34 (by decide +kernel) rfl⟩⟩
theorem xm_148 : xMok 148 := ⟨⟨xg6 106 (by decide +kernel) rfl, xg1 12 (by decide +kernel) rfl⟩, ⟨by decide +kernel, by decide +kernel, by decide +kernel, by decide +kernel, by decide +kernel⟩, by show xre 148 = _; decide +kernel, Or.inl ⟨rfl, xg6 104 (by decide +kernel) rfl, xg6 105 (by decide +kernel) rfl⟩⟩
theorem xm_149 : xMok 149 := ⟨⟨xg6 110 (by decide +kernel) rfl, xg1 12 (by decide +kernel) rfl⟩, ⟨by decide +kernel, by decide +kernel, by decide +kernel, by decide +kernel, by decide +kernel⟩, by show xre 149 = _; decide +kernel, Or.inl ⟨rfl, xg6 108 (by decide +kernel) rfl, xg6 109 (by decide +kernel) rfl⟩⟩
theorem xm_150 : xMok 150 := ⟨⟨xg6 114 (by decide +kernel) rfl, xg1 12 (by decide +kernel) rfl⟩, ⟨by decide +kernel, by decide +kernel, by decide +kernel, by decide +kernel, by decide +kernel⟩, by show xre 150 = _; decide +kernel, Or.inl ⟨rfl, xg6 112 (by decide +kernel) rfl, xg6 113 (by decide +kernel) rfl⟩⟩
theorem xm_151 : xMok 151 := ⟨⟨xg6 118 (by decide +kernel) rfl, xg1 12 (by decide +kernel) rfl⟩, ⟨by decide +kernel, by decide +kernel, by decide +kernel, by decide +kernel, by decide +kernel⟩, by show xre 151 = _; decide +kernel, Or.inl ⟨rfl, xg6 117 (by decide +kernel) rfl, xg 35 (by decide +kernel) rfl⟩⟩
theorem xm_152 : xMok 152 := ⟨⟨xg6 122 (by decide +kernel) rfl, xg1 12 (by decide +kernel) rfl⟩, ⟨by decide +kernel, by decide +kernel, by decide +kernel, by decide +kernel, by decide +kernel⟩, by show xre 152 = _; decide +kernel, Or.inl ⟨rfl, xg6 121 (by decide +kernel) rfl, xg 36 (by decide +kernel) rfl⟩⟩
theorem xm_153 : xMok 153 := ⟨⟨xg6 126 (by decide +kernel) rfl, xg1 12 (by decide +kernel) rfl⟩, ⟨by decide +kernel, by decide +kernel, by decide +kernel, by decide +kernel, by decide +kernel⟩, by show xre 153 = _; decide +kernel, Or.inl ⟨rfl, xg6 125 (by decide +kernel) rfl, xg 37 (by decide +kernel) rfl⟩⟩
theorem xm_154 : xMok 154 := ⟨⟨xg6 129 (by decide +kernel) rfl, xg1 12 (by decide +kernel) rfl⟩, ⟨by decide +kernel, by decide +kernel, by decide +kernel, by decide +kernel, by decide +kernel⟩, by show xre 154 = _; decide +kernel, Or.inr (Or.inl ⟨rfl, xg6 128 (by decide +kernel) rfl⟩)⟩
theorem xm_155 : xMok 155 := ⟨⟨xg6 133 (by decide +kernel) rfl, xg1 12 (by decide +kernel) rfl⟩, ⟨by decide +kernel, by decide +kernel, by decide +kernel, by decide +kernel, by decide +kernel⟩, by show xre 155 = _; decide +kernel, Or.inl ⟨rfl, xg6 132 (by decide +kernel) rfl, xg 38 (by decide +kernel) rfl⟩⟩
theorem xm_156 : xMok 156 := ⟨⟨xg6 137 (by decide +kernel) rfl, xg1 12 (by decide +kernel) rfl⟩, ⟨by decide +kernel, by decide +kernel, by decide +kernel, by decide +kernel, by decide +kernel⟩, by show xre 156 = _; decide +kernel, Or.inl ⟨rfl, xg6 135 (by decide +kernel) rfl, xg6 136 (by decide +kernel) rfl⟩⟩
theorem xm_157 : xMok 157 := ⟨⟨xg6 141 (by decide +kernel) rfl, xg1 12 (by decide +kernel) rfl⟩, ⟨by decide +kernel, by decide +kernel, by decide +kernel, by decide +kernel, by decide +kernel⟩, by show xre 157 = _; decide +kernel, Or.inl ⟨rfl, xg6 140 (by decide +kernel) rfl, xg 39 (by decide +kernel) rfl⟩⟩
theorem xm_158 : xMok 158 := ⟨⟨xg6 145 (by decide +kernel) rfl, xg1 12 (by decide +kernel) rfl⟩, ⟨by decide +kernel, by decide +kernel, by decide +kernel, by decide +kernel, by decide +kernel⟩, by show xre 158 = _; decide +kernel, Or.inl ⟨rfl, xg6 143 (by decide +kernel) rfl, xg6 144 (by decide +kernel) rfl⟩⟩
theorem xm_159 : xMok 159 := ⟨⟨xg6 149 (by decide +kernel) rfl, xg1 12 (by decide +kernel) rfl⟩, ⟨by decide +kernel, by decide +kernel, by decide +kernel, by decide +kernel, by decide +kernel⟩, by show xre 159 = _; decide +kernel, Or.inl ⟨rfl, xg6 147 (by decide +kernel) rfl, xg6 148 (by decide +kernel) rfl⟩⟩
theorem xm_160 : xMok 160 := ⟨⟨xg6 153 (by decide +kernel) rfl, xg1 12 (by decide +kernel) rfl⟩, ⟨by decide +kernel, by decide +kernel, by decide +kernel, by decide +kernel, by decide +kernel⟩, by show xre 160 = _; decide +kernel, Or.inl ⟨rfl, xg6 151 (by decide +kernel) rfl, xg6 152 (by decide +kernel) rfl⟩⟩
theorem xm_161 : xMok 161 := ⟨⟨xg6 157 (by decide +kernel) rfl, xg1 12 (by decide +kernel) rfl⟩, ⟨by decide +kernel, by decide +kernel, by decide +kernel, by decide +kernel, by decide +kernel⟩, by show xre 161 = _; decide +kernel, Or.inl ⟨rfl, xg6 155 (by decide +kernel) rfl, xg6 156 (by decide +kernel) rfl⟩⟩
theorem xm_162 : xMok 162 := ⟨⟨xg6 161 (by decide +kernel) rfl, xg1 12 (by decide +kernel) rfl⟩, ⟨by decide +kernel, by decide +kernel, by decide +kernel, by decide +kernel, by decide +kernel⟩, by show xre 162 = _; decide +kernel, Or.inl ⟨rfl, xg6 159 (by decide +kernel) rfl, xg6 160 (by decide +kernel) rfl⟩⟩
theorem xm_163 : xMok 163 := ⟨⟨xg6 165 (by decide +kernel) rfl, xg1 12 (by decide +kernel) rfl⟩, ⟨by decide +kernel, by decide +kernel, by decide +kernel, by decide +kernel, by decide +kernel⟩, by show xre 163 = _; decide +kernel, Or.inl ⟨rfl, xg6 163 (by decide +kernel) rfl, xg6 164 (by decide +kernel) rfl⟩⟩
theorem xm_164 : xMok 164 := ⟨⟨xg6 168 (by decide +kernel) rfl, xg1 12 (by decide +kernel) rfl⟩, ⟨by decide +kernel, by decide +kernel, by decide +kernel, by decide +kernel, by decide +kernel⟩, by show xre 164 = _; decide +kernel, Or.inr (Or.inl ⟨rfl, xg6 167 (by decide +kernel) rfl⟩)⟩
theorem xm_165 : xMok 165 := ⟨⟨xg6 172 (by decide +kernel) rfl, xg1 12 (by decide +kernel) rfl⟩, ⟨by decide +kernel, by decide +kernel, by decide +kernel, by decide +kernel, by decide +kernel⟩, by show xre 165 = _; decide +kernel, Or.inl ⟨rfl, xg6 171 (by decide +kernel) rfl, xg 40 (by decide +kernel) rfl⟩⟩
theorem xm_166 : xMok 166 := ⟨⟨xg6 176 (by decide +kernel) rfl, xg1 12 (by decide +kernel) rfl⟩, ⟨by decide +kernel, by decide +kernel, by decide +kernel, by decide +kernel, by decide +kernel⟩, by show xre 166 = _; decide +kernel, Or.inl ⟨rfl, xg6 175 (by decide +kernel) rfl, xg 41 (by decide +kernel) rfl⟩⟩
theorem xm_167 : xMok 167 := ⟨⟨xg6 180 (by decide +kernel) rfl, xg1 12 (by decide +kernel) rfl⟩, ⟨by decide +kernel, by decide +kernel, by decide +kernel, by decide +kernel, by decide +kernel⟩, by show xre 167 = _; decide +kernel, Or.inl ⟨rfl, xg6 179 (by decide +kernel) rfl, xg 42 (by decide +kernel) rfl⟩⟩
theorem xm_168 : xMok 168 := ⟨⟨xg6 184 (by decide +kernel) rfl, xg1 12 (by decide +kernel) rfl⟩, ⟨by decide +kernel, by decide +kernel, by decide +kernel, by decide +kernel, by decide +kernel⟩, by show xre 168 = _; decide +kernel, Or.inl ⟨rfl, xg6 182 (by decide +kernel) rfl, xg6 183 (by decide +kernel) rfl⟩⟩
theorem xm_169 : xMok 169 := ⟨⟨xg6 188 (by decide +kernel) rfl, xg1 12 (by decide +kernel) rfl⟩, ⟨by decide +kernel, by decide +kernel, by decide +kernel, by decide +kernel, by decide +kernel⟩, by show xre 169 = _; decide +kernel, Or.inl ⟨rfl, xg6 187 (by decide +kernel) rfl, xg 43 (by decide +kernel) rfl⟩⟩
theorem xm_170 : xMok 170 := ⟨⟨xg6 192 (by decide +kernel) rfl, xg1 12 (by decide +kernel) rfl⟩, ⟨by decide +kernel, by decide +kernel, by decide +kernel, by decide +kernel, by decide +kernel⟩, by show xre 170 = _; decide +kernel, Or.inl ⟨rfl, xg6 190 (by decide +kernel) rfl, xg6 191 (by decide +kernel) rfl⟩⟩
theorem xm_171 : xMok 171 := ⟨⟨xg6 196 (by decide +kernel) rfl, xg1 12 (by decide +kernel) rfl⟩, ⟨by decide +kernel, by decide +kernel, by decide +kernel, by decide +kernel, by decide +kernel⟩, by show xre 171 = _; decide +kernel, Or.inl ⟨rfl, xg6 194 (by decide +kernel) rfl, xg6 195 (by decide +kernel) rfl⟩⟩
theorem xm_172 : xMok 172 := ⟨⟨xg6 200 (by decide +kernel) rfl, xg1 12 (by decide +kernel) rfl⟩, ⟨by decide +kernel, by decide +kernel, by decide +kernel, by decide +kernel, by decide +kernel⟩, by show xre 172 = _; decide +kernel, Or.inl ⟨rfl, xg6 198 (by decide +kernel) rfl, xg6 199 (by decide +kernel) rfl⟩⟩
theorem xm_173 : xMok 173 := ⟨⟨xg6 204 (by decide +kernel) rfl, xg1 12 (by decide +kernel) rfl⟩, ⟨by decide +kernel, by decide +kernel, by decide +kernel, by decide +kernel, by decide +kernel⟩, by show xre 173 = _; decide +kernel, Or.inl ⟨rfl, xg6 203 (by decide +kernel) rfl, xg 44 (by decide +kernel) rfl⟩⟩
theorem xm_174 : xMok 174 := ⟨⟨xg6 207 (by decide +kernel) rfl, xg1 12 (by decide +kernel) rfl⟩, ⟨by decide +kernel, by decide +kernel, by decide +kernel, by decide +kernel, by decide +kernel⟩, by show xre 174 = _; decide +kernel, Or.inr (Or.inl ⟨rfl, xg6 206 (by decide +kernel) rfl⟩)⟩
theorem xm_175 : xMok 175 := ⟨⟨xg6 211 (by decide +kernel) rfl, xg1 12 (by decide +kernel) rfl⟩, ⟨by decide +kernel, by decide +kernel, by decide +kernel, by decide +kernel, by decide +kernel⟩, by show xre 175 = _; decide +kernel, Or.inl ⟨rfl, xg6 209 (by decide +kernel) rfl, xg6 210 (by decide +kernel) rfl⟩⟩
theorem xm_176 : xMok 176 := ⟨⟨xg6 215 (by decide +kernel) rfl, xg1 12 (by decide +kernel) rfl⟩, ⟨by decide +kernel, by decide +kernel, by decide +kernel, by decide +kernel, by decide +kernel⟩, by show xre 176 = _; decide +kernel, Or.inl ⟨rfl, xg6 213 (by decide +kernel) rfl, xg6 214 (by decide +kernel) rfl⟩⟩
theorem xm_177 : xMok 177 := ⟨⟨xg6 219 (by decide +kernel) rfl, xg1 12 (by decide +kernel) rfl⟩, ⟨by decide +kernel, by decide +kernel, by decide +kernel, by decide +kernel, by decide +kernel⟩, by show xre 177 = _; decide +kernel, Or.inl ⟨rfl, xg6 217 (by decide +kernel) rfl, xg6 218 (by decide +kernel) rfl⟩⟩
theorem xm_178 : xMok 178 := ⟨⟨xg6 223 (by decide +kernel) rfl, xg1 12 (by decide +kernel) rfl⟩, ⟨by decide +kernel, by decide +kernel, by decide +kernel, by decide +kernel, by decide +kernel⟩, by show xre 178 = _; decide +kernel, Or.inl ⟨rfl, xg6 221 (by decide +kernel) rfl, xg6 222 (by decide +kernel) rfl⟩⟩
theorem xm_179 : xMok 179 := ⟨⟨xg6 227 (by decide +kernel) rfl, xg1 12 (by decide +kernel) rfl⟩, ⟨by decide +kernel, by decide +kernel, by decide +kernel, by decide +kernel, by decide +kernel⟩, by show xre 179 = _; decide +kernel, Or.inl ⟨rfl, xg6 225 (by decide +kernel) rfl, xg6 226 (by decide +kernel) rfl⟩⟩
theorem xm_180 : xMok 180 := ⟨⟨xg6 231 (by decide +kernel) rfl, xg1 12 (by decide +kernel) rfl⟩, ⟨by decide +kernel, by decide +kernel, by decide +kernel, by decide +kernel, by decide +kernel⟩, by show xre 180 = _; decide +kernel, Or.inl ⟨rfl, xg6 229 (by decide +kernel) rfl, xg6 230 (by decide +kernel) rfl⟩⟩
theorem xm_181 : xMok 181 := ⟨⟨xg6 235 (by decide +kernel) rfl, xg1 12 (by decide +kernel) rfl⟩, ⟨by decide +kernel, by decide +kernel, by decide +kernel, by decide +kernel, by decide +kernel⟩, by show xre 181 = _; decide +kernel, Or.inl ⟨rfl, xg6 234 (by decide +kernel) rfl, xg 45 (by decide +kernel) rfl⟩⟩
theorem xm_182 : xMok 182 := ⟨⟨xg6 239 (by decide +kernel) rfl, xg1 12 (by decide +kernel) rfl⟩, ⟨by decide +kernel, by decide +kernel, by decide +kernel, by decide +kernel, by decide +kernel⟩, by show xre 182 = _; decide +kernel, Or.inl ⟨rfl, xg6 238 (by decide +kernel) rfl, xg 46 (by decide +kernel) rfl⟩⟩
theorem xm_183 : xMok 183 := ⟨⟨xg7 3 (by decide +kernel) rfl, xg1 12 (by decide +kernel) rfl⟩, ⟨by decide +kernel, by decide +kernel, by decide +kernel, by decide +kernel, by decide +kernel⟩, by show xre 183 = _; decide +kernel, Or.inl ⟨rfl, xg7 1 (by decide +kernel) rfl, xg7 2 (by decide +kernel) rfl⟩⟩
theorem xm_184 : xMok 184 := ⟨⟨xg7 7 (by decide +kernel) rfl, xg1 12 (by decide +kernel) rfl⟩, ⟨by decide +kernel, by decide +kernel, by decide +kernel, by decide +kernel, by decide +kernel⟩, by show xre 184 = _; decide +kernel, Or.inl ⟨rfl, xg7 5 (by decide +kernel) rfl, xg7 6 (by decide +kernel) rfl⟩⟩
theorem xm_185 : xMok 185 := ⟨⟨xg7 11 (by decide +kernel) rfl, xg1 12 (by decide +kernel) rfl⟩, ⟨by decide +kernel, by decide +kernel, by decide +kernel, by decide +kernel, by decide +kernel⟩, by show xre 185 = _; decide +kernel, Or.inl ⟨rfl, xg7 9 (by decide +kernel) rfl, xg7 10 (by decide +kernel) rfl⟩⟩
theorem xm_186 : xMok 186 := ⟨⟨xg7 15 (by decide +kernel) rfl, xg1 12 (by decide +kernel) rfl⟩, ⟨by decide +kernel, by decide +kernel, by decide +kernel, by decide +kernel, by decide +kernel⟩, by show xre 186 = _; decide +kernel, Or.inl ⟨rfl, xg7 14 (by decide +kernel) rfl, xg 47 (by decide +kernel) rfl⟩⟩
theorem xm_187 : xMok 187 := ⟨⟨xg7 19 (by decide +kernel) rfl, xg1 12 (by decide +kernel) rfl⟩, ⟨by decide +kernel, by decide +kernel, by decide +kernel, by decide +kernel, by decide +kernel⟩, by show xre 187 = _; decide +kernel, Or.inl ⟨rfl, xg7 18 (by decide +kernel) rfl, xg 48 (by decide +kernel) rfl⟩⟩
theorem xm_188 : xMok 188 := ⟨⟨xg7 22 (by decide +kernel) rfl, xg1 12 (by decide +kernel) rfl⟩, ⟨by decide +kernel, by decide +kernel, by decide +kernel, by decide +kernel, by decide +kernel⟩, by show xre 188 = _; decide +kernel, Or.inr (Or.inl ⟨rfl, xg7 21 (by decide +kernel) rfl⟩)⟩
theorem xm_189 : xMok 189 := ⟨⟨xg7 26 (by decide +kernel) rfl, xg1 12 (by decide +kernel) rfl⟩, ⟨by decide +kernel, by decide +kernel, by decide +kernel, by decide +kernel, by decide +kernel⟩, by show xre 189 = _; decide +kernel, Or.inl ⟨rfl, xg7 25 (by decide +kernel) rfl, xg 49 (by decide +kernel) rfl⟩⟩
theorem xm_190 : xMok 190 := ⟨⟨xg7 30 (by decide +kernel) rfl, xg1 12 (by decide +kernel) rfl⟩, ⟨by decide +kernel, by decide +kernel, by decide +kernel, by decide +kernel, by decide +kernel⟩, by show xre 190 = _; decide +kernel, Or.inl ⟨rfl, xg7 29 (by decide +kernel) rfl, xg 50 (by decide +kernel) rfl⟩⟩
theorem xm_191 : xMok 191 := ⟨⟨xg7 34 (by decide +kernel) rfl, xg1 12 (by decide +kernel) rfl⟩, ⟨by decide +kernel, by decide +kernel, by decide +kernel, by decide +kernel, by decide +kernel⟩, by show xre 191 = _; decide +kernel, Or.inl ⟨rfl, xg7 33 (by decide +kernel) rfl, xg 51 (by decide +kernel) rfl⟩⟩
theorem xm_192 : xMok 192 := ⟨⟨xg7 38 (by decide +kernel) rfl, xg1 12 (by decide +kernel) rfl⟩, ⟨by decide +kernel, by decide +kernel, by decide +kernel, by decide +kernel, by decide +kernel⟩, by show xre 192 = _; decide +kernel, Or.inl ⟨rfl, xg7 37 (by decide +kernel) rfl, xg 52 (by decide +kernel) rfl⟩⟩
theorem xm_193 : xMok 193 := ⟨⟨xg7 42 (by decide +kernel) rfl, xg1 12 (by decide +kernel) rfl⟩, ⟨by decide +kernel, by decide +kernel, by decide +kernel, by decide +kernel, by decide +kernel⟩, by show xre 193 = _; decide +kernel, Or.inl ⟨rfl, xg7 41 (by decide +kernel) rfl, xg 53 (by decide +kernel) rfl⟩⟩
theorem xm_194 : xMok 194 := ⟨⟨xg7 46 (by decide +kernel) rfl, xg1 12 (by decide +kernel) rfl⟩, ⟨by decide +kernel, by decide +kernel, by decide +kernel, by decide +kernel, by decide +kernel⟩, by show xre 194 = _; decide +kernel, Or.inl ⟨rfl, xg7 45 (by decide +kernel) rfl, xg 54 (by decide +kernel) rfl⟩⟩
theorem xm_195 : xMok 195 := ⟨⟨xg7 50 (by decide +kernel) rfl, xg1 12 (by decide +kernel) rfl⟩, ⟨by decide +kernel, by decide +kernel, by decide +kernel, by decide +kernel, by decide +kernel⟩, by show xre 195 = _; decide +kernel, Or.inl ⟨rfl, xg7 49 (by decide +kernel) rfl, xg 55 (by decide +kernel) rfl⟩⟩
theorem xm_196 : xMok 196 := ⟨⟨xg7 54 (by decide +kernel) rfl, xg1 12 (by decide +kernel) rfl⟩, ⟨by decide +kernel, by decide +kernel, by decide +kernel, by decide +kernel, by decide +kernel⟩, by show xre 196 = _; decide +kernel, Or.inl ⟨rfl, xg7 53 (by decide +kernel) rfl, xg 56 (by decide +kernel) rfl⟩⟩
theorem xm_197 : xMok 197 := ⟨⟨xg7 58 (by decide +kernel) rfl, xg1 12 (by decide +kernel) rfl⟩, ⟨by decide +kernel, by decide +kernel, by decide +kernel, by decide +kernel, by decide +kernel⟩, by show xre 197 = _; decide +kernel, Or.inl ⟨rfl, xg7 57 (by decide +kernel) rfl, xg 57 (by decide +kernel) rfl⟩⟩
theorem xm_198 : xMok 198 := ⟨⟨xg7 62 (by decide +kernel) rfl, xg1 12 (by decide +kernel) rfl⟩, ⟨by decide +kernel, by decide +kernel, by decide +kernel, by decide +kernel, by decide +kernel⟩, by show xre 198 = _; decide +kernel, Or.inl ⟨rfl, xg7 61 (by decide +kernel) rfl, xg 58 (by decide +kernel) rfl⟩⟩
theorem xm_199 : xMok 199 := ⟨⟨xg7 66 (by decide +kernel) rfl, xg1 12 (by decide +kernel) rfl⟩, ⟨by decide +kernel, by decide +kernel, by decide +kernel, by decide +kernel, by decide +kernel⟩, by show xre 199 = _; decide +kernel, Or.inl ⟨rfl, xg7 65 (by decide +kernel) rfl, xg 59 (by decide +kernel) rfl⟩⟩
theorem xm_200 : xMok 200 := ⟨⟨xg7 70 (by decide +kernel) rfl, xg1 12 (by decide +kernel) rfl⟩, ⟨by decide +kernel, by decide +kernel, by decide +kernel, by decide +kernel, by decide +kernel⟩, by show xre 200 = _; decide +kernel, Or.inl ⟨rfl, xg7 69 (by decide +kernel) rfl, xg 60 (by decide +kernel) rfl⟩⟩
theorem xm_201 : xMok 201 := ⟨⟨xg7 74 (by decide +kernel) rfl, xg1 12 (by decide +kernel) rfl⟩, ⟨by decide +kernel, by decide +kernel, by decide +kernel, by decide +kernel, by decide +kernel⟩, by show xre 201 = _; decide +kernel, Or.inl ⟨rfl, xg7 73 (by decide +kernel) rfl, xg 61 (by decide +kernel) rfl⟩⟩
theorem xm_202 : xMok 202 := ⟨⟨xg7 78 (by decide +kernel) rfl, xg1 12 (by decide +kernel) rfl⟩, ⟨by decide +kernel, by decide +kernel, by decide +kernel, by decide +kernel, by decide +kernel⟩, by show xre 202 = _; decide +kernel, Or.inl ⟨rfl, xg7 76 (by decide +kernel) rfl, xg7 77 (by decide +kernel) rfl⟩⟩
theorem xm_203 : xMok 203 := ⟨⟨xg7 82 (by decide +kernel) rfl, xg1 12 (by decide +kernel) rfl⟩, ⟨by decide +kernel, by decide +kernel, by decide +kernel, by decide +kernel, by decide +kernel⟩, by show xre 203 = _; decide +kernel, Or.inl ⟨rfl, xg7 80 (by decide +kernel) rfl, xg7 81 (by decide +kernel) rfl⟩⟩
theorem xm_204 : xMok 204 := ⟨⟨xg7 86 (by decide +kernel) rfl, xg1 12 (by decide +kernel) rfl⟩, ⟨by decide +kernel, by decide +kernel, by decide +kernel, by decide +kernel, by decide +kernel⟩, by show xre 204 = _; decide +kernel, Or.inl ⟨rfl, xg7 84 (by decide +kernel) rfl, xg7 85 (by decide +kernel) rfl⟩⟩
theorem xm_205 : xMok 205 := ⟨⟨xg7 90 (by decide +kernel) rfl, xg1 12 (by decide +kernel) rfl⟩, ⟨by decide +kernel, by decide +kernel, by decide +kernel, by decide +kernel, by decide +kernel⟩, by show xre 205 = _; decide +kernel, Or.inl ⟨rfl, xg7 88 (by decide +kernel) rfl, xg7 89 (by decide +kernel) rfl⟩⟩
theorem xm_206 : xMok 206 := ⟨⟨xg7 94 (by decide +kernel) rfl, xg1 12 (by decide +kernel) rfl⟩, ⟨by decide +kernel, by decide +kernel, by decide +kernel, by decide +kernel, by decide +kernel⟩, by show xre 206 = _; decide +kernel, Or.inl ⟨rfl, xg7 92 (by decide +kernel) rfl, xg7 93 (by decide +kernel) rfl⟩⟩
theorem xm_207 : xMok 207 := ⟨⟨xg7 98 (by decide +kernel) rfl, xg1 12 (by decide +kernel) rfl⟩, ⟨by decide +kernel, by decide +kernel, by decide +kernel, by decide +kernel, by decide +kernel⟩, by show xre 207 = _; decide +kernel, Or.inl ⟨rfl, xg7 96 (by decide +kernel) rfl, xg7 97 (by decide +kernel) rfl⟩⟩
theorem xm_208 : xMok 208 := ⟨⟨xg7 102 (by decide +kernel) rfl, xg1 12 (by decide +kernel) rfl⟩, ⟨by decide +kernel, by decide +kernel, by decide +kernel, by decide +kernel, by decide +kernel⟩, by show xre 208 = _; decide +kernel, Or.inl ⟨rfl, xg7 100 (by decide +kernel) rfl, xg7 101 (by decide +kernel) rfl⟩⟩
theorem xm_209 : xMok 209 := ⟨⟨xg7 106 (by decide +kernel) rfl, xg1 12 (by decide +kernel) rfl⟩, ⟨by decide +kernel, by decide +kernel, by decide +kernel, by decide +kernel, by decide +kernel⟩, by show xre 209 = _; decide +kernel, Or.inl ⟨rfl, xg7 104 (by decide +kernel) rfl, xg7 105 (by decide +kernel) rfl⟩⟩
theorem xm_210 : xMok 210 := ⟨⟨xg7 110 (by decide +kernel) rfl, xg1 12 (by decide +kernel) rfl⟩, ⟨by decide +kernel, by decide +kernel, by decide +kernel, by decide +kernel, by decide +kernel⟩, by show xre 210 = _; decide +kernel, Or.inl ⟨rfl, xg7 108 (by decide +kernel) rfl, xg7 109 (by decide +kernel) rfl⟩⟩
theorem xm_211 : xMok 211 := ⟨⟨xg7 114 (by decide +kernel) rfl, xg1 12 (by decide +kernel) rfl⟩, ⟨by decide +kernel, by decide +kernel, by decide +kernel, by decide +kernel, by decide +kernel⟩, by show xre 211 = _; decide +kernel, Or.inl ⟨rfl, xg7 112 (by decide +kernel) rfl, xg7 113 (by decide +kernel) rfl⟩⟩
theorem xm_212 : xMok 212 := ⟨⟨xg7 118 (by decide +kernel) rfl, xg1 12 (by decide +kernel) rfl⟩, ⟨by decide +kernel, by decide +kernel, by decide +kernel, by decide +kernel, by decide +kernel⟩, by show xre 212 = _; decide +kernel, Or.inl ⟨rfl, xg7 116 (by decide +kernel) rfl, xg7 117 (by decide +kernel) rfl⟩⟩
theorem xm_213 : xMok 213 := ⟨⟨xg7 122 (by decide +kernel) rfl, xg1 12 (by decide +kernel) rfl⟩, ⟨by decide +kernel, by decide +kernel, by decide +kernel, by decide +kernel, by decide +kernel⟩, by show xre 213 = _; decide +kernel, Or.inl ⟨rfl, xg7 120 (by decide +kernel) rfl, xg7 121 (by decide +kernel) rfl⟩⟩
theorem xm_214 : xMok 214 := ⟨⟨xg7 126 (by decide +kernel) rfl, xg1 12 (by decide +kernel) rfl⟩, ⟨by decide +kernel, by decide +kernel, by decide +kernel, by decide +kernel, by decide +kernel⟩, by show xre 214 = _; decide +kernel, Or.inl ⟨rfl, xg7 124 (by decide +kernel) rfl, xg7 125 (by decide +kernel) rfl⟩⟩
theorem xm_215 : xMok 215 := ⟨⟨xg7 130 (by decide +kernel) rfl, xg1 12 (by decide +kernel) rfl⟩, ⟨by decide +kernel, by decide +kernel, by decide +kernel, by decide +kernel, by decide +kernel⟩, by show xre 215 = _; decide +kernel, Or.inl ⟨rfl, xg7 128 (by decide +kernel) rfl, xg7 129 (by decide +kernel) rfl⟩⟩
theorem xm_216 : xMok 216 := ⟨⟨xg7 134 (by decide +kernel) rfl, xg1 12 (by decide +kernel) rfl⟩, ⟨by decide +kernel, by decide +kernel, by decide +kernel, by decide +kernel, by decide +kernel⟩, by show xre 216 = _; decide +kernel, Or.inl ⟨rfl, xg7 133 (by decide +kernel) rfl, xg 62 (by decide +kernel) rfl⟩⟩
theorem xm_217 : xMok 217 := ⟨⟨xg7 138 (by decide +kernel) rfl, xg1 12 (by decide +kernel) rfl⟩, ⟨by decide +kernel, by decide +kernel, by decide +kernel, by decide +kernel, by decide +kernel⟩, by show xre 217 = _; decide +kernel, Or.inl ⟨rfl, xg7 136 (by decide +kernel) rfl, xg7 137 (by decide +kernel) rfl⟩⟩
theorem xm_218 : xMok 218 := ⟨⟨xg7 143 (by decide +kernel) rfl, xg1 12 (by decide +kernel) rfl⟩, ⟨by decide +kernel, by decide +kernel, by decide +kernel, by decide +kernel, by decide +kernel⟩, by show xre 218 = _; decide +kernel, Or.inl ⟨rfl, xg7 141 (by decide +kernel) rfl, xg7 142 (by decide +kernel) rfl⟩⟩
theorem xm_219 : xMok 219 := ⟨⟨xg7 147 (by decide +kernel) rfl, xg1 12 (by decide +kernel) rfl⟩, ⟨by decide +kernel, by decide +kernel, by decide +kernel, by decide +kernel, by decide +kernel⟩, by show xre 219 = _; decide +kernel, Or.inl ⟨rfl, xg7 146 (by decide +kernel) rfl, xg 63 (by decide +kernel) rfl⟩⟩
theorem xm_220 : xMok 220 := ⟨⟨xg7 151 (by decide +kernel) rfl, xg1 12 (by decide +kernel) rfl⟩, ⟨by decide +kernel, by decide +kernel, by decide +kernel, by decide +kernel, by decide +kernel⟩, by show xre 220 = _; decide +kernel, Or.inl ⟨rfl, xg7 149 (by decide +kernel) rfl, xg7 150 (by decide +kernel) rfl⟩⟩
theorem xm_221 : xMok 221 := ⟨⟨xg7 155 (by decide +kernel) rfl, xg1 12 (by decide +kernel) rfl⟩, ⟨by decide +kernel, by decide +kernel, by decide +kernel, by decide +kernel, by decide +kernel⟩, by show xre 221 = _; decide +kernel, Or.inl ⟨rfl, xg7 153 (by decide +kernel) rfl, xg7 154 (by decide +kernel) rfl⟩⟩
theorem xm_222 : xMok 222 := ⟨⟨xg7 159 (by decide +kernel) rfl, xg1 12 (by decide +kernel) rfl⟩, ⟨by decide +kernel, by decide +kernel, by decide +kernel, by decide +kernel, by decide +kernel⟩, by show xre 222 = _; decide +kernel, Or.inl ⟨rfl, xg7 157 (by decide +kernel) rfl, xg7 158 (by decide +kernel) rfl⟩⟩
theorem xm_223 : xMok 223 := ⟨⟨xg7 163 (by decide +kernel) rfl, xg1 12 (by decide +kernel) rfl⟩, ⟨by decide +kernel, by decide +kernel, by decide +kernel, by decide +kernel, by decide +kernel⟩, by show xre 223 = _; decide +kernel, Or.inl ⟨rfl, xg7 161 (by decide +kernel) rfl, xg7 162 (by decide +kernel) rfl⟩⟩
theorem xm_224 : xMok 224 := ⟨⟨xg7 167 (by decide +kernel) rfl, xg1 12 (by decide +kernel) rfl⟩, ⟨by decide +kernel, by decide +kernel, by decide +kernel, by decide +kernel, by decide +kernel⟩, by show xre 224 = _; decide +kernel, Or.inl ⟨rfl, xg7 165 (by decide +kernel) rfl, xg7 166 (by decide +kernel) rfl⟩⟩
theorem xm_225 : xMok 225 := ⟨⟨xg7 171 (by decide +kernel) rfl, xg1 12 (by decide +kernel) rfl⟩, ⟨by decide +kernel, by decide +kernel, by decide +kernel, by decide +kernel, by decide +kernel⟩, by show xre 225 = _; decide +kernel, Or.inl ⟨rfl, xg7 169 (by decide +kernel) rfl, xg7 170 (by decide +kernel) rfl⟩⟩
theorem xm_226 : xMok 226 := ⟨⟨xg7 175 (by decide +kernel) rfl, xg1 12 (by decide +kernel) rfl⟩, ⟨by decide +kernel, by decide +kernel, by decide +kernel, by decide +kernel, by decide +kernel⟩, by show xre 226 = _; decide +kernel, Or.inl ⟨rfl, xg7 174 (by decide +kernel) rfl, xg 64 (by decide +kernel) rfl⟩⟩
theorem xm_227 : xMok 227 := ⟨⟨xg7 179 (by decide +kernel) rfl, xg1 12 (by decide +kernel) rfl⟩, ⟨by decide +kernel, by decide +kernel, by decide +kernel, by decide +kernel, by decide +kernel⟩, by show xre 227 = _; decide +kernel, Or.inl ⟨rfl, xg7 177 (by decide +kernel) rfl, xg7 178 (by decide +kernel) rfl⟩⟩
theorem xm_228 : xMok 228 := ⟨⟨xg7 184 (by decide +kernel) rfl, xg1 12 (by decide +kernel) rfl⟩, ⟨by decide +kernel, by decide +kernel, by decide +kernel, by decide +kernel, by decide +kernel⟩, by show xre 228 = _; decide +kernel, Or.inl ⟨rfl, xg7 183 (by decide +kernel) rfl, xg 65 (by decide +kernel) rfl⟩⟩
theorem xm_229 : xMok 229 := ⟨⟨xg7 189 (by decide +kernel) rfl, xg1 12 (by decide +kernel) rfl⟩, ⟨by decide +kernel, by decide +kernel, by decide +kernel, by decide +kernel, by decide +kernel⟩, by show xre 229 = _; decide +kernel, Or.inl ⟨rfl, xg7 188 (by decide +kernel) rfl, xg 66 (by decide +kernel) rfl⟩⟩
theorem xm_230 : xMok 230 := ⟨⟨xg7 193 (by decide +kernel) rfl, xg1 12 (by decide +kernel) rfl⟩, ⟨by decide +kernel, by decide +kernel, by decide +kernel, by decide +kernel, by decide +kernel⟩, by show xre 230 = _; decide +kernel, Or.inl ⟨rfl, xg7 192 (by decide +kernel) rfl, xg 67 (by decide +kernel) rfl⟩⟩
theorem xm_231 : xMok 231 := ⟨⟨xg7 196 (by decide +kernel) rfl, xg1 12 (by decide +kernel) rfl⟩, ⟨by decide +kernel, by decide +kernel, by decide +kernel, by decide +kernel, by decide +kernel⟩, by show xre 231 = _; decide +kernel, Or.inr (Or.inl ⟨rfl, xg7 195 (by decide +kernel) rfl⟩)⟩
theorem xm_232 : xMok 232 := ⟨⟨xg4 211 (by decide +kernel) rfl, xg1 0 (by decide +kernel) rfl⟩, ⟨by decide +kernel, by decide +kernel, by decide +kernel, by decide +kernel, by decide +kernel⟩, by show xre 232 = _; decide +kernel, Or.inr (Or.inl ⟨rfl, xg4 210 (by decide +kernel) rfl⟩)⟩
theorem xm_233 : xMok 233 := ⟨⟨xg5 0 (by decide +kernel) rfl, xg1 0 (by decide +kernel) rfl⟩, ⟨by decide +kernel, by decide +kernel, by decide +kernel, by decide +kernel, by decide +kernel⟩, by show xre 233 = _; decide +kernel, Or.inr (Or.inl ⟨rfl, xg4 239 (by decide +kernel) rfl⟩)⟩
theorem xm_234 : xMok 234 := ⟨⟨xg5 4 (by decide +kernel) rfl, xg1 0 (by decide +kernel) rfl⟩, ⟨by decide +kernel, by decide +kernel, by decide +kernel, by decide +kernel, by decide +kernel⟩, by show xre 234 = _; decide +kernel, Or.inr (Or.inl ⟨rfl, xg5 3 (by decide +kernel) rfl⟩)⟩
theorem xm_235 : xMok 235 := ⟨⟨xg5 8 (by decide +kernel) rfl, xg1 0 (by decide +kernel) rfl⟩, ⟨by decide +kernel, by decide +kernel, by decide +kernel, by decide +kernel, by decide +kernel⟩, by show xre 235 = _; decide +kernel, Or.inr (Or.inl ⟨rfl, xg5 7 (by decide +kernel) rfl⟩)⟩
theorem xm_236 : xMok 236 := ⟨⟨xg5 12 (by decide +kernel) rfl, xg1 0 (by decide +kernel) rfl⟩, ⟨by decide +kernel, by decide +kernel, by decide +kernel, by decide +kernel, by decide +kernel⟩, by show xre 236 = _; decide +kernel, Or.inr (Or.inl ⟨rfl, xg5 11 (by decide +kernel) rfl⟩)⟩
theorem xm_237 : xMok 237 := ⟨⟨xg5 16 (by decide +kernel) rfl, xg1 0 (by decide +kernel) rfl⟩, ⟨by decide +kernel, by decide +kernel, by decide +kernel, by decide +kernel, by decide +kernel⟩, by show xre 237 = _; decide +kernel, Or.inr (Or.inl ⟨rfl, xg5 15 (by decide +kernel) rfl⟩)⟩
theorem xm_238 : xMok 238 := ⟨⟨xg5 20 (by decide +kernel) rfl, xg1 0 (by decide +kernel) rfl⟩, ⟨by decide +kernel, by decide +kernel, by decide +kernel, by decide +kernel, by decide +kernel⟩, by show xre 238 = _; decide +kernel, Or.inr (Or.inl ⟨rfl, xg5 19 (by decide +kernel) rfl⟩)⟩
theorem xm_239 : xMok 239 := ⟨⟨xg5 39 (by decide +kernel) rfl, xg1 0 (by decide +kernel) rfl⟩, ⟨by decide +kernel, by decide +kernel, by decide +kernel, by decide +kernel, by decide +kernel⟩, by show xre 239 = _; decide +kernel, Or.inr (Or.inl ⟨rfl, xg5 38 (by decide +kernel) rfl⟩)⟩
theorem xm_240 : xMok 240 := ⟨⟨xg5 47 (by decide +kernel) rfl, xg1 0 (by decide +kernel) rfl⟩, ⟨by decide +kernel, by decide +kernel, by decide +kernel, by decide +kernel, by decide +kernel⟩, by show xre 240 = _; decide +kernel, Or.inr (Or.inl ⟨rfl, xg5 46 (by decide +kernel) rfl⟩)⟩
theorem xm_241 : xMok 241 := ⟨⟨xg5 55 (by decide +kernel) rfl, xg1 0 (by decide +kernel) rfl⟩, ⟨by decide +kernel, by decide +kernel, by decide +kernel, by decide +kernel, by decide +kernel⟩, by show xre 241 = _; decide +kernel, Or.inr (Or.inl ⟨rfl, xg5 54 (by decide +kernel) rfl⟩)⟩
theorem xm_242 : xMok 242 := ⟨⟨xg5 63 (by decide +kernel) rfl, xg1 0 (by decide +kernel) rfl⟩, ⟨by decide +kernel, by decide +kernel, by decide +kernel, by decide +kernel, by decide +kernel⟩, by show xre 242 = _; decide +kernel, Or.inr (Or.inl ⟨rfl, xg5 62 (by decide +kernel) rfl⟩)⟩
theorem xm_243 : xMok 243 := ⟨⟨xg5 71 (by decide +kernel) rfl, xg1 0 (by decide +kernel) rfl⟩, ⟨by decide +kernel, by decide +kernel, by decide +kernel, by decide +kernel, by decide +kernel⟩, by show xre 243 = _; decide +kernel, Or.inr (Or.inl ⟨rfl, xg5 70 (by decide +kernel) rfl⟩)⟩
theorem xm_244 : xMok 244 := ⟨⟨xg5 83 (by decide +kernel) rfl, xg1 0 (by decide +kernel) rfl⟩, ⟨by decide +kernel, by decide +kernel, by decide +kernel, by decide +kernel, by decide +kernel⟩, by show xre 244 = _; decide +kernel, Or.inr (Or.inl ⟨rfl, xg5 82 (by decide +kernel) rfl⟩)⟩
theorem xm_245 : xMok 245 := ⟨⟨xg5 90 (by decide +kernel) rfl, xg1 0 (by decide +kernel) rfl⟩, ⟨by decide +kernel, by decide +kernel, by decide +kernel, by decide +kernel, by decide +kernel⟩, by show xre 245 = _; decide +kernel, Or.inr (Or.inl ⟨rfl, xg5 89 (by decide +kernel) rfl⟩)⟩
theorem xm_246 : xMok 246 := ⟨⟨xg5 94 (by decide +kernel) rfl, xg1 0 (by decide +kernel) rfl⟩, ⟨by decide +kernel, by decide +kernel, by decide +kernel, by decide +kernel, by decide +kernel⟩, by show xre 246 = _; decide +kernel, Or.inr (Or.inl ⟨rfl, xg5 93 (by decide +kernel) rfl⟩)⟩
theorem xm_247 : xMok 247 := ⟨⟨xg5 101 (by decide +kernel) rfl, xg1 0 (by decide +kernel) rfl⟩, ⟨by decide +kernel, by decide +kernel, by decide +kernel, by decide +kernel, by decide +kernel⟩, by show xre 247 = _; decide +kernel, Or.inr (Or.inl ⟨rfl, xg5 100 (by decide +kernel) rfl⟩)⟩
theorem xm_248 : xMok 248 := ⟨⟨xg5 109 (by decide +kernel) rfl, xg1 0 (by decide +kernel) rfl⟩, ⟨by decide +kernel, by decide +kernel, by decide +kernel, by decide +kernel, by decide +kernel⟩, by show xre 248 = _; decide +kernel, Or.inr (Or.inl ⟨rfl, xg5 108 (by decide +kernel) rfl⟩)⟩
theorem xm_249 : xMok 249 := ⟨⟨xg5 113 (by decide +kernel) rfl, xg1 0 (by decide +kernel) rfl⟩, ⟨by decide +kernel, by decide +kernel, by decide +kernel, by decide +kernel, by decide +kernel⟩, by show xre 249 = _; decide +kernel, Or.inr (Or.inl ⟨rfl, xg5 112 (by decide +kernel) rfl⟩)⟩
theorem xm_250 : xMok 250 := ⟨⟨xg5 117 (by decide +kernel) rfl, xg1 0 (by decide +kernel) rfl⟩, ⟨by decide +kernel, by decide +kernel, by decide +kernel, by decide +kernel, by decide +kernel⟩, by show xre 250 = _; decide +kernel, Or.inr (Or.inl ⟨rfl, xg5 116 (by decide +kernel) rfl⟩)⟩
theorem xm_251 : xMok 251 := ⟨⟨xg5 121 (by decide +kernel) rfl, xg1 0 (by decide +kernel) rfl⟩, ⟨by decide +kernel, by decide +kernel, by decide +kernel, by decide +kernel, by decide +kernel⟩, by show xre 251 = _; decide +kernel, Or.inr (Or.inl ⟨rfl, xg5 120 (by decide +kernel) rfl⟩)⟩
theorem xm_252 : xMok 252 := ⟨⟨xg5 133 (by decide +kernel) rfl, xg1 0 (by decide +kernel) rfl⟩, ⟨by decide +kernel, by decide +kernel, by decide +kernel, by decide +kernel, by decide +kernel⟩, by show xre 252 = _; decide +kernel, Or.inr (Or.inl ⟨rfl, xg5 132 (by decide +kernel) rfl⟩)⟩
theorem xm_253 : xMok 253 := ⟨⟨xg5 141 (by decide +kernel) rfl, xg1 0 (by decide +kernel) rfl⟩, ⟨by decide +kernel, by decide +kernel, by decide +kernel, by decide +kernel, by decide +kernel⟩, by show xre 253 = _; decide +kernel, Or.inr (Or.inl ⟨rfl, xg5 140 (by decide +kernel) rfl⟩)⟩
theorem xm_254 : xMok 254 := ⟨⟨xg5 145 (by decide +kernel) rfl, xg1 0 (by decide +kernel) rfl⟩, ⟨by decide +kernel, by decide +kernel, by decide +kernel, by decide +kernel, by decide +kernel⟩, by show xre 254 = _; decide +kernel, Or.inr (Or.inl ⟨rfl, xg5 144 (by decide +kernel) rfl⟩)⟩
theorem xm_255 : xMok 255 := ⟨⟨xg5 149 (by decide +kernel) rfl, xg1 0 (by decide +kernel) rfl⟩, ⟨by decide +kernel, by decide +kernel, by decide +kernel, by decide +kernel, by decide +kernel⟩, by show xre 255 = _; decide +kernel, Or.inr (Or.inl ⟨rfl, xg5 148 (by decide +kernel) rfl⟩)⟩
theorem xm_256 : xMok 256 := ⟨⟨xg5 153 (by decide +kernel) rfl, xg1 0 (by decide +kernel) rfl⟩, ⟨by decide +kernel, by decide +kernel, by decide +kernel, by decide +kernel, by decide +kernel⟩, by show xre 256 = _; decide +kernel, Or.inr (Or.inl ⟨rfl, xg5 152 (by decide +kernel) rfl⟩)⟩
theorem xm_257 : xMok 257 := ⟨⟨xg5 157 (by decide +kernel) rfl, xg1 0 (by decide +kernel) rfl⟩, ⟨by decide +kernel, by decide +kernel, by decide +kernel, by decide +kernel, by decide +kernel⟩, by show xre 257 = _; decide +kernel, Or.inr (Or.inl ⟨rfl, xg5 156 (by decide +kernel) rfl⟩)⟩
theorem xm_258 : xMok 258 := ⟨⟨xg5 161 (by decide +kernel) rfl, xg1 0 (by decide +kernel) rfl⟩, ⟨by decide +kernel, by decide +kernel, by decide +kernel, by decide +kernel, by decide +kernel⟩, by show xre 258 = _; decide +kernel, Or.inr (Or.inl ⟨rfl, xg5 160 (by decide +kernel) rfl⟩)⟩
theorem xm_259 : xMok 259 := ⟨⟨xg5 168 (by decide +kernel) rfl, xg1 0 (by decide +kernel) rfl⟩, ⟨by decide +kernel, by decide +kernel, by decide +kernel, by decide +kernel, by decide +kernel⟩, by show xre 259 = _; decide +kernel, Or.inr (Or.inl ⟨rfl, xg5 167 (by decide +kernel) rfl⟩)⟩
theorem xm_260 : xMok 260 := ⟨⟨xg5 180 (by decide +kernel) rfl, xg1 0 (by decide +kernel) rfl⟩, ⟨by decide +kernel, by decide +kernel, by decide +kernel, by decide +kernel, by decide +kernel⟩, by show xre 260 = _; decide +kernel, Or.inr (Or.inl ⟨rfl, xg5 179 (by decide +kernel) rfl⟩)⟩
def xMs_l0 : List (Nat) := [0, 1, 2, 3, 4, 5, 6, 7, 8, 9, 10, 11, 12, 13, 14, 15]
theorem xMs_b0 : ∀ q ∈ xMs_l0, xMok q := List.forall_mem_cons.mpr ⟨xm_0, List.forall_mem_cons.mpr ⟨xm_1, List.forall_mem_cons.mpr ⟨xm_2, List.forall_mem_cons.mpr ⟨xm_3, List.forall_mem_cons.mpr ⟨xm_4, List.forall_mem_cons.mpr ⟨xm_5, List.forall_mem_cons.mpr ⟨xm_6, List.forall_mem_cons.mpr ⟨xm_7, List.forall_mem_cons.mpr ⟨xm_8, List.forall_mem_cons.mpr ⟨xm_9, List.forall_mem_cons.mpr ⟨xm_10, List.forall_mem_cons.mpr ⟨xm_11, List.forall_mem_cons.mpr ⟨xm_12, List.forall_mem_cons.mpr ⟨xm_13, List.forall_mem_cons.mpr ⟨xm_14, List.forall_mem_cons.mpr ⟨xm_15, fun _ h => absurd h List.not_mem_nil⟩⟩⟩⟩⟩⟩⟩⟩⟩⟩⟩⟩⟩⟩⟩⟩
def xMs_l16 : List (Nat) := [16, 17, 18, 19, 20, 21, 22, 23, 24, 25, 26, 27, 28, 29, 30, 31]
theorem xMs_b16 : ∀ q ∈ xMs_l16, xMok q := List.forall_mem_cons.mpr ⟨xm_16, List.forall_mem_cons.mpr ⟨xm_17, List.forall_mem_cons.mpr ⟨xm_18, List.forall_mem_cons.mpr ⟨xm_19, List.forall_mem_cons.mpr ⟨xm_20, List.forall_mem_cons.mpr ⟨xm_21, List.forall_mem_cons.mpr ⟨xm_22, List.forall_mem_cons.mpr ⟨xm_23, List.forall_mem_cons.mpr ⟨xm_24, List.forall_mem_cons.mpr ⟨xm_25, List.forall_mem_cons.mpr ⟨xm_26, List.forall_mem_cons.mpr ⟨xm_27, List.forall_mem_cons.mpr ⟨xm_28, List.forall_mem_cons.mpr ⟨xm_29, List.forall_mem_cons.mpr ⟨xm_30, List.forall_mem_cons.mpr ⟨xm_31, fun _ h => absurd h List.not_mem_nil⟩⟩⟩⟩⟩⟩⟩⟩⟩⟩⟩⟩⟩⟩⟩⟩
def xMs_l32 : List (Nat) := [32, 33, 34, 35, 36, 37, 38, 39, 40, 41, 42, 43, 44, 45, 46, 47]
theorem xMs_b32 : ∀ q ∈ xMs_l32, xMok q := List.forall_mem_cons.mpr ⟨xm_32, List.forall_mem_cons.mpr ⟨xm_33, List.forall_mem_cons.mpr ⟨xm_34, List.forall_mem_cons.mpr ⟨xm_35, List.forall_mem_cons.mpr ⟨xm_36, List.forall_mem_cons.mpr ⟨xm_37, List.forall_mem_cons.mpr ⟨xm_38, List.forall_mem_cons.mpr ⟨xm_39, List.forall_mem_cons.mpr ⟨xm_40, List.forall_mem_cons.mpr ⟨xm_41, List.forall_mem_cons.mpr ⟨xm_42, List.forall_mem_cons.mpr ⟨xm_43, List.forall_mem_cons.mpr ⟨xm_44, List.forall_mem_cons.mpr ⟨xm_45, List.forall_mem_cons.mpr ⟨xm_46, List.forall_mem_cons.mpr ⟨xm_47, fun _ h => absurd h List.not_mem_nil⟩⟩⟩⟩⟩⟩⟩⟩⟩⟩⟩⟩⟩⟩⟩⟩
def xMs_l48 : List (Nat) := [48, 49, 50, 51, 52, 53, 54, 55, 56, 57, 58, 59, 60, 61, 62, 63]
theorem xMs_b48 : ∀ q ∈ xMs_l48, xMok q := List.forall_mem_cons.mpr ⟨xm_48, List.forall_mem_cons.mpr ⟨xm_49, List.forall_mem_cons.mpr ⟨xm_50, List.forall_mem_cons.mpr ⟨xm_51, List.forall_mem_cons.mpr ⟨xm_52, List.forall_mem_cons.mpr ⟨xm_53, List.forall_mem_cons.mpr ⟨xm_54, List.forall_mem_cons.mpr ⟨xm_55, List.forall_mem_cons.mpr ⟨xm_56, List.forall_mem_cons.mpr ⟨xm_57, List.forall_mem_cons.mpr ⟨xm_58, List.forall_mem_cons.mpr ⟨xm_59, List.forall_mem_cons.mpr ⟨xm_60, List.forall_mem_cons.mpr ⟨xm_61, List.forall_mem_cons.mpr ⟨xm_62, List.forall_mem_cons.mpr ⟨xm_63, fun _ h => absurd h List.not_mem_nil⟩⟩⟩⟩⟩⟩⟩⟩⟩⟩⟩⟩⟩⟩⟩⟩
def xMs_l64 : List (Nat) := [64, 65, 66, 67, 68, 69, 70, 71, 72, 73, 74, 75, 76, 77, 78, 79]
theorem xMs_b64 : ∀ q ∈ xMs_l64, xMok q := List.forall_mem_cons.mpr ⟨xm_64, List.forall_mem_cons.mpr ⟨xm_65, List.forall_mem_cons.mpr ⟨xm_66, List.forall_mem_cons.mpr ⟨xm_67, List.forall_mem_cons.mpr ⟨xm_68, List.forall_mem_cons.mpr ⟨xm_69, List.forall_mem_cons.mpr ⟨xm_70, List.forall_mem_cons.mpr ⟨xm_71, List.forall_mem_cons.mpr ⟨xm_72, List.forall_mem_cons.mpr ⟨xm_73, List.forall_mem_cons.mpr ⟨xm_74, List.forall_mem_cons.mpr ⟨xm_75, List.forall_mem_cons.mpr ⟨xm_76, List.forall_mem_cons.mpr ⟨xm_77, List.forall_mem_cons.mpr ⟨xm_78, List.forall_mem_cons.mpr ⟨xm_79, fun _ h => absurd h List.not_mem_nil⟩⟩⟩⟩⟩⟩⟩⟩⟩⟩⟩⟩⟩⟩⟩⟩
def xMs_l80 : List (Nat) := [80, 81, 82, 83, 84, 85, 86, 87, 88, 89, 90, 91, 92, 93, 94, 95]
theorem xMs_b80 : ∀ q ∈ xMs_l80, xMok q := List.forall_mem_cons.mpr ⟨xm_80, List.forall_mem_cons.mpr ⟨xm_81, List.forall_mem_cons.mpr ⟨xm_82, List.forall_mem_cons.mpr ⟨xm_83, List.forall_mem_cons.mpr ⟨xm_84, List.forall_mem_cons.mpr ⟨xm_85, List.forall_mem_cons.mpr ⟨xm_86, List.forall_mem_cons.mpr ⟨xm_87, List.forall_mem_cons.mpr ⟨xm_88, List.forall_mem_cons.mpr ⟨xm_89, List.forall_mem_cons.mpr ⟨xm_90, List.forall_mem_cons.mpr ⟨xm_91, List.forall_mem_cons.mpr ⟨xm_92, List.forall_mem_cons.mpr ⟨xm_93, List.forall_mem_cons.mpr ⟨xm_94, List.forall_mem_cons.mpr ⟨xm_95, fun _ h => absurd h List.not_mem_nil⟩⟩⟩⟩⟩⟩⟩⟩⟩⟩⟩⟩⟩⟩⟩⟩
def xMs_l96 : List (Nat) := [96, 97, 98, 99, 100, 101, 102, 103, 104, 105, 106, 107, 108, 109, 110, 111]
theorem xMs_b96 : ∀ q ∈ xMs_l96, xMok q := List.forall_mem_cons.mpr ⟨xm_96, List.forall_mem_cons.mpr ⟨xm_97, List.forall_mem_cons.mpr ⟨xm_98, List.forall_mem_cons.mpr ⟨xm_99, List.forall_mem_cons.mpr ⟨xm_100, List.forall_mem_cons.mpr ⟨xm_101, List.forall_mem_cons.mpr ⟨xm_102, List.forall_mem_cons.mpr ⟨xm_103, List.forall_mem_cons.mpr ⟨xm_104, List.forall_mem_cons.mpr ⟨xm_105, List.forall_mem_cons.mpr ⟨xm_106, List.forall_mem_cons.mpr ⟨xm_107, List.forall_mem_cons.mpr ⟨xm_108, List.forall_mem_cons.mpr ⟨xm_109, List.forall_mem_cons.mpr ⟨xm_110, List.forall_mem_cons.mpr ⟨xm_111, fun _ h => absurd h List.not_mem_nil⟩⟩⟩⟩⟩⟩⟩⟩⟩⟩⟩⟩⟩⟩⟩⟩
def xMs_l112 : List (Nat) := [112, 113, 114, 115, 116, 117, 118, 119, 120, 121, 122, 123, 124, 125, 126, 127]
theorem xMs_b112 : ∀ q ∈ xMs_l112, xMok q := List.forall_mem_cons.mpr ⟨xm_112, List.forall_mem_cons.mpr ⟨xm_113, List.forall_mem_cons.mpr ⟨xm_114, List.forall_mem_cons.mpr ⟨xm_115, List.forall_mem_cons.mpr ⟨xm_116, List.forall_mem_cons.mpr ⟨xm_117, List.forall_mem_cons.mpr ⟨xm_118, List.forall_mem_cons.mpr ⟨xm_119, List.forall_mem_cons.mpr ⟨xm_120, List.forall_mem_cons.mpr ⟨xm_121, List.forall_mem_cons.mpr ⟨xm_122, List.forall_mem_cons.mpr ⟨xm_123, List.forall_mem_cons.mpr ⟨xm_124, List.forall_mem_cons.mpr ⟨xm_125, List.forall_mem_cons.mpr ⟨xm_126, List.forall_mem_cons.mpr ⟨xm_127, fun _ h => absurd h List.not_mem_nil⟩⟩⟩⟩⟩⟩⟩⟩⟩⟩⟩⟩⟩⟩⟩⟩
def xMs_l128 : List (Nat) := [128, 129, 130, 131, 132, 133, 134, 135, 136, 137, 138, 139, 140, 141, 142, 143]
theorem xMs_b128 : ∀ q ∈ xMs_l128, xMok q := List.forall_mem_cons.mpr ⟨xm_128, List.forall_mem_cons.mpr ⟨xm_129, List.forall_mem_cons.mpr ⟨xm_130, List.forall_mem_cons.mpr ⟨xm_131, List.forall_mem_cons.mpr ⟨xm_132, List.forall_mem_cons.mpr ⟨xm_133, List.forall_mem_cons.mpr ⟨xm_134, List.forall_mem_cons.mpr ⟨xm_135, List.forall_mem_cons.mpr ⟨xm_136, List.forall_mem_cons.mpr ⟨xm_137, List.forall_mem_cons.mpr ⟨xm_138, List.forall_mem_cons.mpr ⟨xm_139, List.forall_mem_cons.mpr ⟨xm_140, List.forall_mem_cons.mpr ⟨xm_141, List.forall_mem_cons.mpr ⟨xm_142, List.forall_mem_cons.mpr ⟨xm_143, fun _ h => absurd h List.not_mem_nil⟩⟩⟩⟩⟩⟩⟩⟩⟩⟩⟩⟩⟩⟩⟩⟩
def xMs_l144 : List (Nat) := [144, 145, 146, 147, 148, 149, 150, 151, 152, 153, 154, 155, 156, 157, 158, 159]
theorem xMs_b144 : ∀ q ∈ xMs_l144, xMok q := List.forall_mem_cons.mpr ⟨xm_144, List.forall_mem_cons.mpr ⟨xm_145, List.forall_mem_cons.mpr ⟨xm_146, List.forall_mem_cons.mpr ⟨xm_147, List.forall_mem_cons.mpr ⟨xm_148, List.forall_mem_cons.mpr ⟨xm_149, List.forall_mem_cons.mpr ⟨xm_150, List.forall_mem_cons.mpr ⟨xm_151, List.forall_mem_cons.mpr ⟨xm_152, List.forall_mem_cons.mpr ⟨xm_153, List.forall_mem_cons.mpr ⟨xm_154, List.forall_mem_cons.mpr ⟨xm_155, List.forall_mem_cons.mpr ⟨xm_156, List.forall_mem_cons.mpr ⟨xm_157, List.forall_mem_cons.mpr ⟨xm_158, List.forall_mem_cons.mpr ⟨xm_159, fun _ h => absurd h List.not_mem_nil⟩⟩⟩⟩⟩⟩⟩⟩⟩⟩⟩⟩⟩⟩⟩⟩
def xMs_l160 : List (Nat) := [160, 161, 162, 163, 164, 165, 166, 167, 168, 169, 170, 171, 172, 173, 174, 175]
theorem xMs_b160 : ∀ q ∈ xMs_l160, xMok q := List.forall_mem_cons.mpr ⟨xm_160, List.forall_mem_cons.mpr ⟨xm_161, List.forall_mem_cons.mpr ⟨xm_162, List.forall_mem_cons.mpr ⟨xm_163, List.forall_mem_cons.mpr ⟨xm_164, List.forall_mem_cons.mpr ⟨xm_165, List.forall_mem_cons.mpr ⟨xm_166, List.forall_mem_cons.mpr ⟨xm_167, List.forall_mem_cons.mpr ⟨xm_168, List.forall_mem_cons.mpr ⟨xm_169, List.forall_mem_cons.mpr ⟨xm_170, List.forall_mem_cons.mpr ⟨xm_171, List.forall_mem_cons.mpr ⟨xm_172, List.forall_mem_cons.mpr ⟨xm_173, List.forall_mem_cons.mpr ⟨xm_174, List.forall_mem_cons.mpr ⟨xm_175, fun _ h => absurd h List.not_mem_nil⟩⟩⟩⟩⟩⟩⟩⟩⟩⟩⟩⟩⟩⟩⟩⟩
def xMs_l176 : List (Nat) := [176, 177, 178, 179, 180, 181, 182, 183, 184, 185, 186, 187, 188, 189, 190, 191]
theorem xMs_b176 : ∀ q ∈ xMs_l176, xMok q := List.forall_mem_cons.mpr ⟨xm_176, List.forall_mem_cons.mpr ⟨xm_177, List.forall_mem_cons.mpr ⟨xm_178, List.forall_mem_cons.mpr ⟨xm_179, List.forall_mem_cons.mpr ⟨xm_180, List.forall_mem_cons.mpr ⟨xm_181, List.forall_mem_cons.mpr ⟨xm_182, List.forall_mem_cons.mpr ⟨xm_183, List.forall_mem_cons.mpr ⟨xm_184, List.forall_mem_cons.mpr ⟨xm_185, List.forall_mem_cons.mpr ⟨xm_186, List.forall_mem_cons.mpr ⟨xm_187, List.forall_mem_cons.mpr ⟨xm_188, List.forall_mem_cons.mpr ⟨xm_189, List.forall_mem_cons.mpr ⟨xm_190, List.forall_mem_cons.mpr ⟨xm_191, fun _ h => absurd h List.not_mem_nil⟩⟩⟩⟩⟩⟩⟩⟩⟩⟩⟩⟩⟩⟩⟩⟩
def xMs_l192 : List (Nat) := [192, 193, 194, 195, 196, 197, 198, 199, 200, 201, 202, 203, 204, 205, 206, 207]
theorem xMs_b192 : ∀ q ∈ xMs_l192, xMok q := List.forall_mem_cons.mpr ⟨xm_192, List.forall_mem_cons.mpr ⟨xm_193, List.forall_mem_cons.mpr ⟨xm_194, List.forall_mem_cons.mpr ⟨xm_195, List.forall_mem_cons.mpr ⟨xm_196, List.forall_mem_cons.mpr ⟨xm_197, List.forall_mem_cons.mpr ⟨xm_198, List.forall_mem_cons.mpr ⟨xm_199, List.forall_mem_cons.mpr ⟨xm_200, List.forall_mem_cons.mpr ⟨xm_201, List.forall_mem_cons.mpr ⟨xm_202, List.forall_mem_cons.mpr ⟨xm_203, List.forall_mem_cons.mpr ⟨xm_204, List.forall_mem_cons.mpr ⟨xm_205, List.forall_mem_cons.mpr ⟨xm_206, List.forall_mem_cons.mpr ⟨xm_207, fun _ h => absurd h List.not_mem_nil⟩⟩⟩⟩⟩⟩⟩⟩⟩⟩⟩⟩⟩⟩⟩⟩
def xMs_l208 : List (Nat) := [208, 209, 210, 211, 212, 213, 214, 215, 216, 217, 218, 219, 220, 221, 222, 223]
theorem xMs_b208 : ∀ q ∈ xMs_l208, xMok q := List.forall_mem_cons.mpr ⟨xm_208, List.forall_mem_cons.mpr ⟨xm_209, List.forall_mem_cons.mpr ⟨xm_210, List.forall_mem_cons.mpr ⟨xm_211, List.forall_mem_cons.mpr ⟨xm_212, List.forall_mem_cons.mpr ⟨xm_213, List.forall_mem_cons.mpr ⟨xm_214, List.forall_mem_cons.mpr ⟨xm_215, List.forall_mem_cons.mpr ⟨xm_216, List.forall_mem_cons.mpr ⟨xm_217, List.forall_mem_cons.mpr ⟨xm_218, List.forall_mem_cons.mpr ⟨xm_219, List.forall_mem_cons.mpr ⟨xm_220, List.forall_mem_cons.mpr ⟨xm_221, List.forall_mem_cons.mpr ⟨xm_222, List.forall_mem_cons.mpr ⟨xm_223, fun _ h => absurd h List.not_mem_nil⟩⟩⟩⟩⟩⟩⟩⟩⟩⟩⟩⟩⟩⟩⟩⟩
def xMs_l224 : List (Nat) := [224, 225, 226, 227, 228, 229, 230, 231, 232, 233, 234, 235, 236, 237, 238, 239]
theorem xMs_b224 : ∀ q ∈ xMs_l224, xMok q := List.forall_mem_cons.mpr ⟨xm_224, List.forall_mem_cons.mpr ⟨xm_225, List.forall_mem_cons.mpr ⟨xm_226, List.forall_mem_cons.mpr ⟨xm_227, List.forall_mem_cons.mpr ⟨xm_228, List.forall_mem_cons.mpr ⟨xm_229, List.forall_mem_cons.mpr ⟨xm_230, List.forall_mem_cons.mpr ⟨xm_231, List.forall_mem_cons.mpr ⟨xm_232, List.forall_mem_cons.mpr ⟨xm_233, List.forall_mem_cons.mpr ⟨xm_234, List.forall_mem_cons.mpr ⟨xm_235, List.forall_mem_cons.mpr ⟨xm_236, List.forall_mem_cons.mpr ⟨xm_237, List.forall_mem_cons.mpr ⟨xm_238, List.forall_mem_cons.mpr ⟨xm_239, fun _ h => absurd h List.not_mem_nil⟩⟩⟩⟩⟩⟩⟩⟩⟩⟩⟩⟩⟩⟩⟩⟩
def xMs_l240 : List (Nat) := [240, 241, 242, 243, 244, 245, 246, 247, 248, 249, 250, 251, 252, 253, 254, 255]
theorem xMs_b240 : ∀ q ∈ xMs_l240, xMok q := List.forall_mem_cons.mpr ⟨xm_240, List.forall_mem_cons.mpr ⟨xm_241, List.forall_mem_cons.mpr ⟨xm_242, List.forall_mem_cons.mpr ⟨xm_243, List.forall_mem_cons.mpr ⟨xm_244, List.forall_mem_cons.mpr ⟨xm_245, List.forall_mem_cons.mpr ⟨xm_246, List.forall_mem_cons.mpr ⟨xm_247, List.forall_mem_cons.mpr ⟨xm_248, List.forall_mem_cons.mpr ⟨xm_249, List.forall_mem_cons.mpr ⟨xm_250, List.forall_mem_cons.mpr ⟨xm_251, List.forall_mem_cons.mpr ⟨xm_252, List.forall_mem_cons.mpr ⟨xm_253, List.forall_mem_cons.mpr ⟨xm_254, List.forall_mem_cons.mpr ⟨xm_255, fun _ h => absurd h List.not_mem_nil⟩⟩⟩⟩⟩⟩⟩⟩⟩⟩⟩⟩⟩⟩⟩⟩
def xMs_l256 : List (Nat) := [256, 257, 258, 259, 260]
theorem xMs_b256 : ∀ q ∈ xMs_l256, xMok q := List.forall_mem_cons.mpr ⟨xm_256, List.forall_mem_cons.mpr ⟨xm_257, List.forall_mem_cons.mpr ⟨xm_258, List.forall_mem_cons.mpr ⟨xm_259, List.forall_mem_cons.mpr ⟨xm_260, fun _ h => absurd h List.not_mem_nil⟩⟩⟩⟩⟩
def xMs_l : List (Nat) := xMs_l0 ++ (xMs_l16 ++ (xMs_l32 ++ (xMs_l48 ++ (xMs_l64 ++ (xMs_l80 ++ (xMs_l96 ++ (xMs_l112 ++ (xMs_l128 ++ (xMs_l144 ++ (xMs_l160 ++ (xMs_l176 ++ (xMs_l192 ++ (xMs_l208 ++ (xMs_l224 ++ (xMs_l240 ++ (xMs_l256))))))))))))))))
theorem xMs_all : ∀ q ∈ xMs_l, xMok q := List.forall_mem_append.mpr ⟨xMs_b0, List.forall_mem_append.mpr ⟨xMs_b16, List.forall_mem_append.mpr ⟨xMs_b32, List.forall_mem_append.mpr ⟨xMs_b48, List.forall_mem_append.mpr ⟨xMs_b64, List.forall_mem_append.mpr ⟨xMs_b80, List.forall_mem_append.mpr ⟨xMs_b96, List.forall_mem_append.mpr ⟨xMs_b112, List.forall_mem_append.mpr ⟨xMs_b128, List.forall_mem_append.mpr ⟨xMs_b144, List.forall_mem_append.mpr ⟨xMs_b160, List.forall_mem_append.mpr ⟨xMs_b176, List.forall_mem_append.mpr ⟨xMs_b192, List.forall_mem_append.mpr ⟨xMs_b208, List.forall_mem_append.mpr ⟨xMs_b224, List.forall_mem_append.mpr ⟨xMs_b240, xMs_b256⟩⟩⟩⟩⟩⟩⟩⟩⟩⟩⟩⟩⟩⟩⟩⟩
theorem xMs_range : ∀ mi, mi < 262 → mi ≠ 261 → mi ∈ xMs_l := by decide +kernel
theorem xMall {mi : Nat} (h : mi < 262) (h2 : mi ≠ 261) : xMok mi := xMs_all mi (xMs_range mi h h2)
def xLok (q : Nat × Nat × Nat) : Prop := q.2.2 < 262 ∧ q.2.2 ≠ 261 ∧ (xG (.methodLink (xRn q.1) q.2.1 (xy q.2.2)) ∨ Cond.methodLinkNest (xRn q.1) q.2.1 (xy q.2.2) "TemplateScopes" ∈ lw_tbl)
theorem xl_0_27 : xLok (0, 27, 2) := ⟨by decide, by decide, Or.inl (xg3 210 (by decide +kernel) rfl)⟩
theorem xl_0_50 : xLok (0, 50, 34) := ⟨by decide, by decide, Or.inl (xg3 214 (by decide +kernel) rfl)⟩
theorem xl_0_54 : xLok (0, 54, 64) := ⟨by decide, by decide, Or.inl (xg3 218 (by decide +kernel) rfl)⟩
theorem xl_0_57 : xLok (0, 57, 65) := ⟨by decide, by decide, Or.inl (xg3 222 (by decide +kernel) rfl)⟩
theorem xl_0_60 : xLok (0, 60, 35) := ⟨by decide, by decide, Or.inl (xg3 226 (by decide +kernel) rfl)⟩
theorem xl_0_64 : xLok (0, 64, 3) := ⟨by decide, by decide, Or.inl (xg4 3 (by decide +kernel) rfl)⟩
theorem xl_0_86 : xLok (0, 86, 45) := ⟨by decide, by decide, Or.inl (xg4 7 (by decide +kernel) rfl)⟩
theorem xl_0_99 : xLok (0, 99, 52) := ⟨by decide, by decide, Or.inl (xg4 8 (by decide +kernel) rfl)⟩
theorem xl_0_37 : xLok (0, 37, 66) := ⟨by decide, by decide, Or.inl (xg4 9 (by decide +kernel) rfl)⟩
theorem xl_0_103 : xLok (0, 103, 30) := ⟨by decide, by decide, Or.inl (xg4 13 (by decide +kernel) rfl)⟩
theorem xl_0_107 : xLok (0, 107, 62) := ⟨by decide, by decide, Or.inl (xg4 17 (by decide +kernel) rfl)⟩
theorem xl_0_111 : xLok (0, 111, 61) := ⟨by decide, by decide, Or.inl (xg4 18 (by decide +kernel) rfl)⟩
theorem xl_0_41 : xLok (0, 41, 31) := ⟨by decide, by decide, Or.inl (xg4 19 (by decide +kernel) rfl)⟩
theorem xl_0_114 : xLok (0, 114, 42) := ⟨by decide, by decide, Or.inl (xg4 24 (by decide +kernel) rfl)⟩
theorem xl_0_117 : xLok (0, 117, 63) := ⟨by decide, by decide, Or.inl (xg4 25 (by decide +kernel) rfl)⟩
theorem xl_0_82 : xLok (0, 82, 1) := ⟨by decide, by decide, Or.inl (xg4 26 (by decide +kernel) rfl)⟩
theorem xl_0_120 : xLok (0, 120, 46) := ⟨by decide, by decide, Or.inl (xg4 27 (by decide +kernel) rfl)⟩
theorem xl_0_67 : xLok (0, 67, 4) := ⟨by decide, by decide, Or.inl (xg4 32 (by decide +kernel) rfl)⟩
theorem xl_0_123 : xLok (0, 123, 75) := ⟨by decide, by decide, Or.inl (xg4 36 (by decide +kernel) rfl)⟩
theorem xl_0_128 : xLok (0, 128, 47) := ⟨by decide, by decide, Or.inl (xg4 37 (by decide +kernel) rfl)⟩
theorem xl_0_132 : xLok (0, 132, 5) := ⟨by decide, by decide, Or.inl (xg4 44 (by decide +kernel) rfl)⟩
theorem xl_0_47 : xLok (0, 47, 67) := ⟨by decide, by decide, Or.inl (xg4 48 (by decide +kernel) rfl)⟩
theorem xl_0_70 : xLok (0, 70, 6) := ⟨by decide, by decide, Or.inl (xg4 52 (by decide +kernel) rfl)⟩
theorem xl_0_135 : xLok (0, 135, 37) := ⟨by decide, by decide, Or.inl (xg4 56 (by decide +kernel) rfl)⟩
theorem xl_0_73 : xLok (0, 73, 7) := ⟨by decide, by decide, Or.inl (xg4 60 (by decide +kernel) rfl)⟩
theorem xl_0_139 : xLok (0, 139, 38) := ⟨by decide, by decide, Or.inl (xg4 64 (by decide +kernel) rfl)⟩
theorem xl_0_142 : xLok (0, 142, 39) := ⟨by decide, by decide, Or.inl (xg4 69 (by decide +kernel) rfl)⟩
theorem xl_0_76 : xLok (0, 76, 68) := ⟨by decide, by decide, Or.inl (xg4 75 (by decide +kernel) rfl)⟩
theorem xl_0_79 : xLok (0, 79, 36) := ⟨by decide, by decide, Or.inl (xg4 79 (by decide +kernel) rfl)⟩
theorem xl_1_24 : xLok (1, 24, 51) := ⟨by decide, by decide, Or.inl (xg1 217 (by decide +kernel) rfl)⟩
theorem xl_1_33 : xLok (1, 33, 73) := ⟨by decide, by decide, Or.inl (xg1 219 (by decide +kernel) rfl)⟩
theorem xl_1_56 : xLok (1, 56, 78) := ⟨by decide, by decide, Or.inl (xg4 136 (by decide +kernel) rfl)⟩
theorem xl_1_71 : xLok (1, 71, 75) := ⟨by decide, by decide, Or.inl (xg4 138 (by decide +kernel) rfl)⟩
theorem xl_1_75 : xLok (1, 75, 10) := ⟨by decide, by decide, Or.inl (xg4 139 (by decide +kernel) rfl)⟩
theorem xl_1_137 : xLok (1, 137, 46) := ⟨by decide, by decide, Or.inl (xg4 143 (by decide +kernel) rfl)⟩
theorem xl_1_79 : xLok (1, 79, 11) := ⟨by decide, by decide, Or.inl (xg4 144 (by decide +kernel) rfl)⟩
theorem xl_1_89 : xLok (1, 89, 76) := ⟨by decide, by decide, Or.inl (xg4 148 (by decide +kernel) rfl)⟩
theorem xl_1_82 : xLok (1, 82, 12) := ⟨by decide, by decide, Or.inl (xg4 149 (by decide +kernel) rfl)⟩
theorem xl_1_153 : xLok (1, 153, 13) := ⟨by decide, by decide, Or.inl (xg4 153 (by decide +kernel) rfl)⟩
theorem xl_1_143 : xLok (1, 143, 47) := ⟨by decide, by decide, Or.inl (xg4 157 (by decide +kernel) rfl)⟩
theorem xl_1_156 : xLok (1, 156, 39) := ⟨by decide, by decide, Or.inl (xg4 158 (by decide +kernel) rfl)⟩
theorem xl_1_85 : xLok (1, 85, 14) := ⟨by decide, by decide, Or.inl (xg4 159 (by decide +kernel) rfl)⟩
theorem xl_1_93 : xLok (1, 93, 34) := ⟨by decide, by decide, Or.inl (xg4 163 (by decide +kernel) rfl)⟩
theorem xl_1_96 : xLok (1, 96, 36) := ⟨by decide, by decide, Or.inl (xg4 164 (by decide +kernel) rfl)⟩
theorem xl_1_99 : xLok (1, 99, 85) := ⟨by decide, by decide, Or.inr (xh4 165 (by decide +kernel))⟩
theorem xl_1_102 : xLok (1, 102, 35) := ⟨by decide, by decide, Or.inl (xg4 166 (by decide +kernel) rfl)⟩
theorem xl_1_105 : xLok (1, 105, 15) := ⟨by decide, by decide, Or.inl (xg4 167 (by decide +kernel) rfl)⟩
theorem xl_1_117 : xLok (1, 117, 45) := ⟨by decide, by decide, Or.inl (xg4 171 (by decide +kernel) rfl)⟩
theorem xl_1_123 : xLok (1, 123, 52) := ⟨by decide, by decide, Or.inl (xg4 172 (by decide +kernel) rfl)⟩
theorem xl_1_127 : xLok (1, 127, 62) := ⟨by decide, by decide, Or.inl (xg4 173 (by decide +kernel) rfl)⟩
theorem xl_1_130 : xLok (1, 130, 16) := ⟨by decide, by decide, Or.inl (xg4 174 (by decide +kernel) rfl)⟩
theorem xl_1_134 : xLok (1, 134, 42) := ⟨by decide, by decide, Or.inl (xg4 178 (by decide +kernel) rfl)⟩
theorem xl_1_108 : xLok (1, 108, 17) := ⟨by decide, by decide, Or.inl (xg4 179 (by decide +kernel) rfl)⟩
theorem xl_1_140 : xLok (1, 140, 18) := ⟨by decide, by decide, Or.inl (xg4 183 (by decide +kernel) rfl)⟩
theorem xl_1_111 : xLok (1, 111, 19) := ⟨by decide, by decide, Or.inl (xg4 187 (by decide +kernel) rfl)⟩
theorem xl_1_147 : xLok (1, 147, 37) := ⟨by decide, by decide, Or.inl (xg4 191 (by decide +kernel) rfl)⟩
theorem xl_1_114 : xLok (1, 114, 20) := ⟨by decide, by decide, Or.inl (xg4 192 (by decide +kernel) rfl)⟩
theorem xl_1_151 : xLok (1, 151, 38) := ⟨by decide, by decide, Or.inl (xg4 196 (by decide +kernel) rfl)⟩
theorem xl_2_17 : xLok (2, 17, 48) := ⟨by decide, by decide, Or.inl (xg2 56 (by decide +kernel) rfl)⟩
theorem xl_2_22 : xLok (2, 22, 24) := ⟨by decide, by decide, Or.inl (xg5 31 (by decide +kernel) rfl)⟩
theorem xl_2_25 : xLok (2, 25, 49) := ⟨by decide, by decide, Or.inl (xg5 36 (by decide +kernel) rfl)⟩
theorem xl_3_11 : xLok (3, 11, 73) := ⟨by decide, by decide, Or.inl (xg1 116 (by decide +kernel) rfl)⟩
theorem xl_3_20 : xLok (3, 20, 74) := ⟨by decide, by decide, Or.inl (xg1 117 (by decide +kernel) rfl)⟩
theorem xl_3_47 : xLok (3, 47, 77) := ⟨by decide, by decide, Or.inl (xg2 232 (by decide +kernel) rfl)⟩
theorem xl_3_51 : xLok (3, 51, 28) := ⟨by decide, by decide, Or.inl (xg2 233 (by decide +kernel) rfl)⟩
theorem xl_3_55 : xLok (3, 55, 30) := ⟨by decide, by decide, Or.inl (xg4 23 (by decide +kernel) rfl)⟩
theorem xl_4_11 : xLok (4, 11, 26) := ⟨by decide, by decide, Or.inl (xg1 111 (by decide +kernel) rfl)⟩
theorem xl_4_20 : xLok (4, 20, 40) := ⟨by decide, by decide, Or.inl (xg1 159 (by decide +kernel) rfl)⟩
theorem xl_4_27 : xLok (4, 27, 73) := ⟨by decide, by decide, Or.inl (xg1 176 (by decide +kernel) rfl)⟩
theorem xl_4_34 : xLok (4, 34, 29) := ⟨by decide, by decide, Or.inl (xg3 177 (by decide +kernel) rfl)⟩
theorem xl_4_37 : xLok (4, 37, 41) := ⟨by decide, by decide, Or.inl (xg3 181 (by decide +kernel) rfl)⟩
theorem xl_4_63 : xLok (4, 63, 45) := ⟨by decide, by decide, Or.inl (xg3 230 (by decide +kernel) rfl)⟩
theorem xl_4_70 : xLok (4, 70, 75) := ⟨by decide, by decide, Or.inl (xg3 235 (by decide +kernel) rfl)⟩
theorem xl_4_73 : xLok (4, 73, 76) := ⟨by decide, by decide, Or.inl (xg3 236 (by decide +kernel) rfl)⟩
theorem xl_4_77 : xLok (4, 77, 113) := ⟨by decide, by decide, Or.inr (xh3 237 (by decide +kernel))⟩
theorem xl_4_81 : xLok (4, 81, 36) := ⟨by decide, by decide, Or.inl (xg3 238 (by decide +kernel) rfl)⟩
theorem xl_4_47 : xLok (4, 47, 79) := ⟨by decide, by decide, Or.inl (xg4 2 (by decide +kernel) rfl)⟩
theorem xl_4_84 : xLok (4, 84, 74) := ⟨by decide, by decide, Or.inl (xg4 68 (by decide +kernel) rfl)⟩
theorem xl_4_93 : xLok (4, 93, 44) := ⟨by decide, by decide, Or.inl (xg4 74 (by decide +kernel) rfl)⟩
theorem xl_5_11 : xLok (5, 11, 73) := ⟨by decide, by decide, Or.inl (xg1 164 (by decide +kernel) rfl)⟩
theorem xl_5_24 : xLok (5, 24, 42) := ⟨by decide, by decide, Or.inl (xg3 185 (by decide +kernel) rfl)⟩
theorem xl_5_32 : xLok (5, 32, 43) := ⟨by decide, by decide, Or.inl (xg3 189 (by decide +kernel) rfl)⟩
theorem xl_5_36 : xLok (5, 36, 80) := ⟨by decide, by decide, Or.inl (xg3 193 (by decide +kernel) rfl)⟩
theorem xl_5_28 : xLok (5, 28, 44) := ⟨by decide, by decide, Or.inl (xg3 197 (by decide +kernel) rfl)⟩
theorem xl_5_49 : xLok (5, 49, 78) := ⟨by decide, by decide, Or.inl (xg3 201 (by decide +kernel) rfl)⟩
theorem xl_5_46 : xLok (5, 46, 75) := ⟨by decide, by decide, Or.inl (xg3 234 (by decide +kernel) rfl)⟩
theorem xl_5_52 : xLok (5, 52, 74) := ⟨by decide, by decide, Or.inl (xg4 41 (by decide +kernel) rfl)⟩
theorem xl_5_55 : xLok (5, 55, 79) := ⟨by decide, by decide, Or.inl (xg4 42 (by decide +kernel) rfl)⟩
theorem xl_5_59 : xLok (5, 59, 76) := ⟨by decide, by decide, Or.inl (xg4 43 (by decide +kernel) rfl)⟩
theorem xl_6_11 : xLok (6, 11, 73) := ⟨by decide, by decide, Or.inl (xg2 24 (by decide +kernel) rfl)⟩
theorem xl_6_22 : xLok (6, 22, 26) := ⟨by decide, by decide, Or.inl (xg2 26 (by decide +kernel) rfl)⟩
theorem xl_6_27 : xLok (6, 27, 77) := ⟨by decide, by decide, Or.inl (xg2 215 (by decide +kernel) rfl)⟩
theorem xl_6_31 : xLok (6, 31, 27) := ⟨by decide, by decide, Or.inl (xg2 228 (by decide +kernel) rfl)⟩
theorem xl_6_51 : xLok (6, 51, 75) := ⟨by decide, by decide, Or.inl (xg5 130 (by decide +kernel) rfl)⟩
theorem xl_7_50 : xLok (7, 50, 75) := ⟨by decide, by decide, Or.inl (xg2 115 (by decide +kernel) rfl)⟩
theorem xl_7_62 : xLok (7, 62, 76) := ⟨by decide, by decide, Or.inl (xg2 116 (by decide +kernel) rfl)⟩
theorem xl_7_66 : xLok (7, 66, 53) := ⟨by decide, by decide, Or.inl (xg2 120 (by decide +kernel) rfl)⟩
theorem xl_7_76 : xLok (7, 76, 54) := ⟨by decide, by decide, Or.inl (xg2 124 (by decide +kernel) rfl)⟩
theorem xl_7_80 : xLok (7, 80, 55) := ⟨by decide, by decide, Or.inl (xg2 128 (by decide +kernel) rfl)⟩
theorem xl_7_83 : xLok (7, 83, 85) := ⟨by decide, by decide, Or.inr (xh2 131 (by decide +kernel))⟩
theorem xl_7_86 : xLok (7, 86, 56) := ⟨by decide, by decide, Or.inl (xg2 134 (by decide +kernel) rfl)⟩
theorem xl_7_90 : xLok (7, 90, 57) := ⟨by decide, by decide, Or.inl (xg2 138 (by decide +kernel) rfl)⟩
theorem xl_7_93 : xLok (7, 93, 58) := ⟨by decide, by decide, Or.inl (xg2 142 (by decide +kernel) rfl)⟩
theorem xl_7_97 : xLok (7, 97, 59) := ⟨by decide, by decide, Or.inl (xg2 146 (by decide +kernel) rfl)⟩
theorem xl_7_100 : xLok (7, 100, 60) := ⟨by decide, by decide, Or.inl (xg2 150 (by decide +kernel) rfl)⟩
theorem xl_7_70 : xLok (7, 70, 64) := ⟨by decide, by decide, Or.inl (xg4 106 (by decide +kernel) rfl)⟩
theorem xl_7_73 : xLok (7, 73, 65) := ⟨by decide, by decide, Or.inl (xg4 107 (by decide +kernel) rfl)⟩
theorem xl_8_39 : xLok (8, 39, 78) := ⟨by decide, by decide, Or.inl (xg2 219 (by decide +kernel) rfl)⟩
theorem xl_8_29 : xLok (8, 29, 75) := ⟨by decide, by decide, Or.inl (xg2 223 (by decide +kernel) rfl)⟩
theorem xl_8_36 : xLok (8, 36, 76) := ⟨by decide, by decide, Or.inl (xg2 227 (by decide +kernel) rfl)⟩
theorem xl_9_11 : xLok (9, 11, 73) := ⟨by decide, by decide, Or.inl (xg1 29 (by decide +kernel) rfl)⟩
theorem xl_9_18 : xLok (9, 18, 74) := ⟨by decide, by decide, Or.inl (xg1 48 (by decide +kernel) rfl)⟩
theorem xl_9_27 : xLok (9, 27, 51) := ⟨by decide, by decide, Or.inl (xg1 54 (by decide +kernel) rfl)⟩
theorem xl_9_36 : xLok (9, 36, 32) := ⟨by decide, by decide, Or.inl (xg1 105 (by decide +kernel) rfl)⟩
theorem xl_9_43 : xLok (9, 43, 0) := ⟨by decide, by decide, Or.inl (xg1 196 (by decide +kernel) rfl)⟩
theorem xl_9_52 : xLok (9, 52, 8) := ⟨by decide, by decide, Or.inl (xg1 212 (by decide +kernel) rfl)⟩
theorem xl_9_59 : xLok (9, 59, 48) := ⟨by decide, by decide, Or.inl (xg2 19 (by decide +kernel) rfl)⟩
theorem xl_9_69 : xLok (9, 69, 21) := ⟨by decide, by decide, Or.inl (xg2 50 (by decide +kernel) rfl)⟩
theorem xl_9_92 : xLok (9, 92, 75) := ⟨by decide, by decide, Or.inl (xg2 99 (by decide +kernel) rfl)⟩
theorem xl_9_96 : xLok (9, 96, 52) := ⟨by decide, by decide, Or.inl (xg2 111 (by decide +kernel) rfl)⟩
theorem xl_9_100 : xLok (9, 100, 61) := ⟨by decide, by decide, Or.inl (xg2 155 (by decide +kernel) rfl)⟩
theorem xl_9_104 : xLok (9, 104, 62) := ⟨by decide, by decide, Or.inl (xg2 163 (by decide +kernel) rfl)⟩
theorem xl_9_250 : xLok (9, 250, 49) := ⟨by decide, by decide, Or.inl (xg2 211 (by decide +kernel) rfl)⟩
theorem xl_9_188 : xLok (9, 188, 87) := ⟨by decide, by decide, Or.inl (xg2 237 (by decide +kernel) rfl)⟩
theorem xl_9_247 : xLok (9, 247, 22) := ⟨by decide, by decide, Or.inl (xg3 2 (by decide +kernel) rfl)⟩
theorem xl_9_255 : xLok (9, 255, 93) := ⟨by decide, by decide, Or.inl (xg3 10 (by decide +kernel) rfl)⟩
theorem xl_9_260 : xLok (9, 260, 101) := ⟨by decide, by decide, Or.inl (xg3 16 (by decide +kernel) rfl)⟩
theorem xl_9_272 : xLok (9, 272, 102) := ⟨by decide, by decide, Or.inl (xg3 20 (by decide +kernel) rfl)⟩
theorem xl_9_282 : xLok (9, 282, 103) := ⟨by decide, by decide, Or.inl (xg3 23 (by decide +kernel) rfl)⟩
theorem xl_9_177 : xLok (9, 177, 76) := ⟨by decide, by decide, Or.inl (xg3 27 (by decide +kernel) rfl)⟩
theorem xl_9_197 : xLok (9, 197, 88) := ⟨by decide, by decide, Or.inl (xg3 28 (by decide +kernel) rfl)⟩
theorem xl_9_268 : xLok (9, 268, 104) := ⟨by decide, by decide, Or.inl (xg3 29 (by decide +kernel) rfl)⟩
theorem xl_9_349 : xLok (9, 349, 105) := ⟨by decide, by decide, Or.inl (xg3 32 (by decide +kernel) rfl)⟩
theorem xl_9_205 : xLok (9, 205, 89) := ⟨by decide, by decide, Or.inl (xg3 104 (by decide +kernel) rfl)⟩
theorem xl_9_352 : xLok (9, 352, 106) := ⟨by decide, by decide, Or.inl (xg3 105 (by decide +kernel) rfl)⟩
theorem xl_9_210 : xLok (9, 210, 28) := ⟨by decide, by decide, Or.inl (xg3 125 (by decide +kernel) rfl)⟩
theorem xl_9_355 : xLok (9, 355, 90) := ⟨by decide, by decide, Or.inl (xg3 126 (by decide +kernel) rfl)⟩
theorem xl_9_358 : xLok (9, 358, 91) := ⟨by decide, by decide, Or.inl (xg3 127 (by decide +kernel) rfl)⟩
theorem xl_9_361 : xLok (9, 361, 92) := ⟨by decide, by decide, Or.inl (xg3 128 (by decide +kernel) rfl)⟩
theorem xl_9_364 : xLok (9, 364, 94) := ⟨by decide, by decide, Or.inl (xg3 129 (by decide +kernel) rfl)⟩
theorem xl_9_367 : xLok (9, 367, 95) := ⟨by decide, by decide, Or.inl (xg3 130 (by decide +kernel) rfl)⟩
theorem xl_9_370 : xLok (9, 370, 96) := ⟨by decide, by decide, Or.inl (xg3 131 (by decide +kernel) rfl)⟩
theorem xl_9_373 : xLok (9, 373, 98) := ⟨by decide, by decide, Or.inl (xg3 132 (by decide +kernel) rfl)⟩
theorem xl_9_264 : xLok (9, 264, 107) := ⟨by decide, by decide, Or.inl (xg3 133 (by decide +kernel) rfl)⟩
theorem xl_9_126 : xLok (9, 126, 108) := ⟨by decide, by decide, Or.inl (xg3 137 (by decide +kernel) rfl)⟩
theorem xl_9_276 : xLok (9, 276, 109) := ⟨by decide, by decide, Or.inl (xg3 141 (by decide +kernel) rfl)⟩
theorem xl_9_138 : xLok (9, 138, 110) := ⟨by decide, by decide, Or.inl (xg3 145 (by decide +kernel) rfl)⟩
theorem xl_9_279 : xLok (9, 279, 111) := ⟨by decide, by decide, Or.inl (xg3 150 (by decide +kernel) rfl)⟩
theorem xl_9_154 : xLok (9, 154, 112) := ⟨by decide, by decide, Or.inl (xg3 154 (by decide +kernel) rfl)⟩
theorem xl_9_340 : xLok (9, 340, 113) := ⟨by decide, by decide, Or.inl (xg3 158 (by decide +kernel) rfl)⟩
theorem xl_9_81 : xLok (9, 81, 79) := ⟨by decide, by decide, Or.inl (xg3 161 (by decide +kernel) rfl)⟩
theorem xl_9_286 : xLok (9, 286, 114) := ⟨by decide, by decide, Or.inl (xg3 165 (by decide +kernel) rfl)⟩
theorem xl_9_180 : xLok (9, 180, 115) := ⟨by decide, by decide, Or.inl (xg3 169 (by decide +kernel) rfl)⟩
theorem xl_9_234 : xLok (9, 234, 33) := ⟨by decide, by decide, Or.inl (xg3 173 (by decide +kernel) rfl)⟩
theorem xl_9_111 : xLok (9, 111, 63) := ⟨by decide, by decide, Or.inl (xg3 202 (by decide +kernel) rfl)⟩
theorem xl_9_343 : xLok (9, 343, 1) := ⟨by decide, by decide, Or.inr (xh3 206 (by decide +kernel))⟩
theorem xl_9_289 : xLok (9, 289, 86) := ⟨by decide, by decide, Or.inl (xg4 80 (by decide +kernel) rfl)⟩
theorem xl_9_292 : xLok (9, 292, 116) := ⟨by decide, by decide, Or.inl (xg4 81 (by decide +kernel) rfl)⟩
theorem xl_9_108 : xLok (9, 108, 117) := ⟨by decide, by decide, Or.inl (xg4 85 (by decide +kernel) rfl)⟩
theorem xl_9_295 : xLok (9, 295, 118) := ⟨by decide, by decide, Or.inl (xg4 90 (by decide +kernel) rfl)⟩
theorem xl_9_114 : xLok (9, 114, 69) := ⟨by decide, by decide, Or.inl (xg4 94 (by decide +kernel) rfl)⟩
theorem xl_9_298 : xLok (9, 298, 119) := ⟨by decide, by decide, Or.inl (xg4 98 (by decide +kernel) rfl)⟩
theorem xl_9_117 : xLok (9, 117, 70) := ⟨by decide, by decide, Or.inl (xg4 102 (by decide +kernel) rfl)⟩
theorem xl_9_301 : xLok (9, 301, 120) := ⟨by decide, by decide, Or.inl (xg4 108 (by decide +kernel) rfl)⟩
theorem xl_9_120 : xLok (9, 120, 71) := ⟨by decide, by decide, Or.inl (xg4 112 (by decide +kernel) rfl)⟩
theorem xl_9_304 : xLok (9, 304, 121) := ⟨by decide, by decide, Or.inl (xg4 116 (by decide +kernel) rfl)⟩
theorem xl_9_123 : xLok (9, 123, 72) := ⟨by decide, by decide, Or.inl (xg4 120 (by decide +kernel) rfl)⟩
theorem xl_9_307 : xLok (9, 307, 122) := ⟨by decide, by decide, Or.inl (xg4 124 (by decide +kernel) rfl)⟩
theorem xl_9_310 : xLok (9, 310, 123) := ⟨by decide, by decide, Or.inl (xg4 128 (by decide +kernel) rfl)⟩
theorem xl_9_237 : xLok (9, 237, 9) := ⟨by decide, by decide, Or.inl (xg4 132 (by decide +kernel) rfl)⟩
theorem xl_9_313 : xLok (9, 313, 124) := ⟨by decide, by decide, Or.inl (xg4 197 (by decide +kernel) rfl)⟩
theorem xl_9_316 : xLok (9, 316, 84) := ⟨by decide, by decide, Or.inl (xg4 201 (by decide +kernel) rfl)⟩
theorem xl_9_319 : xLok (9, 319, 99) := ⟨by decide, by decide, Or.inl (xg4 202 (by decide +kernel) rfl)⟩
theorem xl_9_323 : xLok (9, 323, 125) := ⟨by decide, by decide, Or.inl (xg4 203 (by decide +kernel) rfl)⟩
theorem xl_9_78 : xLok (9, 78, 127) := ⟨by decide, by decide, Or.inl (xg4 218 (by decide +kernel) rfl)⟩
theorem xl_9_134 : xLok (9, 134, 23) := ⟨by decide, by decide, Or.inl (xg5 27 (by decide +kernel) rfl)⟩
theorem xl_9_141 : xLok (9, 141, 80) := ⟨by decide, by decide, Or.inl (xg5 44 (by decide +kernel) rfl)⟩
theorem xl_9_150 : xLok (9, 150, 78) := ⟨by decide, by decide, Or.inl (xg5 60 (by decide +kernel) rfl)⟩
theorem xl_9_168 : xLok (9, 168, 134) := ⟨by decide, by decide, Or.inl (xg5 76 (by decide +kernel) rfl)⟩
theorem xl_9_184 : xLok (9, 184, 50) := ⟨by decide, by decide, Or.inl (xg5 126 (by decide +kernel) rfl)⟩
theorem xl_9_241 : xLok (9, 241, 25) := ⟨by decide, by decide, Or.inl (xg5 173 (by decide +kernel) rfl)⟩
theorem xl_10_74 : xLok (10, 74, 146) := ⟨by decide, by decide, Or.inl (xg6 96 (by decide +kernel) rfl)⟩
theorem xl_10_221 : xLok (10, 221, 147) := ⟨by decide, by decide, Or.inl (xg6 99 (by decide +kernel) rfl)⟩
theorem xl_10_217 : xLok (10, 217, 151) := ⟨by decide, by decide, Or.inl (xg6 115 (by decide +kernel) rfl)⟩
theorem xl_10_126 : xLok (10, 126, 152) := ⟨by decide, by decide, Or.inl (xg6 119 (by decide +kernel) rfl)⟩
theorem xl_10_112 : xLok (10, 112, 153) := ⟨by decide, by decide, Or.inl (xg6 123 (by decide +kernel) rfl)⟩
theorem xl_10_94 : xLok (10, 94, 154) := ⟨by decide, by decide, Or.inl (xg6 127 (by decide +kernel) rfl)⟩
theorem xl_10_97 : xLok (10, 97, 155) := ⟨by decide, by decide, Or.inl (xg6 130 (by decide +kernel) rfl)⟩
theorem xl_10_224 : xLok (10, 224, 157) := ⟨by decide, by decide, Or.inl (xg6 138 (by decide +kernel) rfl)⟩
theorem xl_10_227 : xLok (10, 227, 164) := ⟨by decide, by decide, Or.inl (xg6 166 (by decide +kernel) rfl)⟩
theorem xl_10_78 : xLok (10, 78, 165) := ⟨by decide, by decide, Or.inl (xg6 169 (by decide +kernel) rfl)⟩
theorem xl_10_230 : xLok (10, 230, 166) := ⟨by decide, by decide, Or.inl (xg6 173 (by decide +kernel) rfl)⟩
theorem xl_10_233 : xLok (10, 233, 167) := ⟨by decide, by decide, Or.inl (xg6 177 (by decide +kernel) rfl)⟩
theorem xl_10_236 : xLok (10, 236, 169) := ⟨by decide, by decide, Or.inl (xg6 185 (by decide +kernel) rfl)⟩
theorem xl_10_239 : xLok (10, 239, 173) := ⟨by decide, by decide, Or.inl (xg6 201 (by decide +kernel) rfl)⟩
theorem xl_10_173 : xLok (10, 173, 174) := ⟨by decide, by decide, Or.inl (xg6 205 (by decide +kernel) rfl)⟩
theorem xl_10_245 : xLok (10, 245, 181) := ⟨by decide, by decide, Or.inl (xg6 232 (by decide +kernel) rfl)⟩
theorem xl_10_242 : xLok (10, 242, 182) := ⟨by decide, by decide, Or.inl (xg6 236 (by decide +kernel) rfl)⟩
theorem xl_10_248 : xLok (10, 248, 186) := ⟨by decide, by decide, Or.inl (xg7 12 (by decide +kernel) rfl)⟩
theorem xl_10_166 : xLok (10, 166, 187) := ⟨by decide, by decide, Or.inl (xg7 16 (by decide +kernel) rfl)⟩
theorem xl_10_132 : xLok (10, 132, 188) := ⟨by decide, by decide, Or.inl (xg7 20 (by decide +kernel) rfl)⟩
theorem xl_10_181 : xLok (10, 181, 189) := ⟨by decide, by decide, Or.inl (xg7 23 (by decide +kernel) rfl)⟩
theorem xl_10_207 : xLok (10, 207, 190) := ⟨by decide, by decide, Or.inl (xg7 27 (by decide +kernel) rfl)⟩
theorem xl_10_211 : xLok (10, 211, 191) := ⟨by decide, by decide, Or.inl (xg7 31 (by decide +kernel) rfl)⟩
theorem xl_10_169 : xLok (10, 169, 192) := ⟨by decide, by decide, Or.inl (xg7 35 (by decide +kernel) rfl)⟩
theorem xl_10_214 : xLok (10, 214, 193) := ⟨by decide, by decide, Or.inl (xg7 39 (by decide +kernel) rfl)⟩
theorem xl_10_147 : xLok (10, 147, 194) := ⟨by decide, by decide, Or.inl (xg7 43 (by decide +kernel) rfl)⟩
theorem xl_10_204 : xLok (10, 204, 195) := ⟨by decide, by decide, Or.inl (xg7 47 (by decide +kernel) rfl)⟩
theorem xl_10_188 : xLok (10, 188, 196) := ⟨by decide, by decide, Or.inl (xg7 51 (by decide +kernel) rfl)⟩
theorem xl_10_191 : xLok (10, 191, 197) := ⟨by decide, by decide, Or.inl (xg7 55 (by decide +kernel) rfl)⟩
theorem xl_10_177 : xLok (10, 177, 198) := ⟨by decide, by decide, Or.inl (xg7 59 (by decide +kernel) rfl)⟩
theorem xl_10_195 : xLok (10, 195, 199) := ⟨by decide, by decide, Or.inl (xg7 63 (by decide +kernel) rfl)⟩
theorem xl_10_198 : xLok (10, 198, 200) := ⟨by decide, by decide, Or.inl (xg7 67 (by decide +kernel) rfl)⟩
theorem xl_10_185 : xLok (10, 185, 201) := ⟨by decide, by decide, Or.inl (xg7 71 (by decide +kernel) rfl)⟩
theorem xl_10_251 : xLok (10, 251, 216) := ⟨by decide, by decide, Or.inl (xg7 131 (by decide +kernel) rfl)⟩
theorem xl_10_254 : xLok (10, 254, 215) := ⟨by decide, by decide, Or.inl (xg7 139 (by decide +kernel) rfl)⟩
theorem xl_10_257 : xLok (10, 257, 219) := ⟨by decide, by decide, Or.inl (xg7 144 (by decide +kernel) rfl)⟩
theorem xl_10_263 : xLok (10, 263, 226) := ⟨by decide, by decide, Or.inl (xg7 172 (by decide +kernel) rfl)⟩
theorem xl_10_279 : xLok (10, 279, 228) := ⟨by decide, by decide, Or.inl (xg7 181 (by decide +kernel) rfl)⟩
theorem xl_10_285 : xLok (10, 285, 229) := ⟨by decide, by decide, Or.inl (xg7 186 (by decide +kernel) rfl)⟩
theorem xl_10_288 : xLok (10, 288, 230) := ⟨by decide, by decide, Or.inl (xg7 190 (by decide +kernel) rfl)⟩
theorem xl_10_291 : xLok (10, 291, 231) := ⟨by decide, by decide, Or.inl (xg7 194 (by decide +kernel) rfl)⟩
theorem xl_11_106 : xLok (11, 106, 81) := ⟨by decide, by decide, Or.inl (xg1 21 (by decide +kernel) rfl)⟩
theorem xl_11_119 : xLok (11, 119, 82) := ⟨by decide, by decide, Or.inl (xg2 95 (by decide +kernel) rfl)⟩
theorem xl_11_123 : xLok (11, 123, 83) := ⟨by decide, by decide, Or.inl (xg2 103 (by decide +kernel) rfl)⟩
theorem xl_11_127 : xLok (11, 127, 84) := ⟨by decide, by decide, Or.inl (xg2 107 (by decide +kernel) rfl)⟩
theorem xl_11_131 : xLok (11, 131, 86) := ⟨by decide, by decide, Or.inl (xg2 159 (by decide +kernel) rfl)⟩
theorem xl_11_195 : xLok (11, 195, 87) := ⟨by decide, by decide, Or.inl (xg2 167 (by decide +kernel) rfl)⟩
theorem xl_11_202 : xLok (11, 202, 88) := ⟨by decide, by decide, Or.inl (xg2 171 (by decide +kernel) rfl)⟩
theorem xl_11_209 : xLok (11, 209, 89) := ⟨by decide, by decide, Or.inl (xg2 175 (by decide +kernel) rfl)⟩
theorem xl_11_216 : xLok (11, 216, 90) := ⟨by decide, by decide, Or.inl (xg2 179 (by decide +kernel) rfl)⟩
theorem xl_11_220 : xLok (11, 220, 91) := ⟨by decide, by decide, Or.inl (xg2 183 (by decide +kernel) rfl)⟩
theorem xl_11_224 : xLok (11, 224, 92) := ⟨by decide, by decide, Or.inl (xg2 187 (by decide +kernel) rfl)⟩
theorem xl_11_228 : xLok (11, 228, 93) := ⟨by decide, by decide, Or.inl (xg2 191 (by decide +kernel) rfl)⟩
theorem xl_11_232 : xLok (11, 232, 94) := ⟨by decide, by decide, Or.inl (xg2 195 (by decide +kernel) rfl)⟩
theorem xl_11_236 : xLok (11, 236, 95) := ⟨by decide, by decide, Or.inl (xg2 199 (by decide +kernel) rfl)⟩
theorem xl_11_240 : xLok (11, 240, 96) := ⟨by decide, by decide, Or.inl (xg2 203 (by decide +kernel) rfl)⟩
theorem xl_11_259 : xLok (11, 259, 97) := ⟨by decide, by decide, Or.inl (xg2 207 (by decide +kernel) rfl)⟩
theorem xl_11_266 : xLok (11, 266, 98) := ⟨by decide, by decide, Or.inl (xg2 238 (by decide +kernel) rfl)⟩
theorem xl_11_270 : xLok (11, 270, 99) := ⟨by decide, by decide, Or.inl (xg3 6 (by decide +kernel) rfl)⟩
theorem xl_11_275 : xLok (11, 275, 100) := ⟨by decide, by decide, Or.inl (xg3 11 (by decide +kernel) rfl)⟩
theorem xl_11_110 : xLok (11, 110, 232) := ⟨by decide, by decide, Or.inl (xg4 209 (by decide +kernel) rfl)⟩
theorem xl_11_7 : xLok (11, 7, 126) := ⟨by decide, by decide, Or.inl (xg4 214 (by decide +kernel) rfl)⟩
theorem xl_11_136 : xLok (11, 136, 233) := ⟨by decide, by decide, Or.inl (xg4 238 (by decide +kernel) rfl)⟩
theorem xl_11_17 : xLok (11, 17, 116) := ⟨by decide, by decide, Or.inl (xg5 1 (by decide +kernel) rfl)⟩
theorem xl_11_140 : xLok (11, 140, 234) := ⟨by decide, by decide, Or.inl (xg5 2 (by decide +kernel) rfl)⟩
theorem xl_11_21 : xLok (11, 21, 118) := ⟨by decide, by decide, Or.inl (xg5 5 (by decide +kernel) rfl)⟩
theorem xl_11_143 : xLok (11, 143, 235) := ⟨by decide, by decide, Or.inl (xg5 6 (by decide +kernel) rfl)⟩
theorem xl_11_24 : xLok (11, 24, 119) := ⟨by decide, by decide, Or.inl (xg5 9 (by decide +kernel) rfl)⟩
theorem xl_11_146 : xLok (11, 146, 236) := ⟨by decide, by decide, Or.inl (xg5 10 (by decide +kernel) rfl)⟩
theorem xl_11_27 : xLok (11, 27, 120) := ⟨by decide, by decide, Or.inl (xg5 13 (by decide +kernel) rfl)⟩
theorem xl_11_149 : xLok (11, 149, 237) := ⟨by decide, by decide, Or.inl (xg5 14 (by decide +kernel) rfl)⟩
theorem xl_11_30 : xLok (11, 30, 121) := ⟨by decide, by decide, Or.inl (xg5 17 (by decide +kernel) rfl)⟩
theorem xl_11_152 : xLok (11, 152, 238) := ⟨by decide, by decide, Or.inl (xg5 18 (by decide +kernel) rfl)⟩
theorem xl_11_33 : xLok (11, 33, 128) := ⟨by decide, by decide, Or.inl (xg5 22 (by decide +kernel) rfl)⟩
theorem xl_11_156 : xLok (11, 156, 239) := ⟨by decide, by decide, Or.inl (xg5 37 (by decide +kernel) rfl)⟩
theorem xl_11_39 : xLok (11, 39, 129) := ⟨by decide, by decide, Or.inl (xg5 40 (by decide +kernel) rfl)⟩
theorem xl_11_159 : xLok (11, 159, 240) := ⟨by decide, by decide, Or.inl (xg5 45 (by decide +kernel) rfl)⟩
theorem xl_11_42 : xLok (11, 42, 130) := ⟨by decide, by decide, Or.inl (xg5 48 (by decide +kernel) rfl)⟩
theorem xl_11_162 : xLok (11, 162, 241) := ⟨by decide, by decide, Or.inl (xg5 53 (by decide +kernel) rfl)⟩
theorem xl_11_45 : xLok (11, 45, 131) := ⟨by decide, by decide, Or.inl (xg5 56 (by decide +kernel) rfl)⟩
theorem xl_11_165 : xLok (11, 165, 242) := ⟨by decide, by decide, Or.inl (xg5 61 (by decide +kernel) rfl)⟩
theorem xl_11_48 : xLok (11, 48, 132) := ⟨by decide, by decide, Or.inl (xg5 64 (by decide +kernel) rfl)⟩
theorem xl_11_168 : xLok (11, 168, 243) := ⟨by decide, by decide, Or.inl (xg5 69 (by decide +kernel) rfl)⟩
theorem xl_11_51 : xLok (11, 51, 133) := ⟨by decide, by decide, Or.inl (xg5 72 (by decide +kernel) rfl)⟩
theorem xl_11_171 : xLok (11, 171, 244) := ⟨by decide, by decide, Or.inl (xg5 81 (by decide +kernel) rfl)⟩
theorem xl_11_54 : xLok (11, 54, 135) := ⟨by decide, by decide, Or.inl (xg5 84 (by decide +kernel) rfl)⟩
theorem xl_11_174 : xLok (11, 174, 245) := ⟨by decide, by decide, Or.inl (xg5 88 (by decide +kernel) rfl)⟩
theorem xl_11_57 : xLok (11, 57, 107) := ⟨by decide, by decide, Or.inl (xg5 91 (by decide +kernel) rfl)⟩
theorem xl_11_177 : xLok (11, 177, 246) := ⟨by decide, by decide, Or.inl (xg5 92 (by decide +kernel) rfl)⟩
theorem xl_11_61 : xLok (11, 61, 136) := ⟨by decide, by decide, Or.inl (xg5 95 (by decide +kernel) rfl)⟩
theorem xl_11_180 : xLok (11, 180, 247) := ⟨by decide, by decide, Or.inl (xg5 99 (by decide +kernel) rfl)⟩
theorem xl_11_64 : xLok (11, 64, 137) := ⟨by decide, by decide, Or.inl (xg5 102 (by decide +kernel) rfl)⟩
theorem xl_11_183 : xLok (11, 183, 248) := ⟨by decide, by decide, Or.inl (xg5 107 (by decide +kernel) rfl)⟩
theorem xl_11_67 : xLok (11, 67, 109) := ⟨by decide, by decide, Or.inl (xg5 110 (by decide +kernel) rfl)⟩
theorem xl_11_186 : xLok (11, 186, 249) := ⟨by decide, by decide, Or.inl (xg5 111 (by decide +kernel) rfl)⟩
theorem xl_11_70 : xLok (11, 70, 111) := ⟨by decide, by decide, Or.inl (xg5 114 (by decide +kernel) rfl)⟩
theorem xl_11_189 : xLok (11, 189, 250) := ⟨by decide, by decide, Or.inl (xg5 115 (by decide +kernel) rfl)⟩
theorem xl_11_73 : xLok (11, 73, 114) := ⟨by decide, by decide, Or.inl (xg5 118 (by decide +kernel) rfl)⟩
theorem xl_11_192 : xLok (11, 192, 251) := ⟨by decide, by decide, Or.inl (xg5 119 (by decide +kernel) rfl)⟩
theorem xl_11_76 : xLok (11, 76, 138) := ⟨by decide, by decide, Or.inl (xg5 122 (by decide +kernel) rfl)⟩
theorem xl_11_199 : xLok (11, 199, 252) := ⟨by decide, by decide, Or.inl (xg5 131 (by decide +kernel) rfl)⟩
theorem xl_11_79 : xLok (11, 79, 139) := ⟨by decide, by decide, Or.inl (xg5 134 (by decide +kernel) rfl)⟩
theorem xl_11_206 : xLok (11, 206, 253) := ⟨by decide, by decide, Or.inl (xg5 139 (by decide +kernel) rfl)⟩
theorem xl_11_82 : xLok (11, 82, 105) := ⟨by decide, by decide, Or.inl (xg5 142 (by decide +kernel) rfl)⟩
theorem xl_11_213 : xLok (11, 213, 254) := ⟨by decide, by decide, Or.inl (xg5 143 (by decide +kernel) rfl)⟩
theorem xl_11_85 : xLok (11, 85, 106) := ⟨by decide, by decide, Or.inl (xg5 146 (by decide +kernel) rfl)⟩
theorem xl_11_244 : xLok (11, 244, 255) := ⟨by decide, by decide, Or.inl (xg5 147 (by decide +kernel) rfl)⟩
theorem xl_11_88 : xLok (11, 88, 122) := ⟨by decide, by decide, Or.inl (xg5 150 (by decide +kernel) rfl)⟩
theorem xl_11_247 : xLok (11, 247, 256) := ⟨by decide, by decide, Or.inl (xg5 151 (by decide +kernel) rfl)⟩
theorem xl_11_91 : xLok (11, 91, 123) := ⟨by decide, by decide, Or.inl (xg5 154 (by decide +kernel) rfl)⟩
theorem xl_11_250 : xLok (11, 250, 257) := ⟨by decide, by decide, Or.inl (xg5 155 (by decide +kernel) rfl)⟩
theorem xl_11_94 : xLok (11, 94, 124) := ⟨by decide, by decide, Or.inl (xg5 158 (by decide +kernel) rfl)⟩
theorem xl_11_253 : xLok (11, 253, 258) := ⟨by decide, by decide, Or.inl (xg5 159 (by decide +kernel) rfl)⟩
theorem xl_11_97 : xLok (11, 97, 140) := ⟨by decide, by decide, Or.inl (xg5 162 (by decide +kernel) rfl)⟩
theorem xl_11_256 : xLok (11, 256, 259) := ⟨by decide, by decide, Or.inl (xg5 166 (by decide +kernel) rfl)⟩
theorem xl_11_100 : xLok (11, 100, 141) := ⟨by decide, by decide, Or.inl (xg5 169 (by decide +kernel) rfl)⟩
theorem xl_11_263 : xLok (11, 263, 260) := ⟨by decide, by decide, Or.inl (xg5 178 (by decide +kernel) rfl)⟩
theorem xl_11_103 : xLok (11, 103, 142) := ⟨by decide, by decide, Or.inl (xg5 181 (by decide +kernel) rfl)⟩
theorem xl_11_109 : xLok (11, 109, 143) := ⟨by decide, by decide, Or.inl (xg5 188 (by decide +kernel) rfl)⟩
theorem xl_11_116 : xLok (11, 116, 144) := ⟨by decide, by decide, Or.inl (xg6 88 (by decide +kernel) rfl)⟩
theorem xl_11_115 : xLok (11, 115, 145) := ⟨by decide, by decide, Or.inl (xg6 92 (by decide +kernel) rfl)⟩
theorem xl_11_122 : xLok (11, 122, 148) := ⟨by decide, by decide, Or.inl (xg6 103 (by decide +kernel) rfl)⟩
theorem xl_11_126 : xLok (11, 126, 149) := ⟨by decide, by decide, Or.inl (xg6 107 (by decide +kernel) rfl)⟩
theorem xl_11_130 : xLok (11, 130, 150) := ⟨by decide, by decide, Or.inl (xg6 111 (by decide +kernel) rfl)⟩
theorem xl_11_135 : xLok (11, 135, 156) := ⟨by decide, by decide, Or.inl (xg6 134 (by decide +kernel) rfl)⟩
theorem xl_11_139 : xLok (11, 139, 158) := ⟨by decide, by decide, Or.inl (xg6 142 (by decide +kernel) rfl)⟩
theorem xl_11_142 : xLok (11, 142, 159) := ⟨by decide, by decide, Or.inl (xg6 146 (by decide +kernel) rfl)⟩
theorem xl_11_145 : xLok (11, 145, 160) := ⟨by decide, by decide, Or.inl (xg6 150 (by decide +kernel) rfl)⟩
theorem xl_11_148 : xLok (11, 148, 161) := ⟨by decide, by decide, Or.inl (xg6 154 (by decide +kernel) rfl)⟩
theorem xl_11_151 : xLok (11, 151, 162) := ⟨by decide, by decide, Or.inl (xg6 158 (by decide +kernel) rfl)⟩
theorem xl_11_155 : xLok (11, 155, 163) := ⟨by decide, by decide, Or.inl (xg6 162 (by decide +kernel) rfl)⟩
theorem xl_11_158 : xLok (11, 158, 168) := ⟨by decide, by decide, Or.inl (xg6 181 (by decide +kernel) rfl)⟩
theorem xl_11_161 : xLok (11, 161, 170) := ⟨by decide, by decide, Or.inl (xg6 189 (by decide +kernel) rfl)⟩
theorem xl_11_164 : xLok (11, 164, 171) := ⟨by decide, by decide, Or.inl (xg6 193 (by decide +kernel) rfl)⟩
theorem xl_11_167 : xLok (11, 167, 172) := ⟨by decide, by decide, Or.inl (xg6 197 (by decide +kernel) rfl)⟩
theorem xl_11_170 : xLok (11, 170, 175) := ⟨by decide, by decide, Or.inl (xg6 208 (by decide +kernel) rfl)⟩
theorem xl_11_173 : xLok (11, 173, 176) := ⟨by decide, by decide, Or.inl (xg6 212 (by decide +kernel) rfl)⟩
theorem xl_11_176 : xLok (11, 176, 177) := ⟨by decide, by decide, Or.inl (xg6 216 (by decide +kernel) rfl)⟩
theorem xl_11_179 : xLok (11, 179, 178) := ⟨by decide, by decide, Or.inl (xg6 220 (by decide +kernel) rfl)⟩
theorem xl_11_182 : xLok (11, 182, 179) := ⟨by decide, by decide, Or.inl (xg6 224 (by decide +kernel) rfl)⟩
theorem xl_11_185 : xLok (11, 185, 180) := ⟨by decide, by decide, Or.inl (xg6 228 (by decide +kernel) rfl)⟩
theorem xl_11_188 : xLok (11, 188, 183) := ⟨by decide, by decide, Or.inl (xg7 0 (by decide +kernel) rfl)⟩
theorem xl_11_191 : xLok (11, 191, 184) := ⟨by decide, by decide, Or.inl (xg7 4 (by decide +kernel) rfl)⟩
theorem xl_11_194 : xLok (11, 194, 185) := ⟨by decide, by decide, Or.inl (xg7 8 (by decide +kernel) rfl)⟩
theorem xl_11_198 : xLok (11, 198, 202) := ⟨by decide, by decide, Or.inl (xg7 75 (by decide +kernel) rfl)⟩
theorem xl_11_201 : xLok (11, 201, 203) := ⟨by decide, by decide, Or.inl (xg7 79 (by decide +kernel) rfl)⟩
theorem xl_11_205 : xLok (11, 205, 204) := ⟨by decide, by decide, Or.inl (xg7 83 (by decide +kernel) rfl)⟩
theorem xl_11_208 : xLok (11, 208, 205) := ⟨by decide, by decide, Or.inl (xg7 87 (by decide +kernel) rfl)⟩
theorem xl_11_212 : xLok (11, 212, 206) := ⟨by decide, by decide, Or.inl (xg7 91 (by decide +kernel) rfl)⟩
theorem xl_11_215 : xLok (11, 215, 207) := ⟨by decide, by decide, Or.inl (xg7 95 (by decide +kernel) rfl)⟩
theorem xl_11_219 : xLok (11, 219, 208) := ⟨by decide, by decide, Or.inl (xg7 99 (by decide +kernel) rfl)⟩
theorem xl_11_223 : xLok (11, 223, 209) := ⟨by decide, by decide, Or.inl (xg7 103 (by decide +kernel) rfl)⟩
theorem xl_11_227 : xLok (11, 227, 210) := ⟨by decide, by decide, Or.inl (xg7 107 (by decide +kernel) rfl)⟩
theorem xl_11_231 : xLok (11, 231, 211) := ⟨by decide, by decide, Or.inl (xg7 111 (by decide +kernel) rfl)⟩
theorem xl_11_235 : xLok (11, 235, 212) := ⟨by decide, by decide, Or.inl (xg7 115 (by decide +kernel) rfl)⟩
theorem xl_11_239 : xLok (11, 239, 213) := ⟨by decide, by decide, Or.inl (xg7 119 (by decide +kernel) rfl)⟩
theorem xl_11_243 : xLok (11, 243, 214) := ⟨by decide, by decide, Or.inl (xg7 123 (by decide +kernel) rfl)⟩
theorem xl_11_246 : xLok (11, 246, 215) := ⟨by decide, by decide, Or.inl (xg7 127 (by decide +kernel) rfl)⟩
theorem xl_11_249 : xLok (11, 249, 217) := ⟨by decide, by decide, Or.inl (xg7 135 (by decide +kernel) rfl)⟩
theorem xl_11_252 : xLok (11, 252, 218) := ⟨by decide, by decide, Or.inl (xg7 140 (by decide +kernel) rfl)⟩
theorem xl_11_255 : xLok (11, 255, 220) := ⟨by decide, by decide, Or.inl (xg7 148 (by decide +kernel) rfl)⟩
theorem xl_11_258 : xLok (11, 258, 221) := ⟨by decide, by decide, Or.inl (xg7 152 (by decide +kernel) rfl)⟩
theorem xl_11_262 : xLok (11, 262, 222) := ⟨by decide, by decide, Or.inl (xg7 156 (by decide +kernel) rfl)⟩
theorem xl_11_265 : xLok (11, 265, 223) := ⟨by decide, by decide, Or.inl (xg7 160 (by decide +kernel) rfl)⟩
theorem xl_11_269 : xLok (11, 269, 224) := ⟨by decide, by decide, Or.inl (xg7 164 (by decide +kernel) rfl)⟩
theorem xl_11_274 : xLok (11, 274, 225) := ⟨by decide, by decide, Or.inl (xg7 168 (by decide +kernel) rfl)⟩
theorem xl_11_279 : xLok (11, 279, 227) := ⟨by decide, by decide, Or.inl (xg7 176 (by decide +kernel) rfl)⟩
def xLs_l0 : List (Nat × Nat × Nat) := [(0, 27, 2), (0, 50, 34), (0, 54, 64), (0, 57, 65), (0, 60, 35), (0, 64, 3), (0, 86, 45), (0, 99, 52), (0, 37, 66), (0, 103, 30), (0, 107, 62), (0, 111, 61), (0, 41, 31), (0, 114, 42), (0, 117, 63), (0, 82, 1)]
theorem xLs_b0 : ∀ q ∈ xLs_l0, xLok q := List.forall_mem_cons.mpr ⟨xl_0_27, List.forall_mem_cons.mpr ⟨xl_0_50, List.forall_mem_cons.mpr ⟨xl_0_54, List.forall_mem_cons.mpr ⟨xl_0_57, List.forall_mem_cons.mpr ⟨xl_0_60, List.forall_mem_cons.mpr ⟨xl_0_64, List.forall_mem_cons.mpr ⟨xl_0_86, List.forall_mem_cons.mpr ⟨xl_0_99, List.forall_mem_cons.mpr ⟨xl_0_37, List.forall_mem_cons.mpr ⟨xl_0_103, List.forall_mem_cons.mpr ⟨xl_0_107, List.forall_mem_cons.mpr ⟨xl_0_111, List.forall_mem_cons.mpr ⟨xl_0_41, List.forall_mem_cons.mpr ⟨xl_0_114, List.forall_mem_cons.mpr ⟨xl_0_117, List.forall_mem_cons.mpr ⟨xl_0_82, fun _ h => absurd h List.not_mem_nil⟩⟩⟩⟩⟩⟩⟩⟩⟩⟩⟩⟩⟩⟩⟩⟩
def xLs_l16 : List (Nat × Nat × Nat) := [(0, 120, 46), (0, 67, 4), (0, 123, 75), (0, 128, 47), (0, 132, 5), (0, 47, 67), (0, 70, 6), (0, 135, 37), (0, 73, 7), (0, 139, 38), (0, 142, 39), (0, 76, 68), (0, 79, 36), (1, 24, 51), (1, 33, 73), (1, 56, 78)]
theorem xLs_b16 : ∀ q ∈ xLs_l16, xLok q := List.forall_mem_cons.mpr ⟨xl_0_120, List.forall_mem_cons.mpr ⟨xl_0_67, List.forall_mem_cons.mpr ⟨xl_0_123, List.forall_mem_cons.mpr ⟨xl_0_128, List.forall_mem_cons.mpr ⟨xl_0_132, List.forall_mem_cons.mpr ⟨xl_0_47, List.forall_mem_cons.mpr ⟨xl_0_70, List.forall_mem_cons.mpr ⟨xl_0_135, List.forall_mem_cons.mpr ⟨xl_0_73, List.forall_mem_cons.mpr ⟨xl_0_139, List.forall_mem_cons.mpr ⟨xl_0_142, List.forall_mem_cons.mpr ⟨xl_0_76, List.forall_mem_cons.mpr ⟨xl_0_79, List.forall_mem_cons.mpr ⟨xl_1_24, List.forall_mem_cons.mpr ⟨xl_1_33, List.forall_mem_cons.mpr ⟨xl_1_56, fun _ h => absurd h List.not_mem_nil⟩⟩⟩⟩⟩⟩⟩⟩⟩⟩⟩⟩⟩⟩⟩⟩
def xLs_l32 : List (Nat × Nat × Nat) := [(1, 71, 75), (1, 75, 10), (1, 137, 46), (1, 79, 11), (1, 89, 76), (1, 82, 12), (1, 153, 13), (1, 143, 47), (1, 156, 39), (1, 85, 14), (1, 93, 34), (1, 96, 36), (1, 99, 85), (1, 102, 35), (1, 105, 15), (1, 117, 45)]
theorem xLs_b32 : ∀ q ∈ xLs_l32, xLok q := List.forall_mem_cons.mpr ⟨xl_1_71, List.forall_mem_cons.mpr ⟨xl_1_75, List.forall_mem_cons.mpr ⟨xl_1_137, List.forall_mem_cons.mpr ⟨xl_1_79, List.forall_mem_cons.mpr ⟨xl_1_89, List.forall_mem_cons.mpr ⟨xl_1_82, List.forall_mem_cons.mpr ⟨xl_1_153, List.forall_mem_cons.mpr ⟨xl_1_143, List.forall_mem_cons.mpr ⟨xl_1_156, List.forall_mem_cons.mpr ⟨xl_1_85, List.forall_mem_cons.mpr ⟨xl_1_93, List.forall_mem_cons.mpr ⟨xl_1_96, List.forall_mem_cons.mpr ⟨xl_1_99, List.forall_mem_cons.mpr ⟨xl_1_102, List.forall_mem_cons.mpr ⟨xl_1_105, List.forall_mem_cons.mpr ⟨xl_1_117, fun _ h => absurd h List.not_mem_nil⟩⟩⟩⟩⟩⟩⟩⟩⟩⟩⟩⟩⟩⟩⟩⟩
def xLs_l48 : List (Nat × Nat × Nat) := [(1, 123, 52), (1, 127, 62), (1, 130, 16), (1, 134, 42), (1, 108, 17), (1, 140, 18), (1, 111, 19), (1, 147, 37), (1, 114, 20), (1, 151, 38), (2, 17, 48), (2, 22, 24), (2, 25, 49), (3, 11, 73), (3, 20, 74), (3, 47, 77)]
theorem xLs_b48 : ∀ q ∈ xLs_l48, xLok q := List.forall_mem_cons.mpr ⟨xl_1_123, List.forall_mem_cons.mpr ⟨xl_1_127, List.forall_mem_cons.mpr ⟨xl_1_130, List.forall_mem_cons.mpr ⟨xl_1_134, List.forall_mem_cons.mpr ⟨xl_1_108, List.forall_mem_cons.mpr ⟨xl_1_140, List.forall_mem_cons.mpr ⟨xl_1_111, List.forall_mem_cons.mpr ⟨xl_1_147, List.forall_mem_cons.mpr ⟨xl_1_114, List.forall_mem_cons.mpr ⟨xl_1_151, List.forall_mem_cons.mpr ⟨xl_2_17, List.forall_mem_cons.mpr ⟨xl_2_22, List.forall_mem_cons.mpr ⟨xl_2_25, List.forall_mem_cons.mpr ⟨xl_3_11, List.forall_mem_cons.mpr ⟨xl_3_20, List.forall_mem_cons.mpr ⟨xl_3_47, fun _ h => absurd h List.not_mem_nil⟩⟩⟩⟩⟩⟩⟩⟩⟩⟩⟩⟩⟩⟩⟩⟩
def xLs_l64 : List (Nat × Nat × Nat) := [(3, 51, 28), (3, 55, 30), (4, 11, 26), (4, 20, 40), (4, 27, 73), (4, 34, 29), (4, 37, 41), (4, 63, 45), (4, 70, 75), (4, 73, 76), (4, 77, 113), (4, 81, 36), (4, 47, 79), (4, 84, 74), (4, 93, 44), (5, 11, 73)]
theorem xLs_b64 : ∀ q ∈ xLs_l64, xLok q := List.forall_mem_cons.mpr ⟨xl_3_51, List.forall_mem_cons.mpr ⟨xl_3_55, List.forall_mem_cons.mpr ⟨xl_4_11, List.forall_mem_cons.mpr ⟨xl_4_20, List.forall_mem_cons.mpr ⟨xl_4_27, List.forall_mem_cons.mpr ⟨xl_4_34, List.forall_mem_cons.mpr ⟨xl_4_37, List.forall_mem_cons.mpr ⟨xl_4_63, List.forall_mem_cons.mpr ⟨xl_4_70, List.forall_mem_cons.mpr ⟨xl_4_73, List.forall_mem_cons.mpr ⟨xl_4_77, List.forall_mem_cons.mpr ⟨xl_4_81, List.forall_mem_cons.mpr ⟨xl_4_47, List.forall_mem_cons.mpr ⟨xl_4_84, List.forall_mem_cons.mpr ⟨xl_4_93, List.forall_mem_cons.mpr ⟨xl_5_11, fun _ h => absurd h List.not_mem_nil⟩⟩⟩⟩⟩⟩⟩⟩⟩⟩⟩⟩⟩⟩⟩⟩
def xLs_l80 : List (Nat × Nat × Nat) := [(5, 24, 42), (5, 32, 43), (5, 36, 80), (5, 28, 44), (5, 49, 78), (5, 46, 75), (5, 52, 74), (5, 55, 79), (5, 59, 76), (6, 11, 73), (6, 22, 26), (6, 27, 77), (6, 31, 27), (6, 51, 75), (7, 50, 75), (7, 62, 76)]
theorem xLs_b80 : ∀ q ∈ xLs_l80, xLok q := List.forall_mem_cons.mpr ⟨xl_5_24, List.forall_mem_cons.mpr ⟨xl_5_32, List.forall_mem_cons.mpr ⟨xl_5_36, List.forall_mem_cons.mpr ⟨xl_5_28, List.forall_mem_cons.mpr ⟨xl_5_49, List.forall_mem_cons.mpr ⟨xl_5_46, List.forall_mem_cons.mpr ⟨xl_5_52, List.forall_mem_cons.mpr ⟨xl_5_55, List.forall_mem_cons.mpr ⟨xl_5_59, List.forall_mem_cons.mpr ⟨xl_6_11, List.forall_mem_cons.mpr ⟨xl_6_22, List.forall_mem_cons.mpr ⟨xl_6_27, List.forall_mem_cons.mpr ⟨xl_6_31, List.forall_mem_cons.mpr ⟨xl_6_51, List.forall_mem_cons.mpr ⟨xl_7_50, List.forall_mem_cons.mpr ⟨xl_7_62, fun _ h => absurd h List.not_mem_nil⟩⟩⟩⟩⟩⟩⟩⟩⟩⟩⟩⟩⟩⟩⟩⟩
def xLs_l96 : List (Nat × Nat × Nat) := [(7, 66, 53), (7, 76, 54), (7, 80, 55), (7, 83, 85), (7, 86, 56), (7, 90, 57), (7, 93, 58), (7, 97, 59), (7, 100, 60), (7, 70, 64), (7, 73, 65), (8, 39, 78), (8, 29, 75), (8, 36, 76), (9, 11, 73), (9, 18, 74)]
theorem xLs_b96 : ∀ q ∈ xLs_l96, xLok q := List.forall_mem_cons.mpr ⟨xl_7_66, List.forall_mem_cons.mpr ⟨xl_7_76, List.forall_mem_cons.mpr ⟨xl_7_80, List.forall_mem_cons.mpr ⟨xl_7_83, List.forall_mem_cons.mpr ⟨xl_7_86, List.forall_mem_cons.mpr ⟨xl_7_90, List.forall_mem_cons.mpr ⟨xl_7_93, List.forall_mem_cons.mpr ⟨xl_7_97, List.forall_mem_cons.mpr ⟨xl_7_100, List.forall_mem_cons.mpr ⟨xl_7_70, List.forall_mem_cons.mpr ⟨xl_7_73, List.forall_mem_cons.mpr ⟨xl_8_39, List.forall_mem_cons.mpr ⟨xl_8_29, List.forall_mem_cons.mpr ⟨xl_8_36, List.forall_mem_cons.mpr ⟨xl_9_11, List.forall_mem_cons.mpr ⟨xl_9_18, fun _ h => absurd h List.not_mem_nil⟩⟩⟩⟩⟩⟩⟩⟩⟩⟩⟩⟩⟩⟩⟩⟩
def xLs_l112 : List (Nat × Nat × Nat) := [(9, 27, 51), (9, 36, 32), (9, 43, 0), (9, 52, 8), (9, 59, 48), (9, 69, 21), (9, 92, 75), (9, 96, 52), (9, 100, 61), (9, 104, 62), (9, 250, 49), (9, 188, 87), (9, 247, 22), (9, 255, 93), (9, 260, 101), (9, 272, 102)]
theorem xLs_b112 : ∀ q ∈ xLs_l112, xLok q := List.forall_mem_cons.mpr ⟨xl_9_27, List.forall_mem_cons.mpr ⟨xl_9_36, List.forall_mem_cons.mpr ⟨xl_9_43, List.forall_mem_cons.mpr ⟨xl_9_52, List.forall_mem_cons.mpr ⟨xl_9_59, List.forall_mem_cons.mpr ⟨xl_9_69, List.forall_mem_cons.mpr ⟨xl_9_92, List.forall_mem_cons.mpr ⟨xl_9_96, List.forall_mem_cons.mpr ⟨xl_9_100, List.forall_mem_cons.mpr ⟨xl_9_104, List.forall_mem_cons.mpr ⟨xl_9_250, List.forall_mem_cons.mpr ⟨xl_9_188, List.forall_mem_cons.mpr ⟨xl_9_247, List.forall_mem_cons.mpr ⟨xl_9_255, List.forall_mem_cons.mpr ⟨xl_9_260, List.forall_mem_cons.mpr ⟨xl_9_272, fun _ h => absurd h List.not_mem_nil⟩⟩⟩⟩⟩⟩⟩⟩⟩⟩⟩⟩⟩⟩⟩⟩
def xLs_l128 : List (Nat × Nat × Nat) := [(9, 282, 103), (9, 177, 76), (9, 197, 88), (9, 268, 104), (9, 349, 105), (9, 205, 89), (9, 352, 106), (9, 210, 28), (9, 355, 90), (9, 358, 91), (9, 361, 92), (9, 364, 94), (9, 367, 95), (9, 370, 96), (9, 373, 98), (9, 264, 107)]
theorem xLs_b128 : ∀ q ∈ xLs_l128, xLok q := List.forall_mem_cons.mpr ⟨xl_9_282, List.forall_mem_cons.mpr ⟨xl_9_177, List.forall_mem_cons.mpr ⟨xl_9_197, List.forall_mem_cons.mpr ⟨xl_9_268, List.forall_mem_cons.mpr ⟨xl_9_349, List.forall_mem_cons.mpr ⟨xl_9_205, List.forall_mem_cons.mpr ⟨xl_9_352, List.forall_mem_cons.mpr ⟨xl_9_210, List.forall_mem_cons.mpr ⟨xl_9_355, List.forall_mem_cons.mpr ⟨xl_9_358, List.forall_mem_cons.mpr ⟨xl_9_361, List.forall_mem_cons.mpr ⟨xl_9_364, List.forall_mem_cons.mpr ⟨xl_9_367, List.forall_mem_cons.mpr ⟨xl_9_370, List.forall_mem_cons.mpr ⟨xl_9_373, List.forall_mem_cons.mpr ⟨xl_9_264, fun _ h => absurd h List.not_mem_nil⟩⟩⟩⟩⟩⟩⟩⟩⟩⟩⟩⟩⟩⟩⟩⟩
def xLs_l144 : List (Nat × Nat × Nat) := [(9, 126, 108), (9, 276, 109), (9, 138, 110), (9, 279, 111), (9, 154, 112), (9, 340, 113), (9, 81, 79), (9, 286, 114), (9, 180, 115), (9, 234, 33), (9, 111, 63), (9, 343, 1), (9, 289, 86), (9, 292, 116), (9, 108, 117), (9, 295, 118)]
theorem xLs_b144 : ∀ q ∈ xLs_l144, xLok q := List.forall_mem_cons.mpr ⟨xl_9_126, List.forall_mem_cons.mpr ⟨xl_9_276, List.forall_mem_cons.mpr ⟨xl_9_138, List.forall_mem_cons.mpr ⟨xl_9_279, List.forall_mem_cons.mpr ⟨xl_9_154, List.forall_mem_cons.mpr ⟨xl_9_340, List.forall_mem_cons.mpr ⟨xl_9_81, List.forall_mem_cons.mpr ⟨xl_9_286, List.forall_mem_cons.mpr ⟨xl_9_180, List.forall_mem_cons.mpr ⟨xl_9_234, List.forall_mem_cons.mpr ⟨xl_9_111, List.forall_mem_cons.mpr ⟨xl_9_343, List.forall_mem_cons.mpr ⟨xl_9_289, List.forall_mem_cons.mpr ⟨xl_9_292, List.forall_mem_cons.mpr ⟨xl_9_108, List.forall_mem_cons.mpr ⟨xl_9_295, fun _ h => absurd h List.not_mem_nil⟩⟩⟩⟩⟩⟩⟩⟩⟩⟩⟩⟩⟩⟩⟩⟩
def xLs_l160 : List (Nat × Nat × Nat) := [(9, 114, 69), (9, 298, 119), (9, 117, 70), (9, 301, 120), (9, 120, 71), (9, 304, 121), (9, 123, 72), (9, 307, 122), (9, 310, 123), (9, 237, 9), (9, 313, 124), (9, 316, 84), (9, 319, 99), (9, 323, 125), (9, 78, 127), (9, 134, 23)]
theorem xLs_b160 : ∀ q ∈ xLs_l160, xLok q := List.forall_mem_cons.mpr ⟨xl_9_114, List.forall_mem_cons.mpr ⟨xl_9_298, List.forall_mem_cons.mpr ⟨xl_9_117, List.forall_mem_cons.mpr ⟨xl_9_301, List.forall_mem_cons.mpr ⟨xl_9_120, List.forall_mem_cons.mpr ⟨xl_9_304, List.forall_mem_cons.mpr ⟨xl_9_123, List.forall_mem_cons.mpr ⟨xl_9_307, List.forall_mem_cons.mpr ⟨xl_9_310, List.forall_mem_cons.mpr ⟨xl_9_237, List.forall_mem_cons.mpr ⟨xl_9_313, List.forall_mem_cons.mpr ⟨xl_9_316, List.forall_mem_cons.mpr ⟨xl_9_319, List.forall_mem_cons.mpr ⟨xl_9_323, List.forall_mem_cons.mpr ⟨xl_9_78, List.forall_mem_cons.mpr ⟨xl_9_134, fun _ h => absurd h List.not_mem_nil⟩⟩⟩⟩⟩⟩⟩⟩⟩⟩⟩⟩⟩⟩⟩⟩
def xLs_l176 : List (Nat × Nat × Nat) := [(9, 141, 80), (9, 150, 78), (9, 168, 134), (9, 184, 50), (9, 241, 25), (10, 74, 146), (10, 221, 147), (10, 217, 151), (10, 126, 152), (10, 112, 153), (10, 94, 154), (10, 97, 155), (10, 224, 157), (10, 227, 164), (10, 78, 165), (10, 230, 166)]
theorem xLs_b176 : ∀ q ∈ xLs_l176, xLok q := List.forall_mem_cons.mpr ⟨xl_9_141, List.forall_mem_cons.mpr ⟨xl_9_150, List.forall_mem_cons.mpr ⟨xl_9_168, List.forall_mem_cons.mpr ⟨xl_9_184, List.forall_mem_cons.mpr ⟨xl_9_241, List.forall_mem_cons.mpr ⟨xl_10_74, List.forall_mem_cons.mpr ⟨xl_10_221, List.forall_mem_cons.mpr ⟨xl_10_217, List.forall_mem_cons.mpr ⟨xl_10_126, List.forall_mem_cons.mpr ⟨xl_10_112, List.forall_mem_cons.mpr ⟨xl_10_94, List.forall_mem_cons.mpr ⟨xl_10_97, List.forall_mem_cons.mpr ⟨xl_10_224, List.forall_mem_cons.mpr ⟨xl_10_227, List.forall_mem_cons.mpr ⟨xl_10_78, List.forall_mem_cons.mpr ⟨xl_10_230, fun _ h => absurd h List.not_mem_nil⟩⟩⟩⟩⟩⟩⟩⟩⟩⟩⟩⟩⟩⟩⟩⟩
def xLs_l192 : List (Nat × Nat × Nat) := [(10, 233, 167), (10, 236, 169), (10, 239, 173), (10, 173, 174), (10, 245, 181), (10, 242, 182), (10, 248, 186), (10, 166, 187), (10, 132, 188), (10, 181, 189), (10, 207, 190), (10, 211, 191), (10, 169, 192), (10, 214, 193), (10, 147, 194), (10, 204, 195)]
theorem xLs_b192 : ∀ q ∈ xLs_l192, xLok q := List.forall_mem_cons.mpr ⟨xl_10_233, List.forall_mem_cons.mpr ⟨xl_10_236, List.forall_mem_cons.mpr ⟨xl_10_239, List.forall_mem_cons.mpr ⟨xl_10_173, List.forall_mem_cons.mpr ⟨xl_10_245, List.forall_mem_cons.mpr ⟨xl_10_242, List.forall_mem_cons.mpr ⟨xl_10_248, List.forall_mem_cons.mpr ⟨xl_10_166, List.forall_mem_cons.mpr ⟨xl_10_132, List.forall_mem_cons.mpr ⟨xl_10_181, List.forall_mem_cons.mpr ⟨xl_10_207, List.forall_mem_cons.mpr ⟨xl_10_211, List.forall_mem_cons.mpr ⟨xl_10_169, List.forall_mem_cons.mpr ⟨xl_10_214, List.forall_mem_cons.mpr ⟨xl_10_147, List.forall_mem_cons.mpr ⟨xl_10_204, fun _ h => absurd h List.not_mem_nil⟩⟩⟩⟩⟩⟩⟩⟩⟩⟩⟩⟩⟩⟩⟩⟩
def xLs_l208 : List (Nat × Nat × Nat) := [(10, 188, 196), (10, 191, 197), (10, 177, 198), (10, 195, 199), (10, 198, 200), (10, 185, 201), (10, 251, 216), (10, 254, 215), (10, 257, 219), (10, 263, 226), (10, 279, 228), (10, 285, 229), (10, 288, 230), (10, 291, 231), (11, 106, 81), (11, 119, 82)]
theorem xLs_b208 : ∀ q ∈ xLs_l208, xLok q := List.forall_mem_cons.mpr ⟨xl_10_188, List.forall_mem_cons.mpr ⟨xl_10_191, List.forall_mem_cons.mpr ⟨xl_10_177, List.forall_mem_cons.mpr ⟨xl_10_195, List.forall_mem_cons.mpr ⟨xl_10_198, List.forall_mem_cons.mpr ⟨xl_10_185, List.forall_mem_cons.mpr ⟨xl_10_251, List.forall_mem_cons.mpr ⟨xl_10_254, List.forall_mem_cons.mpr ⟨xl_10_257, List.forall_mem_cons.mpr ⟨xl_10_263, List.forall_mem_cons.mpr ⟨xl_10_279, List.forall_mem_cons.mpr ⟨xl_10_285, List.forall_mem_cons.mpr ⟨xl_10_288, List.forall_mem_cons.mpr ⟨xl_10_291, List.forall_mem_cons.mpr ⟨xl_11_106, List.forall_mem_cons.mpr ⟨xl_11_119, fun _ h => absurd h List.not_mem_nil⟩⟩⟩⟩⟩⟩⟩⟩⟩⟩⟩⟩⟩⟩⟩⟩
def xLs_l224 : List (Nat × Nat × Nat) := [(11, 123, 83), (11, 127, 84), (11, 131, 86), (11, 195, 87), (11, 202, 88), (11, 209, 89), (11, 216, 90), (11, 220, 91), (11, 224, 92), (11, 228, 93), (11, 232, 94), (11, 236, 95), (11, 240, 96), (11, 259, 97), (11, 266, 98), (11, 270, 99)]
theorem xLs_b224 : ∀ q ∈ xLs_l224, xLok q := List.forall_mem_cons.mpr ⟨xl_11_123, List.forall_mem_cons.mpr ⟨xl_11_127, List.forall_mem_cons.mpr ⟨xl_11_131, List.forall_mem_cons.mpr ⟨xl_11_195, List.forall_mem_cons.mpr ⟨xl_11_202, List.forall_mem_cons.mpr ⟨xl_11_209, List.forall_mem_cons.mpr ⟨xl_11_216, List.forall_mem_cons.mpr ⟨xl_11_220, List.forall_mem_cons.mpr ⟨xl_11_224, List.forall_mem_cons.mpr ⟨xl_11_228, List.forall_mem_cons.mpr ⟨xl_11_232, List.forall_mem_cons.mpr ⟨xl_11_236, List.forall_mem_cons.mpr ⟨xl_11_240, List.forall_mem_cons.mpr ⟨xl_11_259, List.forall_mem_cons.mpr ⟨xl_11_266, List.forall_mem_cons.mpr ⟨xl_11_270, fun _ h => absurd h List.not_mem_nil⟩⟩⟩⟩⟩⟩⟩⟩⟩⟩⟩⟩⟩⟩⟩⟩
def xLs_l240 : List (Nat × Nat × Nat) := [(11, 275, 100), (11, 110, 232), (11, 7, 126), (11, 136, 233), (11, 17, 116), (11, 140, 234), (11, 21, 118), (11, 143, 235), (11, 24, 119), (11, 146, 236), (11, 27, 120), (11, 149, 237), (11, 30, 121), (11, 152, 238), (11, 33, 128), (11, 156, 239)]
theorem xLs_b240 : ∀ q ∈ xLs_l240, xLok q := List.forall_mem_cons.mpr ⟨xl_11_275, List.forall_mem_cons.mpr ⟨xl_11_110, List.forall_mem_cons.mpr ⟨xl_11_7, List.forall_mem_cons.mpr ⟨xl_11_136, List.forall_mem_cons.mpr ⟨xl_11_17, List.forall_mem_cons.mpr ⟨xl_11_140, List.forall_mem_cons.mpr ⟨xl_11_21, List.forall_mem_cons.mpr ⟨xl_11_143, List.forall_mem_cons.mpr ⟨xl_11_24, List.forall_mem_cons.mpr ⟨xl_11_146, List.forall_mem_cons.mpr ⟨xl_11_27, List.forall_mem_cons.mpr ⟨xl_11_149, List.forall_mem_cons.mpr ⟨xl_11_30, List.forall_mem_cons.mpr ⟨xl_11_152, List.forall_mem_cons.mpr ⟨xl_11_33, List.forall_mem_cons.mpr ⟨xl_11_156, fun _ h => absurd h List.not_mem_nil⟩⟩⟩⟩⟩⟩⟩⟩⟩⟩⟩⟩⟩⟩⟩⟩
def xLs_l256 : List (Nat × Nat × Nat) := [(11, 39, 129), (11, 159, 240), (11, 42, 130), (11, 162, 241), (11, 45, 131), (11, 165, 242), (11, 48, 132), (11, 168, 243), (11, 51, 133), (11, 171, 244), (11, 54, 135), (11, 174, 245), (11, 57, 107), (11, 177, 246), (11, 61, 136), (11, 180, 247)]
theorem xLs_b256 : ∀ q ∈ xLs_l256, xLok q := List.forall_mem_cons.mpr ⟨xl_11_39, List.forall_mem_cons.mpr ⟨xl_11_159, List.forall_mem_cons.mpr ⟨xl_11_42, List.forall_mem_cons.mpr ⟨xl_11_162, List.forall_mem_cons.mpr ⟨xl_11_45, List.forall_mem_cons.mpr ⟨xl_11_165, List.forall_mem_cons.mpr ⟨xl_11_48, List.forall_mem_cons.mpr ⟨xl_11_168, List.forall_mem_cons.mpr ⟨xl_11_51, List.forall_mem_cons.mpr ⟨xl_11_171, List.forall_mem_cons.mpr ⟨xl_11_54, List.forall_mem_cons.mpr ⟨xl_11_174, List.forall_mem_cons.mpr ⟨xl_11_57, List.forall_mem_cons.mpr ⟨xl_11_177, List.forall_mem_cons.mpr ⟨xl_11_61, List.forall_mem_cons.mpr ⟨xl_11_180, fun _ h => absurd h List.not_mem_nil⟩⟩⟩⟩⟩⟩⟩⟩⟩⟩⟩⟩⟩⟩⟩⟩
def xLs_l272 : List (Nat × Nat × Nat) := [(11, 64, 137), (11, 183, 248), (11, 67, 109), (11, 186, 249), (11, 70, 111), (11, 189, 250), (11, 73, 114), (11, 192, 251), (11, 76, 138), (11, 199, 252), (11, 79, 139), (11, 206, 253), (11, 82, 105), (11, 213, 254), (11, 85, 106), (11, 244, 255)]
theorem xLs_b272 : ∀ q ∈ xLs_l272, xLok q := List.forall_mem_cons.mpr ⟨xl_11_64, List.forall_mem_cons.mpr ⟨xl_11_183, List.forall_mem_cons.mpr ⟨xl_11_67, List.forall_mem_cons.mpr ⟨xl_11_186, List.forall_mem_cons.mpr ⟨xl_11_70, List.forall_mem_cons.mpr ⟨xl_11_189, List.forall_mem_cons.mpr ⟨xl_11_73, List.forall_mem_cons.mpr ⟨xl_11_192, List.forall_mem_cons.mpr ⟨xl_11_76, List.forall_mem_cons.mpr ⟨xl_11_199, List.forall_mem_cons.mpr ⟨xl_11_79, List.forall_mem_cons.mpr ⟨xl_11_206, List.forall_mem_cons.mpr ⟨xl_11_82, List.forall_mem_cons.mpr ⟨xl_11_213, List.forall_mem_cons.mpr ⟨xl_11_85, List.forall_mem_cons.mpr ⟨xl_11_244, fun _ h => absurd h List.not_mem_nil⟩⟩⟩⟩⟩⟩⟩⟩⟩⟩⟩⟩⟩⟩⟩⟩
def xLs_l288 : List (Nat × Nat × Nat) := [(11, 88, 122), (11, 247, 256), (11, 91, 123), (11, 250, 257), (11, 94, 124), (11, 253, 258), (11, 97, 140), (11, 256, 259), (11, 100, 141), (11, 263, 260), (11, 103, 142), (11, 109, 143), (11, 116, 144), (11, 115, 145), (11, 122, 148), (11, 126, 149)]
theorem xLs_b288 : ∀ q ∈ xLs_l288, xLok q := List.forall_mem_cons.mpr ⟨xl_11_88, List.forall_mem_cons.mpr ⟨xl_11_247, List.forall_mem_cons.mpr ⟨xl_11_91, List.forall_mem_cons.mpr ⟨xl_11_250, List.forall_mem_cons.mpr ⟨xl_11_94, List.forall_mem_cons.mpr ⟨xl_11_253, List.forall_mem_cons.mpr ⟨xl_11_97, List.forall_mem_cons.mpr ⟨xl_11_256, List.forall_mem_cons.mpr ⟨xl_11_100, List.forall_mem_cons.mpr ⟨xl_11_263, List.forall_mem_cons.mpr ⟨xl_11_103, List.forall_mem_cons.mpr ⟨xl_11_109, List.forall_mem_cons.mpr ⟨xl_11_116, List.forall_mem_cons.mpr ⟨xl_11_115, List.forall_mem_cons.mpr ⟨xl_11_122, List.forall_mem_cons.mpr ⟨xl_11_126, fun _ h => absurd h List.not_mem_nil⟩⟩⟩⟩⟩⟩⟩⟩⟩⟩⟩⟩⟩⟩⟩⟩
def xLs_l304 : List (Nat × Nat × Nat) := [(11, 130, 150), (11, 135, 156), (11, 139, 158), (11, 142, 159), (11, 145, 160), (11, 148, 161), (11, 151, 162), (11, 155, 163), (11, 158, 168), (11, 161, 170), (11, 164, 171), (11, 167, 172), (11, 170, 175), (11, 173, 176), (11, 176, 177), (11, 179, 178)]
theorem xLs_b304 : ∀ q ∈ xLs_l304, xLok q := List.forall_mem_cons.mpr ⟨xl_11_130, List.forall_mem_cons.mpr ⟨xl_11_135, List.forall_mem_cons.mpr ⟨xl_11_139, List.forall_mem_cons.mpr ⟨xl_11_142, List.forall_mem_cons.mpr ⟨xl_11_145, List.forall_mem_cons.mpr ⟨xl_11_148, List.forall_mem_cons.mpr ⟨xl_11_151, List.forall_mem_cons.mpr ⟨xl_11_155, List.forall_mem_cons.mpr ⟨xl_11_158, List.forall_mem_cons.mpr ⟨xl_11_161, List.forall_mem_cons.mpr ⟨xl_11_164, List.forall_mem_cons.mpr ⟨xl_11_167, List.forall_mem_cons.mpr ⟨xl_11_170, List.forall_mem_cons.mpr ⟨xl_11_173, List.forall_mem_cons.mpr ⟨xl_11_176, List.forall_mem_cons.mpr ⟨xl_11_179, fun _ h => absurd h List.not_mem_nil⟩⟩⟩⟩⟩⟩⟩⟩⟩⟩⟩⟩⟩⟩⟩⟩
def xLs_l320 : List (Nat × Nat × Nat) := [(11, 182, 179), (11, 185, 180), (11, 188, 183), (11, 191, 184), (11, 194, 185), (11, 198, 202), (11, 201, 203), (11, 205, 204), (11, 208, 205), (11, 212, 206), (11, 215, 207), (11, 219, 208), (11, 223, 209), (11, 227, 210), (11, 231, 211), (11, 235, 212)]
theorem xLs_b320 : ∀ q ∈ xLs_l320, xLok q := List.forall_mem_cons.mpr ⟨xl_11_182, List.forall_mem_cons.mpr ⟨xl_11_185, List.forall_mem_cons.mpr ⟨xl_11_188, List.forall_mem_cons.mpr ⟨xl_11_191, List.forall_mem_cons.mpr ⟨xl_11_194, List.forall_mem_cons.mpr ⟨xl_11_198, List.forall_mem_cons.mpr ⟨xl_11_201, List.forall_mem_cons.mpr ⟨xl_11_205, List.forall_mem_cons.mpr ⟨xl_11_208, List.forall_mem_cons.mpr ⟨xl_11_212, List.forall_mem_cons.mpr ⟨xl_11_215, List.forall_mem_cons.mpr ⟨xl_11_219, List.forall_mem_cons.mpr ⟨xl_11_223, List.forall_mem_cons.mpr ⟨xl_11_227, List.forall_mem_cons.mpr ⟨xl_11_231, List.forall_mem_cons.mpr ⟨xl_11_235, fun _ h => absurd h List.not_mem_nil⟩⟩⟩⟩⟩⟩⟩⟩⟩⟩⟩⟩⟩⟩⟩⟩
def xLs_l336 : List (Nat × Nat × Nat) := [(11, 239, 213), (11, 243, 214), (11, 246, 215), (11, 249, 217), (11, 252, 218), (11, 255, 220), (11, 258, 221), (11, 262, 222), (11, 265, 223), (11, 269, 224), (11, 274, 225), (11, 279, 227)]
theorem xLs_b336 : ∀ q ∈ xLs_l336, xLok q := List.forall_mem_cons.mpr ⟨xl_11_239, List.forall_mem_cons.mpr ⟨xl_11_243, List.forall_mem_cons.mpr ⟨xl_11_246, List.forall_mem_cons.mpr ⟨xl_11_249, List.forall_mem_cons.mpr ⟨xl_11_252, List.forall_mem_cons.mpr ⟨xl_11_255, List.forall_mem_cons.mpr ⟨xl_11_258, List.forall_mem_cons.mpr ⟨xl_11_262, List.forall_mem_cons.mpr ⟨xl_11_265, List.forall_mem_cons.mpr ⟨xl_11_269, List.forall_mem_cons.mpr ⟨xl_11_274, List.forall_mem_cons.mpr ⟨xl_11_279, fun _ h => absurd h List.not_mem_nil⟩⟩⟩⟩⟩⟩⟩⟩⟩⟩⟩⟩
def xLs_l : List (Nat × Nat × Nat) := xLs_l0 ++ (xLs_l16 ++ (xLs_l32 ++ (xLs_l48 ++ (xLs_l64 ++ (xLs_l80 ++ (xLs_l96 ++ (xLs_l112 ++ (xLs_l128 ++ (xLs_l144 ++ (xLs_l160 ++ (xLs_l176 ++ (xLs_l192 ++ (xLs_l208 ++ (xLs_l224 ++ (xLs_l240 ++ (xLs_l256 ++ (xLs_l272 ++ (xLs_l288 ++ (xLs_l304 ++ (xLs_l320 ++ (xLs_l336)))))))))))))))))))))
theorem xLs_all : ∀ q ∈ xLs_l, xLok q := List.forall_mem_append.mpr ⟨xLs_b0, List.forall_mem_append.mpr ⟨xLs_b16, List.forall_mem_append.mpr ⟨xLs_b32, List.forall_mem_append.mpr ⟨xLs_b48, List.forall_mem_append.mpr ⟨xLs_b64, List.forall_mem_append.mpr ⟨xLs_b80, List.forall_mem_append.mpr ⟨xLs_b96, List.forall_mem_append.mpr ⟨xLs_b112, List.forall_mem_append.mpr ⟨xLs_b128, List.forall_mem_append.mpr ⟨xLs_b144, List.forall_mem_append.mpr ⟨xLs_b160, List.forall_mem_append.mpr ⟨xLs_b176, List.forall_mem_append.mpr ⟨xLs_b192, List.forall_mem_append.mpr ⟨xLs_b208, List.forall_mem_append.mpr ⟨xLs_b224, List.forall_mem_append.mpr ⟨xLs_b240, List.forall_mem_append.mpr ⟨xLs_b256, List.forall_mem_append.mpr ⟨xLs_b272, List.forall_mem_append.mpr ⟨xLs_b288, List.forall_mem_append.mpr ⟨xLs_b304, List.forall_mem_append.mpr ⟨xLs_b320, xLs_b336⟩⟩⟩⟩⟩⟩⟩⟩⟩⟩⟩⟩⟩⟩⟩⟩⟩⟩⟩⟩⟩
def xLin : Bool := (List.range 14).all (fun own => match xcalT[own]? with
  | some l => l.all (fun q => xLs_l.any (fun r => Nat.beq r.1 own && Nat.beq r.2.1 q.1 && Nat.beq r.2.2 q.2))
  | none => true)
theorem xLin_ok : xLin = true := by decide +kernel
theorem xcal_ok {own i mi' : Nat} (h : xcal own i = some mi') : xLok (own, i, mi') := by
  unfold xcal at h
  cases hl : xcalT[own]? with
  | none => rw [hl] at h; cases h
  | some l =>
    rw [hl] at h
    have hlt : own < xcalT.length := (List.getElem?_eq_some_iff.mp hl).1
    have hlen : xcalT.length = 14 := by decide +kernel
    have h1 := List.all_eq_true.mp xLin_ok own (List.mem_range.mpr (by omega))
    rw [hl] at h1
    have h2 := List.all_eq_true.mp h1 _ (xfin_mem h)
    obtain ⟨r, hr, h3⟩ := List.any_eq_true.mp h2
    simp only [Bool.and_eq_true] at h3
    obtain ⟨⟨e1, e2⟩, e3⟩ := h3
    have h4 := xLs_all r hr
    obtain ⟨r1, r2, r3⟩ := r
    have e1 := Nat.eq_of_beq_eq_true e1
    have e2 := Nat.eq_of_beq_eq_true e2
    have e3 := Nat.eq_of_beq_eq_true e3
    simp only at e1 e2 e3
    subst e1; subst e2; subst e3
    exact h4
end
section
/-! ===== fields, classes, constants, exceptions: what the tables say ===== -/
def xCl (ci : Nat) : String × u_T × Nat := match vwCl[ci]? with
  | some q => q
  | none => ("", TX0, 0)
def xtyF (ci : Nat) : Nat → FieldType := match ci with
  | 0 => tyX0
  | 1 => tyX1
  | 2 => tyX2
  | 3 => tyX3
  | 4 => tyX4
  | 5 => tyX5
  | 6 => tyX6
  | 7 => tyX7
  | 8 => tyX8
  | 9 => tyX9
  | _ => tyX10
def xKd : Nat → FieldType → Prop
  | 0, t => t = .int
  | 1, t => t = .boolean
  | 2, t => ∃ n, t = .object n ∨ ∃ u, t = .array u
  | 3, t => t = .long
  | _, _ => False
def xdv : xV → Value
  | .inl x => .int (Int32.ofInt x)
  | .inr (.inl none) => .null
  | .inr (.inl (some _)) => .int 0
  | .inr (.inr (.inl l)) => .long l
  | .inr (.inr (.inr d)) => .double d
def xCok (ci : Nat) : Prop := vwCl[ci]? = some (xCl ci) ∧ (xCl ci).1 = xRn ci ∧ (∀ w ∈ u_ws (xCl ci).1 (xCl ci).2.1 (xCl ci).2.2, xG w) ∧ (∀ k, k < (xCl ci).2.2 → parseFieldDescriptor ((xCl ci).2.1 k).2.2.1 = some (xtyF ci k)) ∧ (∀ a, a < (xCl ci).2.2 → ∀ b, b < (xCl ci).2.2 → a ≠ b → ((xCl ci).2.1 a).2.1 ≠ ((xCl ci).2.1 b).2.1) ∧ (xdf ci).length = (xCl ci).2.2 ∧ xG (.instantiable (xCl ci).1 (xCl ci).2.2) ∧ xG (.initialized (xCl ci).1) ∧ (∀ k, k < (xCl ci).2.2 → ((xCl ci).2.1 k).1 = (xCl ci).1) ∧ (∀ k, k < (xCl ci).2.2 → ((xdf ci)[k]?).map xdv = some (defaultValue (xtyF ci k)))
theorem xc_0 : xCok 0 := ⟨rfl, rfl, List.forall_mem_cons.mpr ⟨xg1 203 (by decide +kernel) rfl, List.forall_mem_cons.mpr ⟨xg1 205 (by decide +kernel) rfl, List.forall_mem_cons.mpr ⟨xg1 207 (by decide +kernel) rfl, fun _ h => absurd h List.not_mem_nil⟩⟩⟩, tyX0_ok, nmX0, rfl, xg1 195 (by decide +kernel) rfl, xg1 8 (by decide +kernel) rfl, by decide +kernel, by decide +kernel⟩
theorem xc_1 : xCok 1 := ⟨rfl, rfl, List.forall_mem_cons.mpr ⟨xg1 232 (by decide +kernel) rfl, List.forall_mem_cons.mpr ⟨xg1 234 (by decide +kernel) rfl, List.forall_mem_cons.mpr ⟨xg1 236 (by decide +kernel) rfl, List.forall_mem_cons.mpr ⟨xg1 238 (by decide +kernel) rfl, List.forall_mem_cons.mpr ⟨xg2 0 (by decide +kernel) rfl, List.forall_mem_cons.mpr ⟨xg2 2 (by decide +kernel) rfl, List.forall_mem_cons.mpr ⟨xg2 4 (by decide +kernel) rfl, List.forall_mem_cons.mpr ⟨xg2 6 (by decide +kernel) rfl, List.forall_mem_cons.mpr ⟨xg2 8 (by decide +kernel) rfl, List.forall_mem_cons.mpr ⟨xg2 10 (by decide +kernel) rfl, List.forall_mem_cons.mpr ⟨xg2 12 (by decide +kernel) rfl, List.forall_mem_cons.mpr ⟨xg2 14 (by decide +kernel) rfl, fun _ h => absurd h List.not_mem_nil⟩⟩⟩⟩⟩⟩⟩⟩⟩⟩⟩⟩, tyX1_ok, nmX1, rfl, xg1 211 (by decide +kernel) rfl, xg1 9 (by decide +kernel) rfl, by decide +kernel, by decide +kernel⟩
theorem xc_2 : xCok 2 := ⟨rfl, rfl, List.forall_mem_cons.mpr ⟨xg2 59 (by decide +kernel) rfl, List.forall_mem_cons.mpr ⟨xg2 61 (by decide +kernel) rfl, fun _ h => absurd h List.not_mem_nil⟩⟩, tyX2_ok, nmX2, rfl, xg2 49 (by decide +kernel) rfl, xg1 11 (by decide +kernel) rfl, by decide +kernel, by decide +kernel⟩
theorem xc_3 : xCok 3 := ⟨rfl, rfl, List.forall_mem_cons.mpr ⟨xg1 140 (by decide +kernel) rfl, List.forall_mem_cons.mpr ⟨xg1 142 (by decide +kernel) rfl, List.forall_mem_cons.mpr ⟨xg1 144 (by decide +kernel) rfl, List.forall_mem_cons.mpr ⟨xg1 146 (by decide +kernel) rfl, List.forall_mem_cons.mpr ⟨xg1 148 (by decide +kernel) rfl, List.forall_mem_cons.mpr ⟨xg1 150 (by decide +kernel) rfl, List.forall_mem_cons.mpr ⟨xg1 152 (by decide +kernel) rfl, List.forall_mem_cons.mpr ⟨xg1 154 (by decide +kernel) rfl, fun _ h => absurd h List.not_mem_nil⟩⟩⟩⟩⟩⟩⟩⟩, tyX3_ok, nmX3, rfl, xg1 110 (by decide +kernel) rfl, xg1 6 (by decide +kernel) rfl, by decide +kernel, by decide +kernel⟩
theorem xc_4 : xCok 4 := ⟨rfl, rfl, List.forall_mem_cons.mpr ⟨xg1 185 (by decide +kernel) rfl, List.forall_mem_cons.mpr ⟨xg1 187 (by decide +kernel) rfl, List.forall_mem_cons.mpr ⟨xg1 189 (by decide +kernel) rfl, List.forall_mem_cons.mpr ⟨xg1 191 (by decide +kernel) rfl, fun _ h => absurd h List.not_mem_nil⟩⟩⟩⟩, tyX4_ok, nmX4, rfl, xg1 104 (by decide +kernel) rfl, xg1 5 (by decide +kernel) rfl, by decide +kernel, by decide +kernel⟩
theorem xc_5 : xCok 5 := ⟨rfl, rfl, List.forall_mem_cons.mpr ⟨xg1 170 (by decide +kernel) rfl, List.forall_mem_cons.mpr ⟨xg1 172 (by decide +kernel) rfl, fun _ h => absurd h List.not_mem_nil⟩⟩, tyX5_ok, nmX5, rfl, xg1 158 (by decide +kernel) rfl, xg1 7 (by decide +kernel) rfl, by decide +kernel, by decide +kernel⟩
theorem xc_6 : xCok 6 := ⟨rfl, rfl, List.forall_mem_cons.mpr ⟨xg2 37 (by decide +kernel) rfl, List.forall_mem_cons.mpr ⟨xg2 39 (by decide +kernel) rfl, List.forall_mem_cons.mpr ⟨xg2 41 (by decide +kernel) rfl, List.forall_mem_cons.mpr ⟨xg2 43 (by decide +kernel) rfl, List.forall_mem_cons.mpr ⟨xg2 45 (by decide +kernel) rfl, fun _ h => absurd h List.not_mem_nil⟩⟩⟩⟩⟩, tyX6_ok, nmX6, rfl, xg2 18 (by decide +kernel) rfl, xg1 10 (by decide +kernel) rfl, by decide +kernel, by decide +kernel⟩
theorem xc_7 : xCok 7 := ⟨rfl, rfl, List.forall_mem_cons.mpr ⟨xg1 74 (by decide +kernel) rfl, List.forall_mem_cons.mpr ⟨xg1 76 (by decide +kernel) rfl, List.forall_mem_cons.mpr ⟨xg1 78 (by decide +kernel) rfl, List.forall_mem_cons.mpr ⟨xg1 80 (by decide +kernel) rfl, List.forall_mem_cons.mpr ⟨xg1 82 (by decide +kernel) rfl, List.forall_mem_cons.mpr ⟨xg1 84 (by decide +kernel) rfl, List.forall_mem_cons.mpr ⟨xg1 86 (by decide +kernel) rfl, List.forall_mem_cons.mpr ⟨xg1 88 (by decide +kernel) rfl, List.forall_mem_cons.mpr ⟨xg1 90 (by decide +kernel) rfl, List.forall_mem_cons.mpr ⟨xg1 92 (by decide +kernel) rfl, List.forall_mem_cons.mpr ⟨xg1 94 (by decide +kernel) rfl, List.forall_mem_cons.mpr ⟨xg1 96 (by decide +kernel) rfl, List.forall_mem_cons.mpr ⟨xg1 98 (by decide +kernel) rfl, List.forall_mem_cons.mpr ⟨xg1 100 (by decide +kernel) rfl, fun _ h => absurd h List.not_mem_nil⟩⟩⟩⟩⟩⟩⟩⟩⟩⟩⟩⟩⟩⟩, tyX7_ok, nmX7, rfl, xg1 53 (by decide +kernel) rfl, xg1 4 (by decide +kernel) rfl, by decide +kernel, by decide +kernel⟩
theorem xc_8 : xCok 8 := ⟨rfl, rfl, List.forall_mem_cons.mpr ⟨xg1 39 (by decide +kernel) rfl, List.forall_mem_cons.mpr ⟨xg1 41 (by decide +kernel) rfl, List.forall_mem_cons.mpr ⟨xg1 43 (by decide +kernel) rfl, fun _ h => absurd h List.not_mem_nil⟩⟩⟩, tyX8_ok, nmX8, rfl, xg1 28 (by decide +kernel) rfl, xg1 2 (by decide +kernel) rfl, by decide +kernel, by decide +kernel⟩
theorem xc_9 : xCok 9 := ⟨rfl, rfl, List.forall_mem_cons.mpr ⟨xg2 74 (by decide +kernel) rfl, List.forall_mem_cons.mpr ⟨xg2 76 (by decide +kernel) rfl, List.forall_mem_cons.mpr ⟨xg2 78 (by decide +kernel) rfl, List.forall_mem_cons.mpr ⟨xg2 80 (by decide +kernel) rfl, List.forall_mem_cons.mpr ⟨xg2 82 (by decide +kernel) rfl, List.forall_mem_cons.mpr ⟨xg2 84 (by decide +kernel) rfl, List.forall_mem_cons.mpr ⟨xg2 86 (by decide +kernel) rfl, List.forall_mem_cons.mpr ⟨xg2 88 (by decide +kernel) rfl, List.forall_mem_cons.mpr ⟨xg2 90 (by decide +kernel) rfl, List.forall_mem_cons.mpr ⟨xg2 92 (by decide +kernel) rfl, fun _ h => absurd h List.not_mem_nil⟩⟩⟩⟩⟩⟩⟩⟩⟩⟩, tyX9_ok, nmX9, rfl, xg1 20 (by decide +kernel) rfl, xg1 1 (by decide +kernel) rfl, by decide +kernel, by decide +kernel⟩
theorem xc_10 : xCok 10 := ⟨rfl, rfl, List.forall_mem_cons.mpr ⟨xg5 237 (by decide +kernel) rfl, List.forall_mem_cons.mpr ⟨xg5 239 (by decide +kernel) rfl, List.forall_mem_cons.mpr ⟨xg6 1 (by decide +kernel) rfl, List.forall_mem_cons.mpr ⟨xg6 3 (by decide +kernel) rfl, List.forall_mem_cons.mpr ⟨xg6 5 (by decide +kernel) rfl, List.forall_mem_cons.mpr ⟨xg6 7 (by decide +kernel) rfl, List.forall_mem_cons.mpr ⟨xg6 9 (by decide +kernel) rfl, List.forall_mem_cons.mpr ⟨xg6 11 (by decide +kernel) rfl, List.forall_mem_cons.mpr ⟨xg6 13 (by decide +kernel) rfl, List.forall_mem_cons.mpr ⟨xg6 15 (by decide +kernel) rfl, List.forall_mem_cons.mpr ⟨xg6 17 (by decide +kernel) rfl, List.forall_mem_cons.mpr ⟨xg6 19 (by decide +kernel) rfl, List.forall_mem_cons.mpr ⟨xg6 21 (by decide +kernel) rfl, List.forall_mem_cons.mpr ⟨xg6 23 (by decide +kernel) rfl, List.forall_mem_cons.mpr ⟨xg6 25 (by decide +kernel) rfl, List.forall_mem_cons.mpr ⟨xg6 27 (by decide +kernel) rfl, List.forall_mem_cons.mpr ⟨xg6 29 (by decide +kernel) rfl, List.forall_mem_cons.mpr ⟨xg6 31 (by decide +kernel) rfl, List.forall_mem_cons.mpr ⟨xg6 33 (by decide +kernel) rfl, List.forall_mem_cons.mpr ⟨xg6 35 (by decide +kernel) rfl, List.forall_mem_cons.mpr ⟨xg6 37 (by decide +kernel) rfl, List.forall_mem_cons.mpr ⟨xg6 39 (by decide +kernel) rfl, List.forall_mem_cons.mpr ⟨xg6 41 (by decide +kernel) rfl, List.forall_mem_cons.mpr ⟨xg6 43 (by decide +kernel) rfl, List.forall_mem_cons.mpr ⟨xg6 45 (by decide +kernel) rfl, List.forall_mem_cons.mpr ⟨xg6 47 (by decide +kernel) rfl, List.forall_mem_cons.mpr ⟨xg6 49 (by decide +kernel) rfl, List.forall_mem_cons.mpr ⟨xg6 51 (by decide +kernel) rfl, List.forall_mem_cons.mpr ⟨xg6 53 (by decide +kernel) rfl, List.forall_mem_cons.mpr ⟨xg6 55 (by decide +kernel) rfl, List.forall_mem_cons.mpr ⟨xg6 57 (by decide +kernel) rfl, List.forall_mem_cons.mpr ⟨xg6 59 (by decide +kernel) rfl, List.forall_mem_cons.mpr ⟨xg6 61 (by decide +kernel) rfl, List.forall_mem_cons.mpr ⟨xg6 63 (by decide +kernel) rfl, List.forall_mem_cons.mpr ⟨xg6 65 (by decide +kernel) rfl, List.forall_mem_cons.mpr ⟨xg6 67 (by decide +kernel) rfl, List.forall_mem_cons.mpr ⟨xg6 69 (by decide +kernel) rfl, List.forall_mem_cons.mpr ⟨xg6 71 (by decide +kernel) rfl, List.forall_mem_cons.mpr ⟨xg6 73 (by decide +kernel) rfl, List.forall_mem_cons.mpr ⟨xg6 75 (by decide +kernel) rfl, List.forall_mem_cons.mpr ⟨xg6 77 (by decide +kernel) rfl, List.forall_mem_cons.mpr ⟨xg6 79 (by decide +kernel) rfl, List.forall_mem_cons.mpr ⟨xg6 81 (by decide +kernel) rfl, List.forall_mem_cons.mpr ⟨xg6 83 (by decide +kernel) rfl, List.forall_mem_cons.mpr ⟨xg6 85 (by decide +kernel) rfl, fun _ h => absurd h List.not_mem_nil⟩⟩⟩⟩⟩⟩⟩⟩⟩⟩⟩⟩⟩⟩⟩⟩⟩⟩⟩⟩⟩⟩⟩⟩⟩⟩⟩⟩⟩⟩⟩⟩⟩⟩⟩⟩⟩⟩⟩⟩⟩⟩⟩⟩⟩, tyX10_ok, nmX10, rfl, xg5 187 (by decide +kernel) rfl, xg1 12 (by decide +kernel) rfl, by decide +kernel, by decide +kernel⟩
theorem xCall {ci : Nat} (h : ci < 11) : xCok ci := by
  match ci, h with
  | 0, _ => exact xc_0
  | 1, _ => exact xc_1
  | 2, _ => exact xc_2
  | 3, _ => exact xc_3
  | 4, _ => exact xc_4
  | 5, _ => exact xc_5
  | 6, _ => exact xc_6
  | 7, _ => exact xc_7
  | 8, _ => exact xc_8
  | 9, _ => exact xc_9
  | 10, _ => exact xc_10
def xFok (q : Nat × Nat × Nat × Nat × Nat × Nat) : Prop := q.2.2.1 < 11 ∧ q.2.2.2.1 < (xCl q.2.2.1).2.2 ∧ xKd q.2.2.2.2.1 (xtyF q.2.2.1 q.2.2.2.1) ∧ ((q.2.2.2.2.2 = 0 ∧ ((xCl q.2.2.1).2.1 q.2.2.2.1).2.2.2 = false) ∨ (q.2.2.2.2.2 = 1 ∧ ((xCl q.2.2.1).2.1 q.2.2.2.1).2.2.2 = true)) ∧ (xG (.fieldLink (xRn q.1) q.2.1 (xCl q.2.2.1).1 ((xCl q.2.2.1).2.1 q.2.2.2.1).2.1 ((xCl q.2.2.1).2.1 q.2.2.2.1).2.2.1) ∨ (Cond.fieldLinkNest (xRn q.1) q.2.1 (xCl q.2.2.1).1 ((xCl q.2.2.1).2.1 q.2.2.2.1).2.1 ((xCl q.2.2.1).2.1 q.2.2.2.1).2.2.1 "TemplateScopes" ∈ lw_tbl ∧ q.2.2.2.2.2 = 0 ∨ Cond.fieldLinkNest (xRn q.1) q.2.1 (xCl q.2.2.1).1 ((xCl q.2.2.1).2.1 q.2.2.2.1).2.1 ((xCl q.2.2.1).2.1 q.2.2.2.1).2.2.1 "TemplateScopes" ∈ lw_tbl ∧ q.1 ≠ q.2.2.1))
theorem xf_0_31 : xFok (0, 31, 7, 0, 0, 1) := ⟨by decide, by decide, rfl, Or.inr ⟨rfl, rfl⟩, Or.inr (Or.inr ⟨(xh1 59 (by decide +kernel)), by decide⟩)⟩
theorem xf_0_91 : xFok (0, 91, 7, 1, 2, 1) := ⟨by decide, by decide, ⟨_, Or.inl rfl⟩, Or.inr ⟨rfl, rfl⟩, Or.inr (Or.inr ⟨(xh1 61 (by decide +kernel)), by decide⟩)⟩
theorem xf_0_95 : xFok (0, 95, 5, 0, 2, 1) := ⟨by decide, by decide, ⟨_, Or.inl rfl⟩, Or.inr ⟨rfl, rfl⟩, Or.inr (Or.inr ⟨(xh1 168 (by decide +kernel)), by decide⟩)⟩
theorem xf_0_22 : xFok (0, 22, 4, 0, 2, 1) := ⟨by decide, by decide, ⟨_, Or.inl rfl⟩, Or.inr ⟨rfl, rfl⟩, Or.inr (Or.inr ⟨(xh1 178 (by decide +kernel)), by decide⟩)⟩
theorem xf_0_15 : xFok (0, 15, 4, 1, 2, 1) := ⟨by decide, by decide, ⟨_, Or.inl rfl⟩, Or.inr ⟨rfl, rfl⟩, Or.inr (Or.inr ⟨(xh1 180 (by decide +kernel)), by decide⟩)⟩
theorem xf_0_9 : xFok (0, 9, 0, 0, 2, 1) := ⟨by decide, by decide, ⟨_, Or.inl rfl⟩, Or.inr ⟨rfl, rfl⟩, Or.inl (xg1 200 (by decide +kernel) rfl)⟩
theorem xf_0_21 : xFok (0, 21, 0, 1, 2, 1) := ⟨by decide, by decide, ⟨_, Or.inl rfl⟩, Or.inr ⟨rfl, rfl⟩, Or.inl (xg1 201 (by decide +kernel) rfl)⟩
theorem xf_0_26 : xFok (0, 26, 0, 2, 2, 1) := ⟨by decide, by decide, ⟨_, Or.inl rfl⟩, Or.inr ⟨rfl, rfl⟩, Or.inl (xg1 202 (by decide +kernel) rfl)⟩
theorem xf_1_122 : xFok (1, 122, 5, 0, 2, 1) := ⟨by decide, by decide, ⟨_, Or.inl rfl⟩, Or.inr ⟨rfl, rfl⟩, Or.inr (Or.inr ⟨(xh1 167 (by decide +kernel)), by decide⟩)⟩
theorem xf_1_15 : xFok (1, 15, 4, 1, 2, 1) := ⟨by decide, by decide, ⟨_, Or.inl rfl⟩, Or.inr ⟨rfl, rfl⟩, Or.inr (Or.inr ⟨(xh1 181 (by decide +kernel)), by decide⟩)⟩
theorem xf_1_9 : xFok (1, 9, 1, 0, 2, 1) := ⟨by decide, by decide, ⟨_, Or.inl rfl⟩, Or.inr ⟨rfl, rfl⟩, Or.inl (xg1 220 (by decide +kernel) rfl)⟩
theorem xf_1_21 : xFok (1, 21, 1, 1, 2, 1) := ⟨by decide, by decide, ⟨_, Or.inl rfl⟩, Or.inr ⟨rfl, rfl⟩, Or.inl (xg1 221 (by decide +kernel) rfl)⟩
theorem xf_1_27 : xFok (1, 27, 1, 2, 2, 1) := ⟨by decide, by decide, ⟨_, Or.inl rfl⟩, Or.inr ⟨rfl, rfl⟩, Or.inl (xg1 222 (by decide +kernel) rfl)⟩
theorem xf_1_36 : xFok (1, 36, 1, 3, 2, 1) := ⟨by decide, by decide, ⟨_, Or.inl rfl⟩, Or.inr ⟨rfl, rfl⟩, Or.inl (xg1 223 (by decide +kernel) rfl)⟩
theorem xf_1_60 : xFok (1, 60, 1, 4, 0, 0) := ⟨by decide, by decide, rfl, Or.inl ⟨rfl, rfl⟩, Or.inl (xg1 224 (by decide +kernel) rfl)⟩
theorem xf_1_64 : xFok (1, 64, 1, 5, 0, 0) := ⟨by decide, by decide, rfl, Or.inl ⟨rfl, rfl⟩, Or.inl (xg1 225 (by decide +kernel) rfl)⟩
theorem xf_1_40 : xFok (1, 40, 1, 6, 2, 1) := ⟨by decide, by decide, ⟨"", Or.inr ⟨_, rfl⟩⟩, Or.inr ⟨rfl, rfl⟩, Or.inl (xg1 226 (by decide +kernel) rfl)⟩
theorem xf_1_44 : xFok (1, 44, 1, 7, 2, 1) := ⟨by decide, by decide, ⟨"", Or.inr ⟨_, rfl⟩⟩, Or.inr ⟨rfl, rfl⟩, Or.inl (xg1 227 (by decide +kernel) rfl)⟩
theorem xf_1_47 : xFok (1, 47, 1, 8, 2, 1) := ⟨by decide, by decide, ⟨"", Or.inr ⟨_, rfl⟩⟩, Or.inr ⟨rfl, rfl⟩, Or.inl (xg1 228 (by decide +kernel) rfl)⟩
theorem xf_1_50 : xFok (1, 50, 1, 9, 2, 1) := ⟨by decide, by decide, ⟨"", Or.inr ⟨_, rfl⟩⟩, Or.inr ⟨rfl, rfl⟩, Or.inl (xg1 229 (by decide +kernel) rfl)⟩
theorem xf_1_53 : xFok (1, 53, 1, 10, 2, 1) := ⟨by decide, by decide, ⟨"", Or.inr ⟨_, rfl⟩⟩, Or.inr ⟨rfl, rfl⟩, Or.inl (xg1 230 (by decide +kernel) rfl)⟩
theorem xf_1_67 : xFok (1, 67, 1, 11, 0, 0) := ⟨by decide, by decide, rfl, Or.inl ⟨rfl, rfl⟩, Or.inl (xg1 231 (by decide +kernel) rfl)⟩
theorem xf_2_11 : xFok (2, 11, 2, 0, 2, 1) := ⟨by decide, by decide, ⟨"", Or.inr ⟨_, rfl⟩⟩, Or.inr ⟨rfl, rfl⟩, Or.inl (xg2 57 (by decide +kernel) rfl)⟩
theorem xf_2_18 : xFok (2, 18, 2, 1, 0, 0) := ⟨by decide, by decide, rfl, Or.inl ⟨rfl, rfl⟩, Or.inl (xg2 58 (by decide +kernel) rfl)⟩
theorem xf_3_14 : xFok (3, 14, 3, 0, 2, 1) := ⟨by decide, by decide, ⟨_, Or.inl rfl⟩, Or.inr ⟨rfl, rfl⟩, Or.inl (xg1 118 (by decide +kernel) rfl)⟩
theorem xf_3_24 : xFok (3, 24, 3, 1, 2, 1) := ⟨by decide, by decide, ⟨"", Or.inr ⟨_, rfl⟩⟩, Or.inr ⟨rfl, rfl⟩, Or.inl (xg1 122 (by decide +kernel) rfl)⟩
theorem xf_3_28 : xFok (3, 28, 3, 2, 0, 0) := ⟨by decide, by decide, rfl, Or.inl ⟨rfl, rfl⟩, Or.inl (xg1 123 (by decide +kernel) rfl)⟩
theorem xf_3_32 : xFok (3, 32, 3, 3, 0, 0) := ⟨by decide, by decide, rfl, Or.inl ⟨rfl, rfl⟩, Or.inl (xg1 125 (by decide +kernel) rfl)⟩
theorem xf_3_35 : xFok (3, 35, 3, 4, 0, 0) := ⟨by decide, by decide, rfl, Or.inl ⟨rfl, rfl⟩, Or.inl (xg1 128 (by decide +kernel) rfl)⟩
theorem xf_3_38 : xFok (3, 38, 3, 5, 0, 0) := ⟨by decide, by decide, rfl, Or.inl ⟨rfl, rfl⟩, Or.inl (xg1 131 (by decide +kernel) rfl)⟩
theorem xf_3_41 : xFok (3, 41, 3, 6, 0, 0) := ⟨by decide, by decide, rfl, Or.inl ⟨rfl, rfl⟩, Or.inl (xg1 134 (by decide +kernel) rfl)⟩
theorem xf_3_44 : xFok (3, 44, 3, 7, 0, 0) := ⟨by decide, by decide, rfl, Or.inl ⟨rfl, rfl⟩, Or.inl (xg1 137 (by decide +kernel) rfl)⟩
theorem xf_4_51 : xFok (4, 51, 3, 0, 2, 1) := ⟨by decide, by decide, ⟨_, Or.inl rfl⟩, Or.inr ⟨rfl, rfl⟩, Or.inr (Or.inr ⟨(xh1 120 (by decide +kernel)), by decide⟩)⟩
theorem xf_4_44 : xFok (4, 44, 3, 4, 0, 0) := ⟨by decide, by decide, rfl, Or.inl ⟨rfl, rfl⟩, Or.inr (Or.inl ⟨(xh1 129 (by decide +kernel)), rfl⟩)⟩
theorem xf_4_54 : xFok (4, 54, 3, 5, 0, 0) := ⟨by decide, by decide, rfl, Or.inl ⟨rfl, rfl⟩, Or.inr (Or.inl ⟨(xh1 132 (by decide +kernel)), rfl⟩)⟩
theorem xf_4_57 : xFok (4, 57, 3, 6, 0, 0) := ⟨by decide, by decide, rfl, Or.inl ⟨rfl, rfl⟩, Or.inr (Or.inl ⟨(xh1 135 (by decide +kernel)), rfl⟩)⟩
theorem xf_4_60 : xFok (4, 60, 3, 7, 0, 0) := ⟨by decide, by decide, rfl, Or.inl ⟨rfl, rfl⟩, Or.inr (Or.inl ⟨(xh1 138 (by decide +kernel)), rfl⟩)⟩
theorem xf_4_67 : xFok (4, 67, 5, 0, 2, 1) := ⟨by decide, by decide, ⟨_, Or.inl rfl⟩, Or.inr ⟨rfl, rfl⟩, Or.inr (Or.inr ⟨(xh1 166 (by decide +kernel)), by decide⟩)⟩
theorem xf_4_12 : xFok (4, 12, 4, 0, 2, 1) := ⟨by decide, by decide, ⟨_, Or.inl rfl⟩, Or.inr ⟨rfl, rfl⟩, Or.inl (xg1 177 (by decide +kernel) rfl)⟩
theorem xf_4_21 : xFok (4, 21, 4, 1, 2, 1) := ⟨by decide, by decide, ⟨_, Or.inl rfl⟩, Or.inr ⟨rfl, rfl⟩, Or.inl (xg1 182 (by decide +kernel) rfl)⟩
theorem xf_4_30 : xFok (4, 30, 4, 2, 2, 1) := ⟨by decide, by decide, ⟨_, Or.inl rfl⟩, Or.inr ⟨rfl, rfl⟩, Or.inl (xg1 183 (by decide +kernel) rfl)⟩
theorem xf_4_40 : xFok (4, 40, 4, 3, 0, 0) := ⟨by decide, by decide, rfl, Or.inl ⟨rfl, rfl⟩, Or.inl (xg1 184 (by decide +kernel) rfl)⟩
theorem xf_5_14 : xFok (5, 14, 5, 0, 2, 1) := ⟨by decide, by decide, ⟨_, Or.inl rfl⟩, Or.inr ⟨rfl, rfl⟩, Or.inl (xg1 165 (by decide +kernel) rfl)⟩
theorem xf_5_20 : xFok (5, 20, 5, 1, 0, 0) := ⟨by decide, by decide, rfl, Or.inl ⟨rfl, rfl⟩, Or.inl (xg1 169 (by decide +kernel) rfl)⟩
theorem xf_6_48 : xFok (6, 48, 3, 0, 2, 1) := ⟨by decide, by decide, ⟨_, Or.inl rfl⟩, Or.inr ⟨rfl, rfl⟩, Or.inr (Or.inr ⟨(xh1 119 (by decide +kernel)), by decide⟩)⟩
theorem xf_6_45 : xFok (6, 45, 3, 3, 0, 0) := ⟨by decide, by decide, rfl, Or.inl ⟨rfl, rfl⟩, Or.inr (Or.inl ⟨(xh1 126 (by decide +kernel)), rfl⟩)⟩
theorem xf_6_14 : xFok (6, 14, 6, 0, 2, 1) := ⟨by decide, by decide, ⟨_, Or.inl rfl⟩, Or.inr ⟨rfl, rfl⟩, Or.inl (xg2 27 (by decide +kernel) rfl)⟩
theorem xf_6_23 : xFok (6, 23, 6, 1, 2, 1) := ⟨by decide, by decide, ⟨_, Or.inl rfl⟩, Or.inr ⟨rfl, rfl⟩, Or.inl (xg2 29 (by decide +kernel) rfl)⟩
theorem xf_6_35 : xFok (6, 35, 6, 2, 0, 0) := ⟨by decide, by decide, rfl, Or.inl ⟨rfl, rfl⟩, Or.inl (xg2 31 (by decide +kernel) rfl)⟩
theorem xf_6_39 : xFok (6, 39, 6, 3, 0, 0) := ⟨by decide, by decide, rfl, Or.inl ⟨rfl, rfl⟩, Or.inl (xg2 33 (by decide +kernel) rfl)⟩
theorem xf_6_42 : xFok (6, 42, 6, 4, 0, 0) := ⟨by decide, by decide, rfl, Or.inl ⟨rfl, rfl⟩, Or.inl (xg2 35 (by decide +kernel) rfl)⟩
theorem xf_7_9 : xFok (7, 9, 7, 0, 0, 1) := ⟨by decide, by decide, rfl, Or.inr ⟨rfl, rfl⟩, Or.inl (xg1 58 (by decide +kernel) rfl)⟩
theorem xf_7_15 : xFok (7, 15, 7, 1, 2, 1) := ⟨by decide, by decide, ⟨_, Or.inl rfl⟩, Or.inr ⟨rfl, rfl⟩, Or.inl (xg1 60 (by decide +kernel) rfl)⟩
theorem xf_7_19 : xFok (7, 19, 7, 2, 2, 1) := ⟨by decide, by decide, ⟨"", Or.inr ⟨_, rfl⟩⟩, Or.inr ⟨rfl, rfl⟩, Or.inl (xg1 62 (by decide +kernel) rfl)⟩
theorem xf_7_23 : xFok (7, 23, 7, 3, 2, 1) := ⟨by decide, by decide, ⟨"", Or.inr ⟨_, rfl⟩⟩, Or.inr ⟨rfl, rfl⟩, Or.inl (xg1 63 (by decide +kernel) rfl)⟩
theorem xf_7_26 : xFok (7, 26, 7, 4, 2, 1) := ⟨by decide, by decide, ⟨"", Or.inr ⟨_, rfl⟩⟩, Or.inr ⟨rfl, rfl⟩, Or.inl (xg1 64 (by decide +kernel) rfl)⟩
theorem xf_7_29 : xFok (7, 29, 7, 5, 2, 1) := ⟨by decide, by decide, ⟨"", Or.inr ⟨_, rfl⟩⟩, Or.inr ⟨rfl, rfl⟩, Or.inl (xg1 65 (by decide +kernel) rfl)⟩
theorem xf_7_32 : xFok (7, 32, 7, 6, 2, 1) := ⟨by decide, by decide, ⟨"", Or.inr ⟨_, rfl⟩⟩, Or.inr ⟨rfl, rfl⟩, Or.inl (xg1 66 (by decide +kernel) rfl)⟩
theorem xf_7_35 : xFok (7, 35, 7, 7, 2, 1) := ⟨by decide, by decide, ⟨"", Or.inr ⟨_, rfl⟩⟩, Or.inr ⟨rfl, rfl⟩, Or.inl (xg1 67 (by decide +kernel) rfl)⟩
theorem xf_7_38 : xFok (7, 38, 7, 8, 0, 0) := ⟨by decide, by decide, rfl, Or.inl ⟨rfl, rfl⟩, Or.inl (xg1 68 (by decide +kernel) rfl)⟩
theorem xf_7_41 : xFok (7, 41, 7, 9, 0, 0) := ⟨by decide, by decide, rfl, Or.inl ⟨rfl, rfl⟩, Or.inl (xg1 69 (by decide +kernel) rfl)⟩
theorem xf_7_44 : xFok (7, 44, 7, 10, 0, 0) := ⟨by decide, by decide, rfl, Or.inl ⟨rfl, rfl⟩, Or.inl (xg1 70 (by decide +kernel) rfl)⟩
theorem xf_7_47 : xFok (7, 47, 7, 11, 0, 0) := ⟨by decide, by decide, rfl, Or.inl ⟨rfl, rfl⟩, Or.inl (xg1 71 (by decide +kernel) rfl)⟩
theorem xf_7_59 : xFok (7, 59, 7, 12, 0, 0) := ⟨by decide, by decide, rfl, Or.inl ⟨rfl, rfl⟩, Or.inl (xg1 72 (by decide +kernel) rfl)⟩
theorem xf_7_56 : xFok (7, 56, 7, 13, 0, 0) := ⟨by decide, by decide, rfl, Or.inl ⟨rfl, rfl⟩, Or.inl (xg1 73 (by decide +kernel) rfl)⟩
theorem xf_8_9 : xFok (8, 9, 8, 0, 0, 1) := ⟨by decide, by decide, rfl, Or.inr ⟨rfl, rfl⟩, Or.inl (xg1 36 (by decide +kernel) rfl)⟩
theorem xf_8_21 : xFok (8, 21, 8, 1, 2, 1) := ⟨by decide, by decide, ⟨"", Or.inr ⟨_, rfl⟩⟩, Or.inr ⟨rfl, rfl⟩, Or.inl (xg1 37 (by decide +kernel) rfl)⟩
theorem xf_8_25 : xFok (8, 25, 8, 2, 2, 1) := ⟨by decide, by decide, ⟨"", Or.inr ⟨_, rfl⟩⟩, Or.inr ⟨rfl, rfl⟩, Or.inl (xg1 38 (by decide +kernel) rfl)⟩
theorem xf_9_163 : xFok (9, 163, 3, 0, 2, 1) := ⟨by decide, by decide, ⟨_, Or.inl rfl⟩, Or.inr ⟨rfl, rfl⟩, Or.inr (Or.inr ⟨(xh1 121 (by decide +kernel)), by decide⟩)⟩
theorem xf_9_202 : xFok (9, 202, 3, 2, 0, 0) := ⟨by decide, by decide, rfl, Or.inl ⟨rfl, rfl⟩, Or.inr (Or.inl ⟨(xh1 124 (by decide +kernel)), rfl⟩)⟩
theorem xf_9_193 : xFok (9, 193, 3, 3, 0, 0) := ⟨by decide, by decide, rfl, Or.inl ⟨rfl, rfl⟩, Or.inr (Or.inl ⟨(xh1 127 (by decide +kernel)), rfl⟩)⟩
theorem xf_9_213 : xFok (9, 213, 3, 4, 0, 0) := ⟨by decide, by decide, rfl, Or.inl ⟨rfl, rfl⟩, Or.inr (Or.inl ⟨(xh1 130 (by decide +kernel)), rfl⟩)⟩
theorem xf_9_216 : xFok (9, 216, 3, 5, 0, 0) := ⟨by decide, by decide, rfl, Or.inl ⟨rfl, rfl⟩, Or.inr (Or.inl ⟨(xh1 133 (by decide +kernel)), rfl⟩)⟩
theorem xf_9_219 : xFok (9, 219, 3, 6, 0, 0) := ⟨by decide, by decide, rfl, Or.inl ⟨rfl, rfl⟩, Or.inr (Or.inl ⟨(xh1 136 (by decide +kernel)), rfl⟩)⟩
theorem xf_9_222 : xFok (9, 222, 3, 7, 0, 0) := ⟨by decide, by decide, rfl, Or.inl ⟨rfl, rfl⟩, Or.inr (Or.inl ⟨(xh1 139 (by decide +kernel)), rfl⟩)⟩
theorem xf_9_183 : xFok (9, 183, 4, 0, 2, 1) := ⟨by decide, by decide, ⟨_, Or.inl rfl⟩, Or.inr ⟨rfl, rfl⟩, Or.inr (Or.inr ⟨(xh1 179 (by decide +kernel)), by decide⟩)⟩
theorem xf_9_129 : xFok (9, 129, 6, 0, 2, 1) := ⟨by decide, by decide, ⟨_, Or.inl rfl⟩, Or.inr ⟨rfl, rfl⟩, Or.inr (Or.inr ⟨(xh2 28 (by decide +kernel)), by decide⟩)⟩
theorem xf_9_159 : xFok (9, 159, 6, 1, 2, 1) := ⟨by decide, by decide, ⟨_, Or.inl rfl⟩, Or.inr ⟨rfl, rfl⟩, Or.inr (Or.inr ⟨(xh2 30 (by decide +kernel)), by decide⟩)⟩
theorem xf_9_225 : xFok (9, 225, 6, 2, 0, 0) := ⟨by decide, by decide, rfl, Or.inl ⟨rfl, rfl⟩, Or.inr (Or.inl ⟨(xh2 32 (by decide +kernel)), rfl⟩)⟩
theorem xf_9_228 : xFok (9, 228, 6, 3, 0, 0) := ⟨by decide, by decide, rfl, Or.inl ⟨rfl, rfl⟩, Or.inr (Or.inl ⟨(xh2 34 (by decide +kernel)), rfl⟩)⟩
theorem xf_9_231 : xFok (9, 231, 6, 4, 0, 0) := ⟨by decide, by decide, rfl, Or.inl ⟨rfl, rfl⟩, Or.inr (Or.inl ⟨(xh2 36 (by decide +kernel)), rfl⟩)⟩
theorem xf_9_14 : xFok (9, 14, 9, 0, 2, 1) := ⟨by decide, by decide, ⟨_, Or.inl rfl⟩, Or.inr ⟨rfl, rfl⟩, Or.inl (xg2 64 (by decide +kernel) rfl)⟩
theorem xf_9_22 : xFok (9, 22, 9, 1, 2, 1) := ⟨by decide, by decide, ⟨_, Or.inl rfl⟩, Or.inr ⟨rfl, rfl⟩, Or.inl (xg2 65 (by decide +kernel) rfl)⟩
theorem xf_9_30 : xFok (9, 30, 9, 2, 2, 1) := ⟨by decide, by decide, ⟨_, Or.inl rfl⟩, Or.inr ⟨rfl, rfl⟩, Or.inl (xg2 66 (by decide +kernel) rfl)⟩
theorem xf_9_37 : xFok (9, 37, 9, 3, 2, 1) := ⟨by decide, by decide, ⟨_, Or.inl rfl⟩, Or.inr ⟨rfl, rfl⟩, Or.inl (xg2 67 (by decide +kernel) rfl)⟩
theorem xf_9_46 : xFok (9, 46, 9, 4, 2, 1) := ⟨by decide, by decide, ⟨_, Or.inl rfl⟩, Or.inr ⟨rfl, rfl⟩, Or.inl (xg2 68 (by decide +kernel) rfl)⟩
theorem xf_9_53 : xFok (9, 53, 9, 5, 2, 1) := ⟨by decide, by decide, ⟨_, Or.inl rfl⟩, Or.inr ⟨rfl, rfl⟩, Or.inl (xg2 69 (by decide +kernel) rfl)⟩
theorem xf_9_60 : xFok (9, 60, 9, 6, 2, 1) := ⟨by decide, by decide, ⟨_, Or.inl rfl⟩, Or.inr ⟨rfl, rfl⟩, Or.inl (xg2 70 (by decide +kernel) rfl)⟩
theorem xf_9_64 : xFok (9, 64, 9, 7, 2, 1) := ⟨by decide, by decide, ⟨_, Or.inl rfl⟩, Or.inr ⟨rfl, rfl⟩, Or.inl (xg2 71 (by decide +kernel) rfl)⟩
theorem xf_9_70 : xFok (9, 70, 9, 8, 2, 1) := ⟨by decide, by decide, ⟨_, Or.inl rfl⟩, Or.inr ⟨rfl, rfl⟩, Or.inl (xg2 72 (by decide +kernel) rfl)⟩
theorem xf_9_74 : xFok (9, 74, 9, 9, 1, 0) := ⟨by decide, by decide, rfl, Or.inl ⟨rfl, rfl⟩, Or.inl (xg2 73 (by decide +kernel) rfl)⟩
theorem xf_10_70 : xFok (10, 70, 10, 0, 0, 0) := ⟨by decide, by decide, rfl, Or.inl ⟨rfl, rfl⟩, Or.inl (xg5 192 (by decide +kernel) rfl)⟩
theorem xf_10_7 : xFok (10, 7, 10, 1, 2, 1) := ⟨by decide, by decide, ⟨"", Or.inr ⟨_, rfl⟩⟩, Or.inr ⟨rfl, rfl⟩, Or.inl (xg5 193 (by decide +kernel) rfl)⟩
theorem xf_10_13 : xFok (10, 13, 10, 2, 2, 1) := ⟨by decide, by decide, ⟨"", Or.inr ⟨_, rfl⟩⟩, Or.inr ⟨rfl, rfl⟩, Or.inl (xg5 194 (by decide +kernel) rfl)⟩
theorem xf_10_82 : xFok (10, 82, 10, 3, 0, 0) := ⟨by decide, by decide, rfl, Or.inl ⟨rfl, rfl⟩, Or.inl (xg5 195 (by decide +kernel) rfl)⟩
theorem xf_10_16 : xFok (10, 16, 10, 4, 2, 1) := ⟨by decide, by decide, ⟨"", Or.inr ⟨_, rfl⟩⟩, Or.inr ⟨rfl, rfl⟩, Or.inl (xg5 196 (by decide +kernel) rfl)⟩
theorem xf_10_260 : xFok (10, 260, 10, 5, 1, 0) := ⟨by decide, by decide, rfl, Or.inl ⟨rfl, rfl⟩, Or.inl (xg5 197 (by decide +kernel) rfl)⟩
theorem xf_10_19 : xFok (10, 19, 10, 6, 2, 1) := ⟨by decide, by decide, ⟨"", Or.inr ⟨_, rfl⟩⟩, Or.inr ⟨rfl, rfl⟩, Or.inl (xg5 198 (by decide +kernel) rfl)⟩
theorem xf_10_120 : xFok (10, 120, 10, 7, 0, 0) := ⟨by decide, by decide, rfl, Or.inl ⟨rfl, rfl⟩, Or.inl (xg5 199 (by decide +kernel) rfl)⟩
theorem xf_10_22 : xFok (10, 22, 10, 8, 2, 1) := ⟨by decide, by decide, ⟨"", Or.inr ⟨_, rfl⟩⟩, Or.inr ⟨rfl, rfl⟩, Or.inl (xg5 200 (by decide +kernel) rfl)⟩
theorem xf_10_123 : xFok (10, 123, 10, 9, 0, 0) := ⟨by decide, by decide, rfl, Or.inl ⟨rfl, rfl⟩, Or.inl (xg5 201 (by decide +kernel) rfl)⟩
theorem xf_10_85 : xFok (10, 85, 10, 10, 0, 0) := ⟨by decide, by decide, rfl, Or.inl ⟨rfl, rfl⟩, Or.inl (xg5 202 (by decide +kernel) rfl)⟩
theorem xf_10_88 : xFok (10, 88, 10, 11, 0, 0) := ⟨by decide, by decide, rfl, Or.inl ⟨rfl, rfl⟩, Or.inl (xg5 203 (by decide +kernel) rfl)⟩
theorem xf_10_103 : xFok (10, 103, 10, 12, 0, 0) := ⟨by decide, by decide, rfl, Or.inl ⟨rfl, rfl⟩, Or.inl (xg5 204 (by decide +kernel) rfl)⟩
theorem xf_10_106 : xFok (10, 106, 10, 13, 0, 0) := ⟨by decide, by decide, rfl, Or.inl ⟨rfl, rfl⟩, Or.inl (xg5 205 (by decide +kernel) rfl)⟩
theorem xf_10_109 : xFok (10, 109, 10, 14, 0, 0) := ⟨by decide, by decide, rfl, Or.inl ⟨rfl, rfl⟩, Or.inl (xg5 206 (by decide +kernel) rfl)⟩
theorem xf_10_91 : xFok (10, 91, 10, 15, 0, 0) := ⟨by decide, by decide, rfl, Or.inl ⟨rfl, rfl⟩, Or.inl (xg5 207 (by decide +kernel) rfl)⟩
theorem xf_10_100 : xFok (10, 100, 10, 16, 0, 0) := ⟨by decide, by decide, rfl, Or.inl ⟨rfl, rfl⟩, Or.inl (xg5 208 (by decide +kernel) rfl)⟩
theorem xf_10_116 : xFok (10, 116, 10, 17, 1, 0) := ⟨by decide, by decide, rfl, Or.inl ⟨rfl, rfl⟩, Or.inl (xg5 209 (by decide +kernel) rfl)⟩
theorem xf_10_25 : xFok (10, 25, 10, 18, 2, 1) := ⟨by decide, by decide, ⟨"", Or.inr ⟨_, rfl⟩⟩, Or.inr ⟨rfl, rfl⟩, Or.inl (xg5 210 (by decide +kernel) rfl)⟩
theorem xf_10_151 : xFok (10, 151, 10, 19, 0, 0) := ⟨by decide, by decide, rfl, Or.inl ⟨rfl, rfl⟩, Or.inl (xg5 211 (by decide +kernel) rfl)⟩
theorem xf_10_135 : xFok (10, 135, 10, 20, 0, 0) := ⟨by decide, by decide, rfl, Or.inl ⟨rfl, rfl⟩, Or.inl (xg5 212 (by decide +kernel) rfl)⟩
theorem xf_10_28 : xFok (10, 28, 10, 21, 2, 1) := ⟨by decide, by decide, ⟨"", Or.inr ⟨_, rfl⟩⟩, Or.inr ⟨rfl, rfl⟩, Or.inl (xg5 213 (by decide +kernel) rfl)⟩
theorem xf_10_138 : xFok (10, 138, 10, 22, 0, 0) := ⟨by decide, by decide, rfl, Or.inl ⟨rfl, rfl⟩, Or.inl (xg5 214 (by decide +kernel) rfl)⟩
theorem xf_10_201 : xFok (10, 201, 10, 23, 0, 0) := ⟨by decide, by decide, rfl, Or.inl ⟨rfl, rfl⟩, Or.inl (xg5 215 (by decide +kernel) rfl)⟩
theorem xf_10_154 : xFok (10, 154, 10, 24, 0, 0) := ⟨by decide, by decide, rfl, Or.inl ⟨rfl, rfl⟩, Or.inl (xg5 216 (by decide +kernel) rfl)⟩
theorem xf_10_157 : xFok (10, 157, 10, 25, 0, 0) := ⟨by decide, by decide, rfl, Or.inl ⟨rfl, rfl⟩, Or.inl (xg5 217 (by decide +kernel) rfl)⟩
theorem xf_10_160 : xFok (10, 160, 10, 26, 0, 0) := ⟨by decide, by decide, rfl, Or.inl ⟨rfl, rfl⟩, Or.inl (xg5 218 (by decide +kernel) rfl)⟩
theorem xf_10_31 : xFok (10, 31, 10, 27, 2, 1) := ⟨by decide, by decide, ⟨"", Or.inr ⟨_, rfl⟩⟩, Or.inr ⟨rfl, rfl⟩, Or.inl (xg5 219 (by decide +kernel) rfl)⟩
theorem xf_10_129 : xFok (10, 129, 10, 28, 0, 0) := ⟨by decide, by decide, rfl, Or.inl ⟨rfl, rfl⟩, Or.inl (xg5 220 (by decide +kernel) rfl)⟩
theorem xf_10_34 : xFok (10, 34, 10, 29, 2, 1) := ⟨by decide, by decide, ⟨"", Or.inr ⟨_, rfl⟩⟩, Or.inr ⟨rfl, rfl⟩, Or.inl (xg5 221 (by decide +kernel) rfl)⟩
theorem xf_10_37 : xFok (10, 37, 10, 30, 2, 1) := ⟨by decide, by decide, ⟨"", Or.inr ⟨_, rfl⟩⟩, Or.inr ⟨rfl, rfl⟩, Or.inl (xg5 222 (by decide +kernel) rfl)⟩
theorem xf_10_144 : xFok (10, 144, 10, 31, 0, 0) := ⟨by decide, by decide, rfl, Or.inl ⟨rfl, rfl⟩, Or.inl (xg5 223 (by decide +kernel) rfl)⟩
theorem xf_10_40 : xFok (10, 40, 10, 32, 2, 1) := ⟨by decide, by decide, ⟨"", Or.inr ⟨_, rfl⟩⟩, Or.inr ⟨rfl, rfl⟩, Or.inl (xg5 224 (by decide +kernel) rfl)⟩
theorem xf_10_43 : xFok (10, 43, 10, 33, 2, 1) := ⟨by decide, by decide, ⟨"", Or.inr ⟨_, rfl⟩⟩, Or.inr ⟨rfl, rfl⟩, Or.inl (xg5 225 (by decide +kernel) rfl)⟩
theorem xf_10_141 : xFok (10, 141, 10, 34, 0, 0) := ⟨by decide, by decide, rfl, Or.inl ⟨rfl, rfl⟩, Or.inl (xg5 226 (by decide +kernel) rfl)⟩
theorem xf_10_46 : xFok (10, 46, 10, 35, 2, 1) := ⟨by decide, by decide, ⟨"", Or.inr ⟨_, rfl⟩⟩, Or.inr ⟨rfl, rfl⟩, Or.inl (xg5 227 (by decide +kernel) rfl)⟩
theorem xf_10_49 : xFok (10, 49, 10, 36, 2, 1) := ⟨by decide, by decide, ⟨"", Or.inr ⟨_, rfl⟩⟩, Or.inr ⟨rfl, rfl⟩, Or.inl (xg5 228 (by decide +kernel) rfl)⟩
theorem xf_10_52 : xFok (10, 52, 10, 37, 2, 1) := ⟨by decide, by decide, ⟨"", Or.inr ⟨_, rfl⟩⟩, Or.inr ⟨rfl, rfl⟩, Or.inl (xg5 229 (by decide +kernel) rfl)⟩
theorem xf_10_55 : xFok (10, 55, 10, 38, 2, 1) := ⟨by decide, by decide, ⟨"", Or.inr ⟨_, rfl⟩⟩, Or.inr ⟨rfl, rfl⟩, Or.inl (xg5 230 (by decide +kernel) rfl)⟩
theorem xf_10_58 : xFok (10, 58, 10, 39, 2, 1) := ⟨by decide, by decide, ⟨"", Or.inr ⟨_, rfl⟩⟩, Or.inr ⟨rfl, rfl⟩, Or.inl (xg5 231 (by decide +kernel) rfl)⟩
theorem xf_10_61 : xFok (10, 61, 10, 40, 2, 1) := ⟨by decide, by decide, ⟨"", Or.inr ⟨_, rfl⟩⟩, Or.inr ⟨rfl, rfl⟩, Or.inl (xg5 232 (by decide +kernel) rfl)⟩
theorem xf_10_64 : xFok (10, 64, 10, 41, 2, 1) := ⟨by decide, by decide, ⟨"", Or.inr ⟨_, rfl⟩⟩, Or.inr ⟨rfl, rfl⟩, Or.inl (xg5 233 (by decide +kernel) rfl)⟩
theorem xf_10_67 : xFok (10, 67, 10, 42, 2, 1) := ⟨by decide, by decide, ⟨"", Or.inr ⟨_, rfl⟩⟩, Or.inr ⟨rfl, rfl⟩, Or.inl (xg5 234 (by decide +kernel) rfl)⟩
theorem xf_10_163 : xFok (10, 163, 10, 43, 0, 0) := ⟨by decide, by decide, rfl, Or.inl ⟨rfl, rfl⟩, Or.inl (xg5 235 (by decide +kernel) rfl)⟩
theorem xf_10_269 : xFok (10, 269, 10, 44, 3, 0) := ⟨by decide, by decide, rfl, Or.inl ⟨rfl, rfl⟩, Or.inl (xg5 236 (by decide +kernel) rfl)⟩
def xFs_l0 : List (Nat × Nat × Nat × Nat × Nat × Nat) := [(0, 31, 7, 0, 0, 1), (0, 91, 7, 1, 2, 1), (0, 95, 5, 0, 2, 1), (0, 22, 4, 0, 2, 1), (0, 15, 4, 1, 2, 1), (0, 9, 0, 0, 2, 1), (0, 21, 0, 1, 2, 1), (0, 26, 0, 2, 2, 1), (1, 122, 5, 0, 2, 1), (1, 15, 4, 1, 2, 1), (1, 9, 1, 0, 2, 1), (1, 21, 1, 1, 2, 1), (1, 27, 1, 2, 2, 1), (1, 36, 1, 3, 2, 1), (1, 60, 1, 4, 0, 0), (1, 64, 1, 5, 0, 0)]
theorem xFs_b0 : ∀ q ∈ xFs_l0, xFok q := List.forall_mem_cons.mpr ⟨xf_0_31, List.forall_mem_cons.mpr ⟨xf_0_91, List.forall_mem_cons.mpr ⟨xf_0_95, List.forall_mem_cons.mpr ⟨xf_0_22, List.forall_mem_cons.mpr ⟨xf_0_15, List.forall_mem_cons.mpr ⟨xf_0_9, List.forall_mem_cons.mpr ⟨xf_0_21, List.forall_mem_cons.mpr ⟨xf_0_26, List.forall_mem_cons.mpr ⟨xf_1_122, List.forall_mem_cons.mpr ⟨xf_1_15, List.forall_mem_cons.mpr ⟨xf_1_9, List.forall_mem_cons.mpr ⟨xf_1_21, List.forall_mem_cons.mpr ⟨xf_1_27, List.forall_mem_cons.mpr ⟨xf_1_36, List.forall_mem_cons.mpr ⟨xf_1_60, List.forall_mem_cons.mpr ⟨xf_1_64, fun _ h => absurd h List.not_mem_nil⟩⟩⟩⟩⟩⟩⟩⟩⟩⟩⟩⟩⟩⟩⟩⟩
def xFs_l16 : List (Nat × Nat × Nat × Nat × Nat × Nat) := [(1, 40, 1, 6, 2, 1), (1, 44, 1, 7, 2, 1), (1, 47, 1, 8, 2, 1), (1, 50, 1, 9, 2, 1), (1, 53, 1, 10, 2, 1), (1, 67, 1, 11, 0, 0), (2, 11, 2, 0, 2, 1), (2, 18, 2, 1, 0, 0), (3, 14, 3, 0, 2, 1), (3, 24, 3, 1, 2, 1), (3, 28, 3, 2, 0, 0), (3, 32, 3, 3, 0, 0), (3, 35, 3, 4, 0, 0), (3, 38, 3, 5, 0, 0), (3, 41, 3, 6, 0, 0), (3, 44, 3, 7, 0, 0)]
theorem xFs_b16 : ∀ q ∈ xFs_l16, xFok q := List.forall_mem_cons.mpr ⟨xf_1_40, List.forall_mem_cons.mpr ⟨xf_1_44, List.forall_mem_cons.mpr ⟨xf_1_47, List.forall_mem_cons.mpr ⟨xf_1_50, List.forall_mem_cons.mpr ⟨xf_1_53, List.forall_mem_cons.mpr ⟨xf_1_67, List.forall_mem_cons.mpr ⟨xf_2_11, List.forall_mem_cons.mpr ⟨xf_2_18, List.forall_mem_cons.mpr ⟨xf_3_14, List.forall_mem_cons.mpr ⟨xf_3_24, List.forall_mem_cons.mpr ⟨xf_3_28, List.forall_mem_cons.mpr ⟨xf_3_32, List.forall_mem_cons.mpr ⟨xf_3_35, List.forall_mem_cons.mpr ⟨xf_3_38, List.forall_mem_cons.mpr ⟨xf_3_41, List.forall_mem_cons.mpr ⟨xf_3_44, fun _ h => absurd h List.not_mem_nil⟩⟩⟩⟩⟩⟩⟩⟩⟩⟩⟩⟩⟩⟩⟩⟩
def xFs_l32 : List (Nat × Nat × Nat × Nat × Nat × Nat) := [(4, 51, 3, 0, 2, 1), (4, 44, 3, 4, 0, 0), (4, 54, 3, 5, 0, 0), (4, 57, 3, 6, 0, 0), (4, 60, 3, 7, 0, 0), (4, 67, 5, 0, 2, 1), (4, 12, 4, 0, 2, 1), (4, 21, 4, 1, 2, 1), (4, 30, 4, 2, 2, 1), (4, 40, 4, 3, 0, 0), (5, 14, 5, 0, 2, 1), (5, 20, 5, 1, 0, 0), (6, 48, 3, 0, 2, 1), (6, 45, 3, 3, 0, 0), (6, 14, 6, 0, 2, 1), (6, 23, 6, 1, 2, 1)]
theorem xFs_b32 : ∀ q ∈ xFs_l32, xFok q := List.forall_mem_cons.mpr ⟨xf_4_51, List.forall_mem_cons.mpr ⟨xf_4_44, List.forall_mem_cons.mpr ⟨xf_4_54, List.forall_mem_cons.mpr ⟨xf_4_57, List.forall_mem_cons.mpr ⟨xf_4_60, List.forall_mem_cons.mpr ⟨xf_4_67, List.forall_mem_cons.mpr ⟨xf_4_12, List.forall_mem_cons.mpr ⟨xf_4_21, List.forall_mem_cons.mpr ⟨xf_4_30, List.forall_mem_cons.mpr ⟨xf_4_40, List.forall_mem_cons.mpr ⟨xf_5_14, List.forall_mem_cons.mpr ⟨xf_5_20, List.forall_mem_cons.mpr ⟨xf_6_48, List.forall_mem_cons.mpr ⟨xf_6_45, List.forall_mem_cons.mpr ⟨xf_6_14, List.forall_mem_cons.mpr ⟨xf_6_23, fun _ h => absurd h List.not_mem_nil⟩⟩⟩⟩⟩⟩⟩⟩⟩⟩⟩⟩⟩⟩⟩⟩
def xFs_l48 : List (Nat × Nat × Nat × Nat × Nat × Nat) := [(6, 35, 6, 2, 0, 0), (6, 39, 6, 3, 0, 0), (6, 42, 6, 4, 0, 0), (7, 9, 7, 0, 0, 1), (7, 15, 7, 1, 2, 1), (7, 19, 7, 2, 2, 1), (7, 23, 7, 3, 2, 1), (7, 26, 7, 4, 2, 1), (7, 29, 7, 5, 2, 1), (7, 32, 7, 6, 2, 1), (7, 35, 7, 7, 2, 1), (7, 38, 7, 8, 0, 0), (7, 41, 7, 9, 0, 0), (7, 44, 7, 10, 0, 0), (7, 47, 7, 11, 0, 0), (7, 59, 7, 12, 0, 0)]
theorem xFs_b48 : ∀ q ∈ xFs_l48, xFok q := List.forall_mem_cons.mpr ⟨xf_6_35, List.forall_mem_cons.mpr ⟨xf_6_39, List.forall_mem_cons.mpr ⟨xf_6_42, List.forall_mem_cons.mpr ⟨xf_7_9, List.forall_mem_cons.mpr ⟨xf_7_15, List.forall_mem_cons.mpr ⟨xf_7_19, List.forall_mem_cons.mpr ⟨xf_7_23, List.forall_mem_cons.mpr ⟨xf_7_26, List.forall_mem_cons.mpr ⟨xf_7_29, List.forall_mem_cons.mpr ⟨xf_7_32, List.forall_mem_cons.mpr ⟨xf_7_35, List.forall_mem_cons.mpr ⟨xf_7_38, List.forall_mem_cons.mpr ⟨xf_7_41, List.forall_mem_cons.mpr ⟨xf_7_44, List.forall_mem_cons.mpr ⟨xf_7_47, List.forall_mem_cons.mpr ⟨xf_7_59, fun _ h => absurd h List.not_mem_nil⟩⟩⟩⟩⟩⟩⟩⟩⟩⟩⟩⟩⟩⟩⟩⟩
def xFs_l64 : List (Nat × Nat × Nat × Nat × Nat × Nat) := [(7, 56, 7, 13, 0, 0), (8, 9, 8, 0, 0, 1), (8, 21, 8, 1, 2, 1), (8, 25, 8, 2, 2, 1), (9, 163, 3, 0, 2, 1), (9, 202, 3, 2, 0, 0), (9, 193, 3, 3, 0, 0), (9, 213, 3, 4, 0, 0), (9, 216, 3, 5, 0, 0), (9, 219, 3, 6, 0, 0), (9, 222, 3, 7, 0, 0), (9, 183, 4, 0, 2, 1), (9, 129, 6, 0, 2, 1), (9, 159, 6, 1, 2, 1), (9, 225, 6, 2, 0, 0), (9, 228, 6, 3, 0, 0)]
theorem xFs_b64 : ∀ q ∈ xFs_l64, xFok q := List.forall_mem_cons.mpr ⟨xf_7_56, List.forall_mem_cons.mpr ⟨xf_8_9, List.forall_mem_cons.mpr ⟨xf_8_21, List.forall_mem_cons.mpr ⟨xf_8_25, List.forall_mem_cons.mpr ⟨xf_9_163, List.forall_mem_cons.mpr ⟨xf_9_202, List.forall_mem_cons.mpr ⟨xf_9_193, List.forall_mem_cons.mpr ⟨xf_9_213, List.forall_mem_cons.mpr ⟨xf_9_216, List.forall_mem_cons.mpr ⟨xf_9_219, List.forall_mem_cons.mpr ⟨xf_9_222, List.forall_mem_cons.mpr ⟨xf_9_183, List.forall_mem_cons.mpr ⟨xf_9_129, List.forall_mem_cons.mpr ⟨xf_9_159, List.forall_mem_cons.mpr ⟨xf_9_225, List.forall_mem_cons.mpr ⟨xf_9_228, fun _ h => absurd h List.not_mem_nil⟩⟩⟩⟩⟩⟩⟩⟩⟩⟩⟩⟩⟩⟩⟩⟩
def xFs_l80 : List (Nat × Nat × Nat × Nat × Nat × Nat) := [(9, 231, 6, 4, 0, 0), (9, 14, 9, 0, 2, 1), (9, 22, 9, 1, 2, 1), (9, 30, 9, 2, 2, 1), (9, 37, 9, 3, 2, 1), (9, 46, 9, 4, 2, 1), (9, 53, 9, 5, 2, 1), (9, 60, 9, 6, 2, 1), (9, 64, 9, 7, 2, 1), (9, 70, 9, 8, 2, 1), (9, 74, 9, 9, 1, 0), (10, 70, 10, 0, 0, 0), (10, 7, 10, 1, 2, 1), (10, 13, 10, 2, 2, 1), (10, 82, 10, 3, 0, 0), (10, 16, 10, 4, 2, 1)]
theorem xFs_b80 : ∀ q ∈ xFs_l80, xFok q := List.forall_mem_cons.mpr ⟨xf_9_231, List.forall_mem_cons.mpr ⟨xf_9_14, List.forall_mem_cons.mpr ⟨xf_9_22, List.forall_mem_cons.mpr ⟨xf_9_30, List.forall_mem_cons.mpr ⟨xf_9_37, List.forall_mem_cons.mpr ⟨xf_9_46, List.forall_mem_cons.mpr ⟨xf_9_53, List.forall_mem_cons.mpr ⟨xf_9_60, List.forall_mem_cons.mpr ⟨xf_9_64, List.forall_mem_cons.mpr ⟨xf_9_70, List.forall_mem_cons.mpr ⟨xf_9_74, List.forall_mem_cons.mpr ⟨xf_10_70, List.forall_mem_cons.mpr ⟨xf_10_7, List.forall_mem_cons.mpr ⟨xf_10_13, List.forall_mem_cons.mpr ⟨xf_10_82, List.forall_mem_cons.mpr ⟨xf_10_16, fun _ h => absurd h List.not_mem_nil⟩⟩⟩⟩⟩⟩⟩⟩⟩⟩⟩⟩⟩⟩⟩⟩
def xFs_l96 : List (Nat × Nat × Nat × Nat × Nat × Nat) := [(10, 260, 10, 5, 1, 0), (10, 19, 10, 6, 2, 1), (10, 120, 10, 7, 0, 0), (10, 22, 10, 8, 2, 1), (10, 123, 10, 9, 0, 0), (10, 85, 10, 10, 0, 0), (10, 88, 10, 11, 0, 0), (10, 103, 10, 12, 0, 0), (10, 106, 10, 13, 0, 0), (10, 109, 10, 14, 0, 0), (10, 91, 10, 15, 0, 0), (10, 100, 10, 16, 0, 0), (10, 116, 10, 17, 1, 0), (10, 25, 10, 18, 2, 1), (10, 151, 10, 19, 0, 0), (10, 135, 10, 20, 0, 0)]
theorem xFs_b96 : ∀ q ∈ xFs_l96, xFok q := List.forall_mem_cons.mpr ⟨xf_10_260, List.forall_mem_cons.mpr ⟨xf_10_19, List.forall_mem_cons.mpr ⟨xf_10_120, List.forall_mem_cons.mpr ⟨xf_10_22, List.forall_mem_cons.mpr ⟨xf_10_123, List.forall_mem_cons.mpr ⟨xf_10_85, List.forall_mem_cons.mpr ⟨xf_10_88, List.forall_mem_cons.mpr ⟨xf_10_103, List.forall_mem_cons.mpr ⟨xf_10_106, List.forall_mem_cons.mpr ⟨xf_10_109, List.forall_mem_cons.mpr ⟨xf_10_91, List.forall_mem_cons.mpr ⟨xf_10_100, List.forall_mem_cons.mpr ⟨xf_10_116, List.forall_mem_cons.mpr ⟨xf_10_25, List.forall_mem_cons.mpr ⟨xf_10_151, List.forall_mem_cons.mpr ⟨xf_10_135, fun _ h => absurd h List.not_mem_nil⟩⟩⟩⟩⟩⟩⟩⟩⟩⟩⟩⟩⟩⟩⟩⟩
def xFs_l112 : List (Nat × Nat × Nat × Nat × Nat × Nat) := [(10, 28, 10, 21, 2, 1), (10, 138, 10, 22, 0, 0), (10, 201, 10, 23, 0, 0), (10, 154, 10, 24, 0, 0), (10, 157, 10, 25, 0, 0), (10, 160, 10, 26, 0, 0), (10, 31, 10, 27, 2, 1), (10, 129, 10, 28, 0, 0), (10, 34, 10, 29, 2, 1), (10, 37, 10, 30, 2, 1), (10, 144, 10, 31, 0, 0), (10, 40, 10, 32, 2, 1), (10, 43, 10, 33, 2, 1), (10, 141, 10, 34, 0, 0), (10, 46, 10, 35, 2, 1), (10, 49, 10, 36, 2, 1)]
theorem xFs_b112 : ∀ q ∈ xFs_l112, xFok q := List.forall_mem_cons.mpr ⟨xf_10_28, List.forall_mem_cons.mpr ⟨xf_10_138, List.forall_mem_cons.mpr ⟨xf_10_201, List.forall_mem_cons.mpr ⟨xf_10_154, List.forall_mem_cons.mpr ⟨xf_10_157, List.forall_mem_cons.mpr ⟨xf_10_160, List.forall_mem_cons.mpr ⟨xf_10_31, List.forall_mem_cons.mpr ⟨xf_10_129, List.forall_mem_cons.mpr ⟨xf_10_34, List.forall_mem_cons.mpr ⟨xf_10_37, List.forall_mem_cons.mpr ⟨xf_10_144, List.forall_mem_cons.mpr ⟨xf_10_40, List.forall_mem_cons.mpr ⟨xf_10_43, List.forall_mem_cons.mpr ⟨xf_10_141, List.forall_mem_cons.mpr ⟨xf_10_46, List.forall_mem_cons.mpr ⟨xf_10_49, fun _ h => absurd h List.not_mem_nil⟩⟩⟩⟩⟩⟩⟩⟩⟩⟩⟩⟩⟩⟩⟩⟩
def xFs_l128 : List (Nat × Nat × Nat × Nat × Nat × Nat) := [(10, 52, 10, 37, 2, 1), (10, 55, 10, 38, 2, 1), (10, 58, 10, 39, 2, 1), (10, 61, 10, 40, 2, 1), (10, 64, 10, 41, 2, 1), (10, 67, 10, 42, 2, 1), (10, 163, 10, 43, 0, 0), (10, 269, 10, 44, 3, 0)]
theorem xFs_b128 : ∀ q ∈ xFs_l128, xFok q := List.forall_mem_cons.mpr ⟨xf_10_52, List.forall_mem_cons.mpr ⟨xf_10_55, List.forall_mem_cons.mpr ⟨xf_10_58, List.forall_mem_cons.mpr ⟨xf_10_61, List.forall_mem_cons.mpr ⟨xf_10_64, List.forall_mem_cons.mpr ⟨xf_10_67, List.forall_mem_cons.mpr ⟨xf_10_163, List.forall_mem_cons.mpr ⟨xf_10_269, fun _ h => absurd h List.not_mem_nil⟩⟩⟩⟩⟩⟩⟩⟩
def xFs_l : List (Nat × Nat × Nat × Nat × Nat × Nat) := xFs_l0 ++ (xFs_l16 ++ (xFs_l32 ++ (xFs_l48 ++ (xFs_l64 ++ (xFs_l80 ++ (xFs_l96 ++ (xFs_l112 ++ (xFs_l128))))))))
theorem xFs_all : ∀ q ∈ xFs_l, xFok q := List.forall_mem_append.mpr ⟨xFs_b0, List.forall_mem_append.mpr ⟨xFs_b16, List.forall_mem_append.mpr ⟨xFs_b32, List.forall_mem_append.mpr ⟨xFs_b48, List.forall_mem_append.mpr ⟨xFs_b64, List.forall_mem_append.mpr ⟨xFs_b80, List.forall_mem_append.mpr ⟨xFs_b96, List.forall_mem_append.mpr ⟨xFs_b112, xFs_b128⟩⟩⟩⟩⟩⟩⟩⟩
def xFin : Bool := (List.range 14).all (fun own => match xfldT[own]? with
  | some l => l.all (fun q => decide ((own, q) ∈ xFs_l))
  | none => true)
theorem xFin_ok : xFin = true := by decide +kernel
theorem xfld_ok {own i : Nat} {q : Nat × Nat × Nat × Nat} (h : xfld own i = some q) : xFok (own, i, q) := by
  unfold xfld at h
  cases hl : xfldT[own]? with
  | none => rw [hl] at h; cases h
  | some l =>
    rw [hl] at h
    have hlt : own < xfldT.length := (List.getElem?_eq_some_iff.mp hl).1
    have hlen : xfldT.length = 14 := by decide +kernel
    have h1 := List.all_eq_true.mp xFin_ok own (List.mem_range.mpr (by omega))
    rw [hl] at h1
    have h2 := List.all_eq_true.mp h1 _ (xfin_mem h)
    exact xFs_all _ (of_decide_eq_true h2)
def xKok (q : Nat × Nat × Nat) : Prop := q.2.2 < 11 ∧ xG (.classLink (xRn q.1) q.2.1 (xCl q.2.2).1)
def xKs_l0 : List (Nat × Nat × Nat) := [(1, 22, 7), (1, 31, 8), (2, 9, 6), (3, 9, 8), (4, 9, 3), (4, 18, 5), (4, 25, 8), (5, 9, 8), (6, 9, 8), (6, 20, 3), (9, 7, 8), (9, 25, 7), (9, 34, 4), (9, 41, 0), (9, 50, 1), (9, 57, 6)]
theorem xKs_b0 : ∀ q ∈ xKs_l0, xKok q := List.forall_mem_cons.mpr ⟨⟨by decide, xg1 216 (by decide +kernel) rfl⟩, List.forall_mem_cons.mpr ⟨⟨by decide, xg1 218 (by decide +kernel) rfl⟩, List.forall_mem_cons.mpr ⟨⟨by decide, xg2 54 (by decide +kernel) rfl⟩, List.forall_mem_cons.mpr ⟨⟨by decide, xg1 115 (by decide +kernel) rfl⟩, List.forall_mem_cons.mpr ⟨⟨by decide, xg1 109 (by decide +kernel) rfl⟩, List.forall_mem_cons.mpr ⟨⟨by decide, xg1 157 (by decide +kernel) rfl⟩, List.forall_mem_cons.mpr ⟨⟨by decide, xg1 175 (by decide +kernel) rfl⟩, List.forall_mem_cons.mpr ⟨⟨by decide, xg1 163 (by decide +kernel) rfl⟩, List.forall_mem_cons.mpr ⟨⟨by decide, xg2 23 (by decide +kernel) rfl⟩, List.forall_mem_cons.mpr ⟨⟨by decide, xg2 25 (by decide +kernel) rfl⟩, List.forall_mem_cons.mpr ⟨⟨by decide, xg1 27 (by decide +kernel) rfl⟩, List.forall_mem_cons.mpr ⟨⟨by decide, xg1 52 (by decide +kernel) rfl⟩, List.forall_mem_cons.mpr ⟨⟨by decide, xg1 103 (by decide +kernel) rfl⟩, List.forall_mem_cons.mpr ⟨⟨by decide, xg1 194 (by decide +kernel) rfl⟩, List.forall_mem_cons.mpr ⟨⟨by decide, xg1 210 (by decide +kernel) rfl⟩, List.forall_mem_cons.mpr ⟨⟨by decide, xg2 17 (by decide +kernel) rfl⟩, fun _ h => absurd h List.not_mem_nil⟩⟩⟩⟩⟩⟩⟩⟩⟩⟩⟩⟩⟩⟩⟩⟩
def xKs_l16 : List (Nat × Nat × Nat) := [(9, 67, 2), (11, 8, 9), (11, 107, 10)]
theorem xKs_b16 : ∀ q ∈ xKs_l16, xKok q := List.forall_mem_cons.mpr ⟨⟨by decide, xg2 48 (by decide +kernel) rfl⟩, List.forall_mem_cons.mpr ⟨⟨by decide, xg1 19 (by decide +kernel) rfl⟩, List.forall_mem_cons.mpr ⟨⟨by decide, xg5 186 (by decide +kernel) rfl⟩, fun _ h => absurd h List.not_mem_nil⟩⟩⟩
def xKs_l : List (Nat × Nat × Nat) := xKs_l0 ++ (xKs_l16)
theorem xKs_all : ∀ q ∈ xKs_l, xKok q := List.forall_mem_append.mpr ⟨xKs_b0, xKs_b16⟩
def xKin : Bool := (List.range 14).all (fun own => match xclsT[own]? with
  | some l => l.all (fun q => decide ((own, q) ∈ xKs_l))
  | none => true)
theorem xKin_ok : xKin = true := by decide +kernel
theorem xcls_ok {own i : Nat} {q : Nat} (h : xcls own i = some q) : xKok (own, i, q) := by
  unfold xcls at h
  cases hl : xclsT[own]? with
  | none => rw [hl] at h; cases h
  | some l =>
    rw [hl] at h
    have hlt : own < xclsT.length := (List.getElem?_eq_some_iff.mp hl).1
    have hlen : xclsT.length = 14 := by decide +kernel
    have h1 := List.all_eq_true.mp xKin_ok own (List.mem_range.mpr (by omega))
    rw [hl] at h1
    have h2 := List.all_eq_true.mp h1 _ (xfin_mem h)
    exact xKs_all _ (of_decide_eq_true h2)
def xEn : Nat → String
  | 0 => "java/lang/IllegalArgumentException"
  | 1 => "java/lang/IllegalStateException"
  | 2 => "java/lang/IndexOutOfBoundsException"
  | _ => ""
def xEok (q : Nat × Nat × Nat) : Prop := q.2.2 < 3 ∧ xG (.classLink (xRn q.1) q.2.1 (xEn q.2.2))
def xEs_l0 : List (Nat × Nat × Nat) := [(9, 85, 1), (9, 172, 2), (9, 327, 0), (11, 13, 0), (11, 15, 1), (11, 37, 2)]
theorem xEs_b0 : ∀ q ∈ xEs_l0, xEok q := List.forall_mem_cons.mpr ⟨⟨by decide, xg3 36 (by decide +kernel) rfl⟩, List.forall_mem_cons.mpr ⟨⟨by decide, xg3 109 (by decide +kernel) rfl⟩, List.forall_mem_cons.mpr ⟨⟨by decide, xg4 221 (by decide +kernel) rfl⟩, List.forall_mem_cons.mpr ⟨⟨by decide, xg4 212 (by decide +kernel) rfl⟩, List.forall_mem_cons.mpr ⟨⟨by decide, xg4 213 (by decide +kernel) rfl⟩, List.forall_mem_cons.mpr ⟨⟨by decide, xg5 21 (by decide +kernel) rfl⟩, fun _ h => absurd h List.not_mem_nil⟩⟩⟩⟩⟩⟩
def xEs_l : List (Nat × Nat × Nat) := xEs_l0
theorem xEs_all : ∀ q ∈ xEs_l, xEok q := xEs_b0
def xEin : Bool := (List.range 14).all (fun own => match xcatT[own]? with
  | some l => l.all (fun q => decide ((own, q) ∈ xEs_l))
  | none => true)
theorem xEin_ok : xEin = true := by decide +kernel
theorem xcat_ok {own i : Nat} {q : Nat} (h : xcat own i = some q) : xEok (own, i, q) := by
  unfold xcat at h
  cases hl : xcatT[own]? with
  | none => rw [hl] at h; cases h
  | some l =>
    rw [hl] at h
    have hlt : own < xcatT.length := (List.getElem?_eq_some_iff.mp hl).1
    have hlen : xcatT.length = 14 := by decide +kernel
    have h1 := List.all_eq_true.mp xEin_ok own (List.mem_range.mpr (by omega))
    rw [hl] at h1
    have h2 := List.all_eq_true.mp h1 _ (xfin_mem h)
    exact xEs_all _ (of_decide_eq_true h2)
theorem xcast_0 : Cond.castable (xEn 0) (xEn 0) ∈ lw_tbl := (xh4 223 (by decide +kernel))
theorem xcast_1 : Cond.castable (xEn 1) (xEn 1) ∈ lw_tbl := (xh3 38 (by decide +kernel))
theorem xcast_2 : Cond.castable (xEn 2) (xEn 2) ∈ lw_tbl := (xh3 111 (by decide +kernel))
theorem xcast {e : Nat} (h : e < 3) : Cond.castable (xEn e) (xEn e) ∈ lw_tbl := by
  match e, h with
  | 0, _ => exact xcast_0
  | 1, _ => exact xcast_1
  | 2, _ => exact xcast_2
def xTok (q : Nat × Nat × xV) : Prop := match q.2.2 with
  | .inl x => xin x ∧ xG (.constant (xRn q.1) q.2.1 (Int32.ofInt x))
  | .inr (.inr (.inl v)) => xG (.constantLong (xRn q.1) q.2.1 v)
  | .inr (.inr (.inr v)) => xG (.constantDouble (xRn q.1) q.2.1 v)
  | _ => False
theorem xTo_0 : ∀ q ∈ ([] : List (Nat × xV)), xTok (0, q) := fun _ h => absurd h List.not_mem_nil
theorem xTo_1 : ∀ q ∈ ([(70, .inl 100000)] : List (Nat × xV)), xTok (1, q) := List.forall_mem_cons.mpr ⟨⟨by decide, xg4 137 (by decide +kernel) rfl⟩, fun _ h => absurd h List.not_mem_nil⟩
theorem xTo_2 : ∀ q ∈ ([] : List (Nat × xV)), xTok (2, q) := fun _ h => absurd h List.not_mem_nil
theorem xTo_3 : ∀ q ∈ ([] : List (Nat × xV)), xTok (3, q) := fun _ h => absurd h List.not_mem_nil
theorem xTo_4 : ∀ q ∈ ([] : List (Nat × xV)), xTok (4, q) := fun _ h => absurd h List.not_mem_nil
theorem xTo_5 : ∀ q ∈ ([] : List (Nat × xV)), xTok (5, q) := fun _ h => absurd h List.not_mem_nil
theorem xTo_6 : ∀ q ∈ ([] : List (Nat × xV)), xTok (6, q) := fun _ h => absurd h List.not_mem_nil
theorem xTo_7 : ∀ q ∈ ([] : List (Nat × xV)), xTok (7, q) := fun _ h => absurd h List.not_mem_nil
theorem xTo_8 : ∀ q ∈ ([] : List (Nat × xV)), xTok (8, q) := fun _ h => absurd h List.not_mem_nil
theorem xTo_9 : ∀ q ∈ ([(258, .inr (.inr (.inl 4349))), (347, .inr (.inr (.inl 31))), (376, .inr (.inr (.inl 1023))), (378, .inr (.inr (.inr 4611686018427387904))), (380, .inr (.inr (.inr 4841369599423283200)))] : List (Nat × xV)), xTok (9, q) := List.forall_mem_cons.mpr ⟨(xg3 15 (by decide +kernel) rfl), List.forall_mem_cons.mpr ⟨(xg3 26 (by decide +kernel) rfl), List.forall_mem_cons.mpr ⟨(xg4 206 (by decide +kernel) rfl), List.forall_mem_cons.mpr ⟨(xg4 207 (by decide +kernel) rfl), List.forall_mem_cons.mpr ⟨(xg4 208 (by decide +kernel) rfl), fun _ h => absurd h List.not_mem_nil⟩⟩⟩⟩⟩
theorem xTo_10 : ∀ q ∈ ([(283, .inr (.inr (.inl 4349))), (267, .inr (.inr (.inl 31))), (273, .inr (.inr (.inl 1023))), (275, .inr (.inr (.inr 4611686018427387904))), (277, .inr (.inr (.inr 4841369599423283200)))] : List (Nat × xV)), xTok (10, q) := List.forall_mem_cons.mpr ⟨(xg7 180 (by decide +kernel) rfl), List.forall_mem_cons.mpr ⟨(xg7 185 (by decide +kernel) rfl), List.forall_mem_cons.mpr ⟨(xg7 197 (by decide +kernel) rfl), List.forall_mem_cons.mpr ⟨(xg7 198 (by decide +kernel) rfl), List.forall_mem_cons.mpr ⟨(xg7 199 (by decide +kernel) rfl), fun _ h => absurd h List.not_mem_nil⟩⟩⟩⟩⟩
theorem xTo_11 : ∀ q ∈ ([] : List (Nat × xV)), xTok (11, q) := fun _ h => absurd h List.not_mem_nil
theorem xTo_12 : ∀ q ∈ ([] : List (Nat × xV)), xTok (12, q) := fun _ h => absurd h List.not_mem_nil
theorem xTo_13 : ∀ q ∈ ([] : List (Nat × xV)), xTok (13, q) := fun _ h => absurd h List.not_mem_nil
theorem xcst_ok {own i : Nat} {q : xV} (h : xcst own i = some q) : xTok (own, i, q) := by
  unfold xcst at h
  cases hl : xcstT[own]? with
  | none => rw [hl] at h; cases h
  | some l =>
    rw [hl] at h
    have hm := xfin_mem h
    have hlt : own < xcstT.length := (List.getElem?_eq_some_iff.mp hl).1
    have hlen : xcstT.length = 14 := by decide +kernel
    match own, hlt, hl with
    | 0, _, hl => cases hl; exact xTo_0 _ hm
    | 1, _, hl => cases hl; exact xTo_1 _ hm
    | 2, _, hl => cases hl; exact xTo_2 _ hm
    | 3, _, hl => cases hl; exact xTo_3 _ hm
    | 4, _, hl => cases hl; exact xTo_4 _ hm
    | 5, _, hl => cases hl; exact xTo_5 _ hm
    | 6, _, hl => cases hl; exact xTo_6 _ hm
    | 7, _, hl => cases hl; exact xTo_7 _ hm
    | 8, _, hl => cases hl; exact xTo_8 _ hm
    | 9, _, hl => cases hl; exact xTo_9 _ hm
    | 10, _, hl => cases hl; exact xTo_10 _ hm
    | 11, _, hl => cases hl; exact xTo_11 _ hm
    | 12, _, hl => cases hl; exact xTo_12 _ hm
    | 13, _, hl => cases hl; exact xTo_13 _ hm
    | k + 14, hlt, _ => omega
def xJok (q : Nat × Nat × Nat) : Prop := (q.2.2 = 0 ∧ xG (.methodLink (xRn q.1) q.2.1 Lib.Math.max.name)) ∨ (q.2.2 = 1 ∧ xG (.methodLink (xRn q.1) q.2.1 Lib.Math.min.name))
def xJs_l0 : List (Nat × Nat × Nat) := [(2, 29, 0), (4, 88, 0), (5, 40, 0), (7, 103, 0), (8, 15, 0), (8, 33, 1), (9, 144, 0)]
theorem xJs_b0 : ∀ q ∈ xJs_l0, xJok q := List.forall_mem_cons.mpr ⟨Or.inl ⟨rfl, xg5 35 (by decide +kernel) rfl⟩, List.forall_mem_cons.mpr ⟨Or.inl ⟨rfl, xg4 73 (by decide +kernel) rfl⟩, List.forall_mem_cons.mpr ⟨Or.inl ⟨rfl, xg4 31 (by decide +kernel) rfl⟩, List.forall_mem_cons.mpr ⟨Or.inl ⟨rfl, xg2 154 (by decide +kernel) rfl⟩, List.forall_mem_cons.mpr ⟨Or.inl ⟨rfl, xg1 33 (by decide +kernel) rfl⟩, List.forall_mem_cons.mpr ⟨Or.inr ⟨rfl, xg2 224 (by decide +kernel) rfl⟩, List.forall_mem_cons.mpr ⟨Or.inl ⟨rfl, xg5 52 (by decide +kernel) rfl⟩, fun _ h => absurd h List.not_mem_nil⟩⟩⟩⟩⟩⟩⟩
def xJs_l : List (Nat × Nat × Nat) := xJs_l0
theorem xJs_all : ∀ q ∈ xJs_l, xJok q := xJs_b0
def xJin : Bool := (List.range 14).all (fun own => match xmatT[own]? with
  | some l => l.all (fun q => decide ((own, q) ∈ xJs_l))
  | none => true)
theorem xJin_ok : xJin = true := by decide +kernel
theorem xmat_ok {own i : Nat} {q : Nat} (h : xmat own i = some q) : xJok (own, i, q) := by
  unfold xmat at h
  cases hl : xmatT[own]? with
  | none => rw [hl] at h; cases h
  | some l =>
    rw [hl] at h
    have hlt : own < xmatT.length := (List.getElem?_eq_some_iff.mp hl).1
    have hlen : xmatT.length = 14 := by decide +kernel
    have h1 := List.all_eq_true.mp xJin_ok own (List.mem_range.mpr (by omega))
    rw [hl] at h1
    have h2 := List.all_eq_true.mp h1 _ (xfin_mem h)
    exact xJs_all _ (of_decide_eq_true h2)
def xOok (q : Nat × Nat × Nat) : Prop := xG (.methodLink (xRn q.1) q.2.1 Lib.objectInit)
def xOs_l0 : List (Nat × Nat × Nat) := [(0, 3, 0), (1, 3, 0), (2, 3, 0), (3, 3, 0), (4, 3, 0), (5, 3, 0), (6, 3, 0), (7, 3, 0), (8, 3, 0), (9, 1, 0), (10, 1, 0)]
theorem xOs_b0 : ∀ q ∈ xOs_l0, xOok q := List.forall_mem_cons.mpr ⟨(xg1 199 (by decide +kernel) rfl), List.forall_mem_cons.mpr ⟨(xg1 215 (by decide +kernel) rfl), List.forall_mem_cons.mpr ⟨(xg2 53 (by decide +kernel) rfl), List.forall_mem_cons.mpr ⟨(xg1 114 (by decide +kernel) rfl), List.forall_mem_cons.mpr ⟨(xg1 108 (by decide +kernel) rfl), List.forall_mem_cons.mpr ⟨(xg1 162 (by decide +kernel) rfl), List.forall_mem_cons.mpr ⟨(xg2 22 (by decide +kernel) rfl), List.forall_mem_cons.mpr ⟨(xg1 57 (by decide +kernel) rfl), List.forall_mem_cons.mpr ⟨(xg1 32 (by decide +kernel) rfl), List.forall_mem_cons.mpr ⟨(xg1 24 (by decide +kernel) rfl), List.forall_mem_cons.mpr ⟨(xg5 191 (by decide +kernel) rfl), fun _ h => absurd h List.not_mem_nil⟩⟩⟩⟩⟩⟩⟩⟩⟩⟩⟩
def xOs_l : List (Nat × Nat × Nat) := xOs_l0
theorem xOs_all : ∀ q ∈ xOs_l, xOok q := xOs_b0
def xOin : Bool := (List.range 14).all (fun own => match xobjT[own]? with
  | some l => l.all (fun q => decide ((own, q) ∈ xOs_l))
  | none => true)
theorem xOin_ok : xOin = true := by decide +kernel
theorem xobj_ok {own i : Nat} {q : Nat} (h : xobj own i = some q) : xOok (own, i, q) := by
  unfold xobj at h
  cases hl : xobjT[own]? with
  | none => rw [hl] at h; cases h
  | some l =>
    rw [hl] at h
    have hlt : own < xobjT.length := (List.getElem?_eq_some_iff.mp hl).1
    have hlen : xobjT.length = 14 := by decide +kernel
    have h1 := List.all_eq_true.mp xOin_ok own (List.mem_range.mpr (by omega))
    rw [hl] at h1
    have h2 := List.all_eq_true.mp h1 _ (xfin_mem h)
    exact xOs_all _ (of_decide_eq_true h2)
theorem xmath_max : xG (.static Lib.Math.max.name) ∧ xG (.code Lib.Math.max.name Lib.Math.max.code 2 (some .int)) := ⟨xg1 34 (by decide +kernel) rfl, xg1 35 (by decide +kernel) rfl⟩
theorem xmath_min : xG (.static Lib.Math.min.name) ∧ xG (.code Lib.Math.min.name Lib.Math.min.code 2 (some .int)) := ⟨xg2 225 (by decide +kernel) rfl, xg2 226 (by decide +kernel) rfl⟩
theorem xmath_ini : xG (.initialized "java/lang/Math") := xg1 3 (by decide +kernel) rfl
theorem xobj_w : xG (.instanceMethod Lib.objectInit) ∧ xG (.code Lib.objectInit ⟨#[0xb1]⟩ 1 none) := ⟨xg1 25 (by decide +kernel) rfl, xg1 26 (by decide +kernel) rfl⟩
theorem xarr_int : xG (.arrayClass .int) := xg1 47 (by decide +kernel) rfl
theorem xarr_char : xG (.arrayClass .char) := xg1 46 (by decide +kernel) rfl
theorem xarr_long : xG (.arrayClass .long) := xg7 200 (by decide +kernel) rfl
theorem xarr_over : Cond.arrayOver (.object (xCl 6).1) ∈ lw_tbl := (xh2 55 (by decide +kernel))
def xDc : List MethodName := [⟨"java/lang/RuntimeException", "<init>", "(Ljava/lang/String;)V"⟩, ⟨"java/lang/Exception", "<init>", "(Ljava/lang/String;)V"⟩, ⟨"java/lang/Throwable", "<init>", "(Ljava/lang/String;)V"⟩]
theorem xDc_all : ∀ q ∈ xDc, Cond.declares q ∈ lw_tbl := List.forall_mem_cons.mpr ⟨(xh3 40 (by decide +kernel)), List.forall_mem_cons.mpr ⟨(xh3 42 (by decide +kernel)), List.forall_mem_cons.mpr ⟨(xh3 44 (by decide +kernel)), fun _ h => absurd h List.not_mem_nil⟩⟩⟩
theorem xat_1 : ((vx_atS RX9 89 (xEn 1) ["java/lang/RuntimeException", "java/lang/Exception"]).filter goodWord).all (fun w => decide (w ∈ lw_tbl)) = true := by decide +kernel
theorem xau_1 : (vx_atS RX9 89 (xEn 1) ["java/lang/RuntimeException", "java/lang/Exception"]).filter (fun w => !goodWord w) = xDc.map Cond.declares ++ [.castable (xEn 1) (xEn 1)] := by decide +kernel
theorem xav_1 : (vx_atS RX9 89 (xEn 1) ["java/lang/RuntimeException", "java/lang/Exception"]).all vx_ot = true := by decide +kernel
theorem xat_2 : ((vx_atS RX9 176 (xEn 2) ["java/lang/RuntimeException", "java/lang/Exception"]).filter goodWord).all (fun w => decide (w ∈ lw_tbl)) = true := by decide +kernel
theorem xau_2 : (vx_atS RX9 176 (xEn 2) ["java/lang/RuntimeException", "java/lang/Exception"]).filter (fun w => !goodWord w) = xDc.map Cond.declares ++ [.castable (xEn 2) (xEn 2)] := by decide +kernel
theorem xav_2 : (vx_atS RX9 176 (xEn 2) ["java/lang/RuntimeException", "java/lang/Exception"]).all vx_ot = true := by decide +kernel
theorem xat_0 : ((vx_atS RX9 331 (xEn 0) ["java/lang/RuntimeException", "java/lang/Exception"]).filter goodWord).all (fun w => decide (w ∈ lw_tbl)) = true := by decide +kernel
theorem xau_0 : (vx_atS RX9 331 (xEn 0) ["java/lang/RuntimeException", "java/lang/Exception"]).filter (fun w => !goodWord w) = xDc.map Cond.declares ++ [.castable (xEn 0) (xEn 0)] := by decide +kernel
theorem xav_0 : (vx_atS RX9 331 (xEn 0) ["java/lang/RuntimeException", "java/lang/Exception"]).all vx_ot = true := by decide +kernel
def xSs : List (Nat × String) := [(87, "the buffer is full"), (132, "the value is full"), (157, "the escaped value is too long"), (174, "the value has no such place"), (191, "the output has no such place"), (200, "the latest rendering did not fail"), (208, "the failure has no such place"), (245, "no state is saved"), (253, "there is no snapshot"), (329, "the code is not 33 to 126"), (332, "there is no such variable"), (334, "the variable has no value"), (336, "the template is not complete"), (338, "the text is too long for a value")]
theorem xstr_87 : Cond.stringRef RX9 87 "the buffer is full" ∈ lw_tbl := (xh4 237 (by decide +kernel))
theorem xstr_132 : Cond.stringRef RX9 132 "the value is full" ∈ lw_tbl := (xh5 26 (by decide +kernel))
theorem xstr_157 : Cond.stringRef RX9 157 "the escaped value is too long" ∈ lw_tbl := (xh5 68 (by decide +kernel))
theorem xstr_174 : Cond.stringRef RX9 174 "the value has no such place" ∈ lw_tbl := (xh5 106 (by decide +kernel))
theorem xstr_191 : Cond.stringRef RX9 191 "the output has no such place" ∈ lw_tbl := (xh5 138 (by decide +kernel))
theorem xstr_200 : Cond.stringRef RX9 200 "the latest rendering did not fail" ∈ lw_tbl := (xh3 77 (by decide +kernel))
theorem xstr_208 : Cond.stringRef RX9 208 "the failure has no such place" ∈ lw_tbl := (xh3 118 (by decide +kernel))
theorem xstr_245 : Cond.stringRef RX9 245 "no state is saved" ∈ lw_tbl := (xh5 177 (by decide +kernel))
theorem xstr_253 : Cond.stringRef RX9 253 "there is no snapshot" ∈ lw_tbl := (xh5 185 (by decide +kernel))
theorem xstr_329 : Cond.stringRef RX9 329 "the code is not 33 to 126" ∈ lw_tbl := (xh4 230 (by decide +kernel))
theorem xstr_332 : Cond.stringRef RX9 332 "there is no such variable" ∈ lw_tbl := (xh3 140 (by decide +kernel))
theorem xstr_334 : Cond.stringRef RX9 334 "the variable has no value" ∈ lw_tbl := (xh3 149 (by decide +kernel))
theorem xstr_336 : Cond.stringRef RX9 336 "the template is not complete" ∈ lw_tbl := (xh4 89 (by decide +kernel))
theorem xstr_338 : Cond.stringRef RX9 338 "the text is too long for a value" ∈ lw_tbl := (xh5 80 (by decide +kernel))
theorem xSs_all : ∀ q ∈ xSs, Cond.stringRef RX9 q.1 q.2 ∈ lw_tbl := List.forall_mem_cons.mpr ⟨xstr_87, List.forall_mem_cons.mpr ⟨xstr_132, List.forall_mem_cons.mpr ⟨xstr_157, List.forall_mem_cons.mpr ⟨xstr_174, List.forall_mem_cons.mpr ⟨xstr_191, List.forall_mem_cons.mpr ⟨xstr_200, List.forall_mem_cons.mpr ⟨xstr_208, List.forall_mem_cons.mpr ⟨xstr_245, List.forall_mem_cons.mpr ⟨xstr_253, List.forall_mem_cons.mpr ⟨xstr_329, List.forall_mem_cons.mpr ⟨xstr_332, List.forall_mem_cons.mpr ⟨xstr_334, List.forall_mem_cons.mpr ⟨xstr_336, List.forall_mem_cons.mpr ⟨xstr_338, fun _ h => absurd h List.not_mem_nil⟩⟩⟩⟩⟩⟩⟩⟩⟩⟩⟩⟩⟩⟩
/-- a throw: the five instructions, and what they name -/
def xHok (q : Nat × Nat × Nat) : Prop := xown q.1 = 9 ∧ xhh q.1 = [] ∧ q.2.2 < 3 ∧ ∃ (ik is ic : Nat) (tx : String), (is, tx) ∈ xSs ∧ xG (.classLink RX9 ik (xEn q.2.2)) ∧ ((q.2.2 = 0 ∧ ic = 331) ∨ (q.2.2 = 1 ∧ ic = 89) ∨ (q.2.2 = 2 ∧ ic = 176)) ∧ decode (xby q.1) q.2.1 = .ok (.new ik, 3) ∧ decode (xby q.1) (q.2.1 + 3) = .ok (.dup, 1) ∧ ((decode (xby q.1) (q.2.1 + 4) = .ok (.ldc is, 2) ∧ decode (xby q.1) (q.2.1 + 6) = .ok (.invokespecial ic, 3) ∧ decode (xby q.1) (q.2.1 + 9) = .ok (.athrow, 1)) ∨ (decode (xby q.1) (q.2.1 + 4) = .ok (.ldc_w is, 3) ∧ decode (xby q.1) (q.2.1 + 7) = .ok (.invokespecial ic, 3) ∧ decode (xby q.1) (q.2.1 + 10) = .ok (.athrow, 1)))
theorem xth_105_7 : xHok (105, 7, 1) := ⟨by decide +kernel, by decide +kernel, by decide, 85, 200, 89, _, List.mem_of_getElem? (i := 5) rfl, xg3 36 (by decide +kernel) rfl, Or.inr (Or.inl ⟨rfl, rfl⟩), by decide +kernel, by decide +kernel, Or.inl ⟨by decide +kernel, by decide +kernel, by decide +kernel⟩⟩
theorem xth_106_12 : xHok (106, 12, 2) := ⟨by decide +kernel, by decide +kernel, by decide, 172, 208, 176, _, List.mem_of_getElem? (i := 6) rfl, xg3 109 (by decide +kernel) rfl, Or.inr (Or.inr ⟨rfl, rfl⟩), by decide +kernel, by decide +kernel, Or.inl ⟨by decide +kernel, by decide +kernel, by decide +kernel⟩⟩
theorem xth_108_10 : xHok (108, 10, 2) := ⟨by decide +kernel, by decide +kernel, by decide, 172, 332, 176, _, List.mem_of_getElem? (i := 10) rfl, xg3 109 (by decide +kernel) rfl, Or.inr (Or.inr ⟨rfl, rfl⟩), by decide +kernel, by decide +kernel, Or.inr ⟨by decide +kernel, by decide +kernel, by decide +kernel⟩⟩
theorem xth_110_21 : xHok (110, 21, 1) := ⟨by decide +kernel, by decide +kernel, by decide, 85, 334, 89, _, List.mem_of_getElem? (i := 11) rfl, xg3 36 (by decide +kernel) rfl, Or.inr (Or.inl ⟨rfl, rfl⟩), by decide +kernel, by decide +kernel, Or.inr ⟨by decide +kernel, by decide +kernel, by decide +kernel⟩⟩
theorem xth_117_22 : xHok (117, 22, 1) := ⟨by decide +kernel, by decide +kernel, by decide, 85, 336, 89, _, List.mem_of_getElem? (i := 12) rfl, xg3 36 (by decide +kernel) rfl, Or.inr (Or.inl ⟨rfl, rfl⟩), by decide +kernel, by decide +kernel, Or.inr ⟨by decide +kernel, by decide +kernel, by decide +kernel⟩⟩
theorem xth_126_16 : xHok (126, 16, 1) := ⟨by decide +kernel, by decide +kernel, by decide, 85, 87, 89, _, List.mem_of_getElem? (i := 0) rfl, xg3 36 (by decide +kernel) rfl, Or.inr (Or.inl ⟨rfl, rfl⟩), by decide +kernel, by decide +kernel, Or.inl ⟨by decide +kernel, by decide +kernel, by decide +kernel⟩⟩
theorem xth_127_12 : xHok (127, 12, 0) := ⟨by decide +kernel, by decide +kernel, by decide, 327, 329, 331, _, List.mem_of_getElem? (i := 9) rfl, xg4 221 (by decide +kernel) rfl, Or.inl ⟨rfl, rfl⟩, by decide +kernel, by decide +kernel, Or.inr ⟨by decide +kernel, by decide +kernel, by decide +kernel⟩⟩
theorem xth_128_26 : xHok (128, 26, 1) := ⟨by decide +kernel, by decide +kernel, by decide, 85, 132, 89, _, List.mem_of_getElem? (i := 1) rfl, xg3 36 (by decide +kernel) rfl, Or.inr (Or.inl ⟨rfl, rfl⟩), by decide +kernel, by decide +kernel, Or.inl ⟨by decide +kernel, by decide +kernel, by decide +kernel⟩⟩
theorem xth_132_18 : xHok (132, 18, 1) := ⟨by decide +kernel, by decide +kernel, by decide, 85, 157, 89, _, List.mem_of_getElem? (i := 2) rfl, xg3 36 (by decide +kernel) rfl, Or.inr (Or.inl ⟨rfl, rfl⟩), by decide +kernel, by decide +kernel, Or.inl ⟨by decide +kernel, by decide +kernel, by decide +kernel⟩⟩
theorem xth_134_12 : xHok (134, 12, 1) := ⟨by decide +kernel, by decide +kernel, by decide, 85, 338, 89, _, List.mem_of_getElem? (i := 13) rfl, xg3 36 (by decide +kernel) rfl, Or.inr (Or.inl ⟨rfl, rfl⟩), by decide +kernel, by decide +kernel, Or.inr ⟨by decide +kernel, by decide +kernel, by decide +kernel⟩⟩
theorem xth_137_15 : xHok (137, 15, 2) := ⟨by decide +kernel, by decide +kernel, by decide, 172, 174, 176, _, List.mem_of_getElem? (i := 3) rfl, xg3 109 (by decide +kernel) rfl, Or.inr (Or.inr ⟨rfl, rfl⟩), by decide +kernel, by decide +kernel, Or.inl ⟨by decide +kernel, by decide +kernel, by decide +kernel⟩⟩
theorem xth_139_12 : xHok (139, 12, 2) := ⟨by decide +kernel, by decide +kernel, by decide, 172, 191, 176, _, List.mem_of_getElem? (i := 4) rfl, xg3 109 (by decide +kernel) rfl, Or.inr (Or.inr ⟨rfl, rfl⟩), by decide +kernel, by decide +kernel, Or.inl ⟨by decide +kernel, by decide +kernel, by decide +kernel⟩⟩
theorem xth_141_14 : xHok (141, 14, 1) := ⟨by decide +kernel, by decide +kernel, by decide, 85, 245, 89, _, List.mem_of_getElem? (i := 7) rfl, xg3 36 (by decide +kernel) rfl, Or.inr (Or.inl ⟨rfl, rfl⟩), by decide +kernel, by decide +kernel, Or.inl ⟨by decide +kernel, by decide +kernel, by decide +kernel⟩⟩
theorem xth_142_7 : xHok (142, 7, 1) := ⟨by decide +kernel, by decide +kernel, by decide, 85, 253, 89, _, List.mem_of_getElem? (i := 8) rfl, xg3 36 (by decide +kernel) rfl, Or.inr (Or.inl ⟨rfl, rfl⟩), by decide +kernel, by decide +kernel, Or.inl ⟨by decide +kernel, by decide +kernel, by decide +kernel⟩⟩
def xHs_l0 : List (Nat × Nat × Nat) := [(105, 7, 1), (106, 12, 2), (108, 10, 2), (110, 21, 1), (117, 22, 1), (126, 16, 1), (127, 12, 0), (128, 26, 1), (132, 18, 1), (134, 12, 1), (137, 15, 2), (139, 12, 2), (141, 14, 1), (142, 7, 1)]
theorem xHs_b0 : ∀ q ∈ xHs_l0, xHok q := List.forall_mem_cons.mpr ⟨xth_105_7, List.forall_mem_cons.mpr ⟨xth_106_12, List.forall_mem_cons.mpr ⟨xth_108_10, List.forall_mem_cons.mpr ⟨xth_110_21, List.forall_mem_cons.mpr ⟨xth_117_22, List.forall_mem_cons.mpr ⟨xth_126_16, List.forall_mem_cons.mpr ⟨xth_127_12, List.forall_mem_cons.mpr ⟨xth_128_26, List.forall_mem_cons.mpr ⟨xth_132_18, List.forall_mem_cons.mpr ⟨xth_134_12, List.forall_mem_cons.mpr ⟨xth_137_15, List.forall_mem_cons.mpr ⟨xth_139_12, List.forall_mem_cons.mpr ⟨xth_141_14, List.forall_mem_cons.mpr ⟨xth_142_7, fun _ h => absurd h List.not_mem_nil⟩⟩⟩⟩⟩⟩⟩⟩⟩⟩⟩⟩⟩⟩
def xHs_l : List (Nat × Nat × Nat) := xHs_l0
theorem xHs_all : ∀ q ∈ xHs_l, xHok q := xHs_b0
theorem xHs_eq : xthrT = xHs_l := by decide +kernel
theorem xthr_ok {mi pc E : Nat} (h : xthr mi pc = some E) : xHok (mi, pc, E) := by
  unfold xthr at h
  cases hf : xthrT.find? (fun q => Nat.beq q.1 mi && Nat.beq q.2.1 pc) with
  | none => rw [hf] at h; cases h
  | some q =>
    rw [hf] at h
    have h1 := List.find?_some hf
    have h2 := List.mem_of_find?_eq_some hf
    rw [xHs_eq] at h2
    have h3 := xHs_all q h2
    obtain ⟨a, b, e⟩ := q
    simp only [Bool.and_eq_true] at h1
    have e1 := Nat.eq_of_beq_eq_true h1.1
    have e2 := Nat.eq_of_beq_eq_true h1.2
    simp only at e1 e2 h
    cases h
    subst e1; subst e2
    exact h3
end
section
/-! ===== how the small machine's things stand in the machine ===== -/
theorem xi_toInt {x : Int} (h : xin x) : (Int32.ofInt x).toInt = x := Int32.toInt_ofInt_of_le (by have := h.1; omega) (by have := h.2; omega)
theorem xi_eq {x y : Int} (hx : xin x) (hy : xin y) : Int32.ofInt x = Int32.ofInt y ↔ x = y := by
  constructor
  · intro h
    have h2 := congrArg Int32.toInt h
    rwa [xi_toInt hx, xi_toInt hy] at h2
  · intro h; rw [h]
theorem xi_lt {x y : Int} (hx : xin x) (hy : xin y) : Int32.ofInt x < Int32.ofInt y ↔ x < y := by
  rw [Int32.lt_iff_toInt_lt, xi_toInt hx, xi_toInt hy]
theorem xi_le {x y : Int} (hx : xin x) (hy : xin y) : Int32.ofInt x ≤ Int32.ofInt y ↔ x ≤ y := by
  rw [Int32.le_iff_toInt_le, xi_toInt hx, xi_toInt hy]
theorem xi_zero : (0 : Int32) = Int32.ofInt 0 := by decide
theorem xin0 : xin 0 := by decide
theorem xi_nat {x : Int} (h : xin x) : (Int32.ofInt x).toNatClampNeg = x.toNat := by
  show (Int32.ofInt x).toInt.toNat = x.toNat
  rw [xi_toInt h]
theorem xi_of (y : Int32) : Int32.ofInt y.toInt = y := Int32.ofInt_toInt y
theorem xin_of (y : Int32) : xin y.toInt := by
  have h1 := y.le_toInt
  have h2 := y.toInt_lt
  exact ⟨by omega, by omega⟩
theorem xi_add (x y : Int) : Int32.ofInt x + Int32.ofInt y = Int32.ofInt (x + y) := (Int32.ofInt_add x y).symm
theorem xi_sub (x y : Int) : Int32.ofInt x - Int32.ofInt y = Int32.ofInt (x - y) := (Int32.ofInt_sub x y).symm
theorem xi_mul (x y : Int) : Int32.ofInt x * Int32.ofInt y = Int32.ofInt (x * y) := (Int32.ofInt_mul x y).symm
def xad (b B a : Nat) : Nat := if a = 0 then b else B + a
def xm (b B : Nat) : xV → Value
  | .inl x => .int (Int32.ofInt x)
  | .inr (.inl none) => .null
  | .inr (.inl (some a)) => .ref (xad b B a)
  | .inr (.inr (.inl l)) => .long l
  | .inr (.inr (.inr d)) => .double d
def xmI : Option xV → Int32
  | some (.inl x) => Int32.ofInt x
  | _ => 0
def xmL : Option xV → Int64
  | some (.inr (.inr (.inl l))) => l
  | _ => 0
def xmR (b B : Nat) : Option xV → Option Nat
  | some (.inr (.inl (some a))) => some (xad b B a)
  | _ => none
def xca (b B : Nat) (t : Nat) (vs : List xV) : vp_A := (vs.length, if t = 102 then .inr (.inl (fun j => xmL vs[j]?)) else if t = 103 then .inr (.inr (.inr (.inr (fun j => xmR b B vs[j]?)))) else .inl (fun j => xmI vs[j]?))
def xce (b B : Nat) (ca : Nat → ClassId) (c : xC) : va_E := if c.1 < 100 then .inr (c.1, c.2.map (xm b B)) else .inl (ca c.1, xca b B c.1 c.2)
def xwl (b B : Nat) (ca : Nat → ClassId) : Nat → xH → va_W
  | _, [] => []
  | n, c :: t => (n, xce b B ca c) :: xwl b B ca (n + 1) t
def xw (b B : Nat) (ca : Nat → ClassId) (ph : xH) : va_W := xwl b B ca (B + 1) ph.tail
theorem xwl_get (b B : Nat) (ca : Nat → ClassId) : ∀ (l : xH) (n k : Nat), (xwl b B ca n l)[k]? = (l[k]?).map (fun c => (n + k, xce b B ca c)) := by
  intro l
  induction l with
  | nil => intro n k; simp [xwl]
  | cons c t ih =>
    intro n k
    cases k with
    | zero => simp [xwl]
    | succ k =>
      simp only [xwl, List.getElem?_cons_succ, ih]
      rw [show n + 1 + k = n + (k + 1) by omega]
theorem xwl_set (b B : Nat) (ca : Nat → ClassId) (c : xC) : ∀ (l : xH) (n k : Nat), xwl b B ca n (l.set k c) = (xwl b B ca n l).set k (n + k, xce b B ca c) := by
  intro l
  induction l with
  | nil => intro n k; simp [xwl]
  | cons d t ih =>
    intro n k
    cases k with
    | zero => simp [xwl]
    | succ k =>
      simp only [xwl, List.set_cons_succ, ih]
      rw [show n + 1 + k = n + (k + 1) by omega]
theorem xwl_app (b B : Nat) (ca : Nat → ClassId) (c : xC) : ∀ (l : xH) (n : Nat), xwl b B ca n (l ++ [c]) = xwl b B ca n l ++ [(n + l.length, xce b B ca c)] := by
  intro l
  induction l with
  | nil => intro n; simp [xwl]
  | cons d t ih =>
    intro n
    simp only [xwl, List.cons_append, ih, List.length_cons]
    rw [show n + 1 + t.length = n + (t.length + 1) by omega]
theorem xw_get {b B : Nat} {ca : Nat → ClassId} {ph : xH} {a : Nat} {c : xC} (ha : a ≠ 0) (h : ph[a]? = some c) : (xw b B ca ph)[a - 1]? = some (B + a, xce b B ca c) := by
  cases ph with
  | nil => simp at h
  | cons d t =>
    obtain ⟨k, rfl⟩ : ∃ k, a = k + 1 := ⟨a - 1, by omega⟩
    simp only [List.getElem?_cons_succ] at h
    simp only [xw, List.tail_cons, xwl_get, Nat.add_sub_cancel, h, Option.map_some]
    rw [show B + 1 + k = B + (k + 1) by omega]
theorem xw_set {b B : Nat} {ca : Nat → ClassId} {ph : xH} {a : Nat} {c : xC} (ha : a ≠ 0) : xw b B ca (ph.set a c) = (xw b B ca ph).set (a - 1) (B + a, xce b B ca c) := by
  cases ph with
  | nil => simp [xw, xwl]
  | cons d t =>
    obtain ⟨k, rfl⟩ : ∃ k, a = k + 1 := ⟨a - 1, by omega⟩
    simp only [xw, List.set_cons_succ, List.tail_cons, xwl_set, Nat.add_sub_cancel]
    rw [show B + 1 + k = B + (k + 1) by omega]
theorem xw_app {b B : Nat} {ca : Nat → ClassId} {ph : xH} {c : xC} (h : ph ≠ []) : xw b B ca (ph ++ [c]) = xw b B ca ph ++ [(B + ph.length, xce b B ca c)] := by
  cases ph with
  | nil => exact absurd rfl h
  | cons d t =>
    simp only [xw, List.cons_append, List.tail_cons, xwl_app, List.length_cons]
    rw [show B + 1 + t.length = B + (t.length + 1) by omega]
def xwf : xV → Prop
  | .inl x => xin x
  | _ => True
def xwfs (l : List xV) : Prop := ∀ v ∈ l, xwf v
theorem xwfs_cons {v : xV} {l : List xV} : xwfs (v :: l) ↔ xwf v ∧ xwfs l := List.forall_mem_cons
def xwfl (lv : xL) : Prop := ∀ k v, lv k = some v → xwf v
theorem xno2_some {o : Option xV} {v : xV} (h : xno2 o = some v) : o = some v ∧ xcat2 v = false := by
  cases o with
  | none => cases h
  | some w =>
    rcases w with x | x | x
    · simp only [xno2, Option.some.injEq] at h; subst h; exact ⟨rfl, rfl⟩
    · simp only [xno2, Option.some.injEq] at h; subst h; exact ⟨rfl, rfl⟩
    · cases h
theorem xset_wf {lv : xL} {i : Nat} {v : xV} (h : xwfl lv) (hv : xwf v) : xwfl (xset lv i v) := by
  intro k w hk
  unfold xset at hk
  split at hk
  · cases hk; exact hv
  · split at hk
    · exact h _ _ (xno2_some hk).1
    · exact h _ _ hk
theorem xset2_wf {lv : xL} {i : Nat} {v : xV} (h : xwfl lv) (hv : xwf v) : xwfl (xset2 lv i v) := by
  intro k w hk
  unfold xset2 at hk
  split at hk
  · cases hk; exact hv
  · split at hk
    · cases hk
    · split at hk
      · exact h _ _ (xno2_some hk).1
      · exact h _ _ hk
theorem xclr_wf {lv : xL} {i : Nat} (h : xwfl lv) : xwfl (xclr lv i) := by
  intro k w hk
  unfold xclr at hk
  split at hk
  · cases hk
  · split at hk
    · exact h _ _ (xno2_some hk).1
    · exact h _ _ hk
theorem xent_i (x : Int) (t : List xV) (k : Nat) : xent (.inl x :: t) (k + 1) = xent t k := rfl
theorem xent_r (x : Option Nat) (t : List xV) (k : Nat) : xent (.inr (.inl x) :: t) (k + 1) = xent t k := rfl
theorem xent_2 (x : Int64 ⊕ UInt64) (t : List xV) (k : Nat) : xent (.inr (.inr x) :: t) (k + 2) = xent t k := rfl
theorem xent_wf {as : List xV} (h : xwfs as) : xwfl (xent as) := by
  intro k
  induction as generalizing k with
  | nil => intro v hk; cases hk
  | cons a t ih =>
    intro v hk
    have h1 := xwfs_cons.mp h
    match a, k, hk with
    | _, 0, hk => simp only [xent, Option.some.injEq] at hk; subst hk; exact h1.1
    | .inl _, k + 1, hk => rw [xent_i] at hk; exact ih h1.2 k v hk
    | .inr (.inl _), k + 1, hk => rw [xent_r] at hk; exact ih h1.2 k v hk
    | .inr (.inr _), 1, hk => cases hk
    | .inr (.inr _), k + 2, hk => rw [xent_2] at hk; exact ih h1.2 k v hk
theorem xasz_eq (b B : Nat) (as : List xV) : (lg_sl (as.map (xm b B))).length = xasz as := by
  induction as with
  | nil => rfl
  | cons a t ih =>
    have e : lg_sl (List.map (xm b B) (a :: t)) = (if (xm b B a).category = 2 then [.val (xm b B a), .second] else [.val (xm b B a)]) ++ lg_sl (t.map (xm b B)) := rfl
    rw [e, List.length_append, ih]
    rcases a with x | x | x | x
    · rfl
    · cases x <;> rfl
    · rfl
    · rfl
theorem xcat_eq (b B : Nat) (v : xV) : (xm b B v).category = if xcat2 v then 2 else 1 := by
  rcases v with x | x | x | x
  · rfl
  · cases x <;> rfl
  · rfl
  · rfl
/-- the locals of the machine hold those of the small one -/
def xlvR (b B : Nat) (ls : Array Slot) (nL : Nat) (lv : xL) : Prop := ls.size = nL ∧ lv_wf ls ∧ ∀ k v, lv k = some v → ls[k]? = some (.val (xm b B v))
def xls (b B : Nat) (nL : Nat) (lv : xL) : List (Nat × Value) := (List.range nL).filterMap (fun k => (lv k).map (fun v => (k, xm b B v)))
theorem xls_mem {b B nL : Nat} {lv : xL} {q : Nat × Value} : q ∈ xls b B nL lv ↔ ∃ v, q.1 < nL ∧ lv q.1 = some v ∧ q.2 = xm b B v := by
  unfold xls
  rw [List.mem_filterMap]
  constructor
  · rintro ⟨k, hk, h⟩
    rw [Option.map_eq_some_iff] at h
    obtain ⟨v, hv, rfl⟩ := h
    exact ⟨v, List.mem_range.mp hk, hv, rfl⟩
  · rintro ⟨v, h1, h2, h3⟩
    refine ⟨q.1, List.mem_range.mpr h1, ?_⟩
    rw [h2, Option.map_some, ← h3]
theorem xlvR_has {b B nL : Nat} {ls : Array Slot} {lv : xL} (h : xlvR b B ls nL lv) : lv_has ls nL (xls b B nL lv) := by
  refine ⟨h.1, h.2.1, fun q hq => ?_⟩
  obtain ⟨v, -, h2, h3⟩ := xls_mem.mp hq
  rw [h3]; exact h.2.2 _ _ h2
theorem xlvR_lt {b B nL : Nat} {ls : Array Slot} {lv : xL} (h : xlvR b B ls nL lv) {k : Nat} {v : xV} (hk : lv k = some v) : k < nL := by
  have h1 := h.2.2 k v hk
  rw [← h.1]
  exact (Array.getElem?_eq_some_iff.mp h1).1
theorem xlvR_set {b B nL i : Nat} {ls ls' : Array Slot} {lv : xL} {v : xV} (h : xlvR b B ls nL lv) (h' : lv_has ls' nL ((i, xm b B v) :: (xls b B nL lv).filter (fun q => !(q.1 == i) && !(q.1 + 1 == i && q.2.category == 2)))) : xlvR b B ls' nL (xset lv i v) := by
  refine ⟨h'.1, h'.2.1, fun k w hk => ?_⟩
  unfold xset at hk
  split at hk
  · rename_i hki
    cases hk
    rw [hki]
    exact h'.2.2 (i, xm b B v) List.mem_cons_self
  · rename_i hki
    refine h'.2.2 (k, xm b B w) (List.mem_cons_of_mem _ (List.mem_filter.mpr ⟨?_, ?_⟩))
    · split at hk
      · have h1 := (xno2_some hk).1
        exact xls_mem.mpr ⟨w, xlvR_lt h h1, h1, rfl⟩
      · exact xls_mem.mpr ⟨w, xlvR_lt h hk, hk, rfl⟩
    · split at hk
      · have h1 := (xno2_some hk).2
        simp [xcat_eq, h1, hki]
      · rename_i h2
        simp [hki, h2]
theorem xlvR_clr {b B nL i : Nat} {ls ls' : Array Slot} {lv : xL} {v : Value} (h : xlvR b B ls nL lv) (h' : lv_has ls' nL ((i, v) :: (xls b B nL lv).filter (fun q => !(q.1 == i) && !(q.1 + 1 == i && q.2.category == 2)))) : xlvR b B ls' nL (xclr lv i) := by
  refine ⟨h'.1, h'.2.1, fun k w hk => ?_⟩
  unfold xclr at hk
  split at hk
  · cases hk
  · rename_i hki
    refine h'.2.2 (k, xm b B w) (List.mem_cons_of_mem _ (List.mem_filter.mpr ⟨?_, ?_⟩))
    · split at hk
      · have h1 := (xno2_some hk).1
        exact xls_mem.mpr ⟨w, xlvR_lt h h1, h1, rfl⟩
      · exact xls_mem.mpr ⟨w, xlvR_lt h hk, hk, rfl⟩
    · split at hk
      · have h1 := (xno2_some hk).2
        simp [xcat_eq, h1, hki]
      · rename_i h2
        simp [hki, h2]
theorem xlvR_set2 {b B nL i : Nat} {ls ls' : Array Slot} {lv : xL} {v : xV} (h : xlvR b B ls nL lv) (h' : lv_has ls' nL ((i, xm b B v) :: (xls b B nL lv).filter (fun q => !(q.1 == i) && (!(q.1 == i + 1) && !(q.1 + 1 == i && q.2.category == 2))))) : xlvR b B ls' nL (xset2 lv i v) := by
  refine ⟨h'.1, h'.2.1, fun k w hk => ?_⟩
  unfold xset2 at hk
  split at hk
  · rename_i hki
    cases hk
    rw [hki]
    exact h'.2.2 (i, xm b B v) List.mem_cons_self
  · rename_i hki
    split at hk
    · cases hk
    · rename_i hki2
      refine h'.2.2 (k, xm b B w) (List.mem_cons_of_mem _ (List.mem_filter.mpr ⟨?_, ?_⟩))
      · split at hk
        · have h1 := (xno2_some hk).1
          exact xls_mem.mpr ⟨w, xlvR_lt h h1, h1, rfl⟩
        · exact xls_mem.mpr ⟨w, xlvR_lt h hk, hk, rfl⟩
      · split at hk
        · have h1 := (xno2_some hk).2
          simp [xcat_eq, h1, hki, hki2]
        · rename_i h2
          simp [hki, hki2, h2]
theorem xlvR_ent {b B nL : Nat} {ls : Array Slot} (as : List xV) (h : lv_has ls nL (lv_args 0 (as.map (xm b B)))) : xlvR b B ls nL (xent as) := by
  refine ⟨h.1, h.2.1, ?_⟩
  have key : ∀ (as : List xV) (i k : Nat) (v : xV), xent as k = some v → (i + k, xm b B v) ∈ lv_args i (as.map (xm b B)) := by
    intro as
    induction as with
    | nil => intro i k v hk; cases k <;> cases hk
    | cons a t ih =>
      intro i k v hk
      match a, k, hk with
      | _, 0, hk => simp only [xent, Option.some.injEq] at hk; subst hk; exact List.mem_cons_self
      | .inl x, k + 1, hk =>
        rw [xent_i] at hk
        have := ih (i + 1) k v hk
        rw [show i + 1 + k = i + (k + 1) by omega] at this
        exact List.mem_cons_of_mem _ this
      | .inr (.inl x), k + 1, hk =>
        rw [xent_r] at hk
        have := ih (i + 1) k v hk
        rw [show i + 1 + k = i + (k + 1) by omega] at this
        refine List.mem_cons_of_mem _ ?_
        rw [xcat_eq]
        exact this
      | .inr (.inr _), 1, hk => cases hk
      | .inr (.inr x), k + 2, hk =>
        rw [xent_2] at hk
        have := ih (i + 2) k v hk
        rw [show i + 2 + k = i + (k + 2) by omega] at this
        refine List.mem_cons_of_mem _ ?_
        rw [xcat_eq]
        exact this
  intro k v hk
  have h1 := key as 0 k v hk
  rw [Nat.zero_add] at h1
  exact h.2.2 _ h1
end
section
/-! ===== the world of the small machine in the heap; what else must stand, and that it stays ===== -/
abbrev xA (B : Nat) : Nat → Prop := fun q => B < q
def xtys (ca : Nat → ClassId) : List (ClassId × FieldType) := [(ca 100, .int), (ca 101, .char), (ca 102, .long), (ca 103, .object (xCl 6).1)]
def xwfH (ph : xH) : Prop := ∀ c ∈ ph, xwfs c.2
def xRelH (b B : Nat) (D : va_G) (ca : Nat → ClassId) (xs : List xV) (ph : xH) (g : Nat) (H : Heap) : Prop :=
  va_P D vwCl (xw b B ca ph) H ∧ va_D (xA B) (xw b B ca ph) ∧ (g = 0 → H.size = B + ph.length) ∧ B + ph.length ≤ H.size ∧ (∃ t, ph = (200, xs) :: t ∧ ∀ c ∈ t, c.1 < 104) ∧ xwfH ph
def xCb (E : String) (U : State) : Prop := ∃ c : ClassId, U.vm.findClass E = some c ∧ U.vm.assignable c c = true
theorem xCb.moved {E : String} {u U : State} (hvm : u.vm.Alike U.vm) (h : xCb E u) : xCb E U := by
  obtain ⟨c, h1, h2⟩ := h
  exact ⟨c, by rw [hvm.findClass]; exact h1, by rw [hvm.assignable]; exact h2⟩
theorem xCb.of {args : Array Value} {s : State} {E : String} (h : (Cond.castable E E).before args s = true) : xCb E s := by
  obtain ⟨c, t, h1, h2, h3⟩ := Cond.castable_spec h
  cases Option.some.inj (h1.symm.trans h2)
  exact ⟨c, h1, h3⟩
theorem xCb.use {args : Array Value} {s : State} {E : String} (h : xCb E s) : (Cond.castable E E).before args s = true := by
  obtain ⟨c, h1, h2⟩ := h
  simp [Cond.before, Cond.holds, Cond.value, h1, h2]
def xNw (U : State) : Prop := (∀ a i r n d h, Cond.fieldLinkNest a i r n d h ∈ lw_tbl → va_Nw (.fieldLinkNest a i r n d h) U) ∧ (∀ a i x h, Cond.methodLinkNest a i x h ∈ lw_tbl → va_Nw (.methodLinkNest a i x h) U)
def xFx (b B : Nat) (D : va_G) (ca : Nat → ClassId) (xs : List xV) (U : State) : Prop :=
  va_K D vwCl (xtys ca) U ∧ (vx_Zq Bundle.tN "UNASSIGNED_STACK" Bundle.steD (xA B) U U.heap ∧ vx_Zq Bundle.tN "SUPPRESSED_SENTINEL" Bundle.listD (xA B) U U.heap) ∧
  (∀ q ∈ xSs, ∃ sa, vk_R RX9 q.1 q.2 sa U) ∧ (∀ q ∈ xDc, va_Nw (.declares q) U) ∧ (∀ e, e < 3 → xCb (xEn e) U) ∧ (∀ e e2, e < 3 → e2 < 3 → e ≠ e2 → va_Nc (xEn e) (xEn e2) U) ∧
  va_AO (xCl 6).1 U ∧ xNw U ∧ va_X b xs.length (fun j => xmI xs[j]?) U U.heap ∧ b ≤ B ∧ B < U.heap.size
theorem xFx_go {b B : Nat} {D : va_G} {ca : Nat → ClassId} {xs : List xV} {s U : State} {H : Heap} (h : xFx b B D ca xs s) (hW : s.WarmedH U.vm) (hU : U.heap = H) (hz : s.heap.size ≤ H.size) (hk : ∀ q : Nat, q < s.heap.size → ¬ xA B q → H[q]? = s.heap[q]?) : xFx b B D ca xs U := by
  subst hU
  obtain ⟨h1, ⟨h2, h3⟩, h4, h5, h6, h7, h8, h9, h10, h11, h12⟩ := h
  refine ⟨va_K.moved hW.alike h1, ⟨(vx_Zq.moved hW.alike h2).kept hk, (vx_Zq.moved hW.alike h3).kept hk⟩, fun q hq => ?_, fun q hq => va_Nw.warmD hW (h5 q hq), fun e he => (h6 e he).moved hW.alike, fun e e2 a1 a2 a3 => (h7 e e2 a1 a2 a3).moved hW.alike, va_AO.moved hW.alike h8, ⟨fun a i r n d h0 hm => va_Nw.warmF hW (h9.1 a i r n d h0 hm), fun a i x h0 hm => va_Nw.warmM hW (h9.2 a i x h0 hm)⟩, ?_, h11, Nat.lt_of_lt_of_le h12 hz⟩
  · obtain ⟨sa, hsa⟩ := h4 q hq
    exact ⟨sa, vk_R.warm hW hsa⟩
  · exact (va_X.moved hW.alike h10).kept (hk b (Nat.lt_of_le_of_lt h11 h12) (Nat.not_lt.mpr h11))
def xsl (ph : xH) : Nat := (ph.map (fun c => c.2.length)).sum
def xcc (ph : xH) (g : Nat) : Nat := ph.length + g
def xcs (ph : xH) (g : Nat) : Nat := xsl ph + 6 * g
theorem xsl_app (ph : xH) (c : xC) : xsl (ph ++ [c]) = xsl ph + c.2.length := by simp [xsl]
theorem xsl_set {ph : xH} {a : Nat} {c d : xC} (h : ph[a]? = some c) (hl : d.2.length = c.2.length) : xsl (ph.set a d) = xsl ph := by
  induction ph generalizing a with
  | nil => simp at h
  | cons e t ih =>
    cases a with
    | zero =>
      simp only [List.getElem?_cons_zero, Option.some.injEq] at h
      subst h
      simp [xsl, hl]
    | succ a =>
      simp only [List.getElem?_cons_succ] at h
      have := ih h
      simp only [xsl, List.set_cons_succ, List.map_cons, List.sum_cons] at this ⊢
      omega
theorem xRelH_at {b B : Nat} {D : va_G} {ca : Nat → ClassId} {xs : List xV} {ph : xH} {g : Nat} {H : Heap} (h : xRelH b B D ca xs ph g H) {a t : Nat} {vs : List xV} (hc : ph[a]? = some (t, vs)) (ht : t ≠ 200) : a ≠ 0 ∧ (xw b B ca ph)[a - 1]? = some (xad b B a, xce b B ca (t, vs)) := by
  obtain ⟨-, -, -, -, ⟨r, hr, -⟩, -⟩ := h
  have ha : a ≠ 0 := by
    rintro rfl
    rw [hr] at hc
    simp only [List.getElem?_cons_zero, Option.some.injEq, Prod.mk.injEq] at hc
    exact ht hc.1.symm
  refine ⟨ha, ?_⟩
  rw [xw_get ha hc]
  unfold xad
  rw [if_neg ha]
theorem xRelH_wf {b B : Nat} {D : va_G} {ca : Nat → ClassId} {xs : List xV} {ph : xH} {g : Nat} {H : Heap} (h : xRelH b B D ca xs ph g H) {a : Nat} {c : xC} (hc : ph[a]? = some c) {k : Nat} {v : xV} (hv : c.2[k]? = some v) : xwf v :=
  h.2.2.2.2.2 c (List.mem_of_getElem? hc) v (List.mem_of_getElem? hv)
theorem xRelH_tag {b B : Nat} {D : va_G} {ca : Nat → ClassId} {xs : List xV} {ph : xH} {g : Nat} {H : Heap} (h : xRelH b B D ca xs ph g H) {a t : Nat} {vs : List xV} (hc : ph[a]? = some (t, vs)) : (a = 0 ∧ t = 200 ∧ vs = xs) ∨ (a ≠ 0 ∧ t < 104) := by
  obtain ⟨-, -, -, -, ⟨r, hr, h7⟩, -⟩ := h
  cases a with
  | zero =>
    rw [hr] at hc
    simp only [List.getElem?_cons_zero, Option.some.injEq, Prod.mk.injEq] at hc
    exact Or.inl ⟨rfl, hc.1.symm, hc.2.symm⟩
  | succ k =>
    have h8 : r[k]? = some (t, vs) := by rw [hr] at hc; simpa using hc
    exact Or.inr ⟨by omega, h7 _ (List.mem_of_getElem? h8)⟩
/-- a cell written anew -/
theorem xRelH_set {b B : Nat} {D : va_G} {ca : Nat → ClassId} {xs : List xV} {ph : xH} {g : Nat} {H H1 : Heap} (h : xRelH b B D ca xs ph g H) {a t : Nat} {vs vs' : List xV} (hc : ph[a]? = some (t, vs)) (ht : t ≠ 200) (hz : H1.size = H.size) (hw : xwfs vs')
    (hP : va_P D vwCl ((xw b B ca ph).set (a - 1) (xad b B a, xce b B ca (t, vs'))) H1) (hD : va_D (xA B) ((xw b B ca ph).set (a - 1) (xad b B a, xce b B ca (t, vs')))) : xRelH b B D ca xs (ph.set a (t, vs')) g H1 := by
  obtain ⟨ha, -⟩ := xRelH_at h hc ht
  obtain ⟨h1, h2, h3, h4, ⟨r, hr, h7⟩, h6⟩ := h
  have e : xw b B ca (ph.set a (t, vs')) = (xw b B ca ph).set (a - 1) (xad b B a, xce b B ca (t, vs')) := by
    rw [xw_set ha]; unfold xad; rw [if_neg ha]
  refine ⟨by rw [e]; exact hP, by rw [e]; exact hD, fun hg => by rw [hz, List.length_set]; exact h3 hg, by rw [hz, List.length_set]; exact h4, ?_, ?_⟩
  · obtain ⟨k, rfl⟩ : ∃ k, a = k + 1 := ⟨a - 1, by omega⟩
    refine ⟨r.set k (t, vs'), by rw [hr]; rfl, fun c hm => ?_⟩
    rcases List.mem_or_eq_of_mem_set hm with h | h
    · exact h7 c h
    · rw [h]
      have h8 : r[k]? = some (t, vs) := by rw [hr] at hc; simpa using hc
      exact h7 (t, vs) (List.mem_of_getElem? h8)
  · intro c hm
    rcases List.mem_or_eq_of_mem_set hm with h | h
    · exact h6 c h
    · rw [h]; exact hw
/-- a cell that is made -/
theorem xRelH_app {b B : Nat} {D : va_G} {ca : Nat → ClassId} {xs : List xV} {ph : xH} {H H1 : Heap} (h : xRelH b B D ca xs ph 0 H) {t q : Nat} {vs : List xV} (ht : t < 104) (hq : q = B + ph.length) (hz : H1.size = H.size + 1) (hw : xwfs vs)
    (hP : va_P D vwCl (xw b B ca ph ++ [(q, xce b B ca (t, vs))]) H1) (hD : va_D (xA B) (xw b B ca ph ++ [(q, xce b B ca (t, vs))])) : xRelH b B D ca xs (ph ++ [(t, vs)]) 0 H1 := by
  obtain ⟨h1, h2, h3, h4, ⟨r, hr, h7⟩, h6⟩ := h
  subst hq
  have hne : ph ≠ [] := by rw [hr]; exact List.cons_ne_nil _ _
  have e : xw b B ca (ph ++ [(t, vs)]) = xw b B ca ph ++ [(B + ph.length, xce b B ca (t, vs))] := xw_app hne
  refine ⟨by rw [e]; exact hP, by rw [e]; exact hD, fun hg => by rw [hz, List.length_append, h3 rfl]; simp; omega, by rw [hz, List.length_append]; simp; omega, ⟨r ++ [(t, vs)], by rw [hr]; rfl, fun c hm => ?_⟩, ?_⟩
  · rcases List.mem_append.mp hm with h | h
    · exact h7 c h
    · rw [List.mem_singleton.mp h]; exact ht
  intro c hm
  rcases List.mem_append.mp hm with h | h
  · exact h6 c h
  · rw [List.mem_singleton.mp h]; exact hw
theorem xRelH_kept {b B : Nat} {D : va_G} {ca : Nat → ClassId} {xs : List xV} {ph : xH} {g : Nat} {H H1 : Heap} (h : xRelH b B D ca xs ph g H) (hz : H.size ≤ H1.size) (hk : ∀ q : Nat, q < H.size → H1[q]? = H[q]?) : xRelH b B D ca xs ph (g + 1) H1 := by
  obtain ⟨h1, h2, h3, h4, h5, h6⟩ := h
  exact ⟨h1.kept (fun k q hq => hk q.1 (h1 k q hq).lt), h2, fun hg => by omega, by omega, h5, h6⟩
theorem xce_obj (b B : Nat) (ca : Nat → ClassId) {t : Nat} (h : t < 100) (vs : List xV) : xce b B ca (t, vs) = .inr (t, vs.map (xm b B)) := by
  unfold xce; rw [if_pos h]
theorem xce_i (b B : Nat) (ca : Nat → ClassId) (vs : List xV) : xce b B ca (100, vs) = .inl (ca 100, vs.length, .inl (fun j => xmI vs[j]?)) := rfl
theorem xce_c (b B : Nat) (ca : Nat → ClassId) (vs : List xV) : xce b B ca (101, vs) = .inl (ca 101, vs.length, .inl (fun j => xmI vs[j]?)) := rfl
theorem xce_l (b B : Nat) (ca : Nat → ClassId) (vs : List xV) : xce b B ca (102, vs) = .inl (ca 102, vs.length, .inr (.inl (fun j => xmL vs[j]?))) := rfl
theorem xce_q (b B : Nat) (ca : Nat → ClassId) (vs : List xV) : xce b B ca (103, vs) = .inl (ca 103, vs.length, .inr (.inr (.inr (.inr (fun j => xmR b B vs[j]?))))) := rfl
theorem xupd_i (vs : List xV) {i : Nat} (hi : i < vs.length) (x : Int) : upd (fun j => xmI vs[j]?) i (Int32.ofInt x) = fun j => xmI (vs.set i (.inl x))[j]? := by
  funext j
  unfold upd
  by_cases h : j = i
  · subst h; simp [hi, xmI]
  · rw [if_neg h, List.getElem?_set_ne (Ne.symm h)]
theorem xupd_l (vs : List xV) {i : Nat} (hi : i < vs.length) (x : Int64) : vp_updL (fun j => xmL vs[j]?) i x = fun j => xmL (vs.set i (.inr (.inr (.inl x))))[j]? := by
  funext j
  unfold vp_updL
  by_cases h : j = i
  · subst h; simp [hi, xmL]
  · rw [if_neg h, List.getElem?_set_ne (Ne.symm h)]
theorem xupd_q (b B : Nat) (vs : List xV) {i : Nat} (hi : i < vs.length) (a : Nat) : va_up (fun j => xmR b B vs[j]?) i (some (xad b B a)) = fun j => xmR b B (vs.set i (.inr (.inl (some a))))[j]? := by
  funext j
  unfold va_up
  by_cases h : j = i
  · subst h; simp [hi, xmR]
  · rw [if_neg h, List.getElem?_set_ne (Ne.symm h)]
theorem xwfs_set {vs : List xV} {i : Nat} {v : xV} (h : xwfs vs) (hv : xwf v) : xwfs (vs.set i v) := by
  intro w hw
  rcases List.mem_or_eq_of_mem_set hw with h1 | h1
  · exact h w h1
  · rw [h1]; exact hv
theorem xwfs_at {b B : Nat} {D : va_G} {ca : Nat → ClassId} {xs : List xV} {ph : xH} {g : Nat} {H : Heap} (h : xRelH b B D ca xs ph g H) {a t : Nat} {vs : List xV} (hc : ph[a]? = some (t, vs)) : xwfs vs := h.2.2.2.2.2 _ (List.mem_of_getElem? hc)
end
section
section VXIA
variable {p : Program} {l : Launch} {e : Env} {R : Room} {s : State} {m : MethodId} {args : Array Value} {below : List Frame} {meth : Method} {c : Code} {T : State} {locs : List Loc} {cells slots : Nat}
theorem vx_callI (X : Stand p l e R s m args below meth c T locs cells slots) (hexec : p.tables.exec = Jvm.exec) {own : String} {index : Nat} {y : MethodName} {bytes : ByteArray} {maxL : Nat}
    (hown : s.vm.findClass own = some m.cls) (hy1 : y.name = "<init>") (hlink : (Cond.methodLink own index y).before args s = true) (hinst : (Cond.instanceMethod y).before args s = true)
    (hcode : (Cond.code y bytes maxL none).before args s = true) (hy : y.cls ≠ "java/lang/invoke/MethodHandle" ∧ y.cls ≠ "java/lang/invoke/VarHandle")
    {W9 : Nat} {Pre : Pt → Array Value → Prop} {Post : Pt → Array Value → Option Value → Pt → Prop} {PostX : Pt → Array Value → Addr → Pt → Prop} (hK : vx_Back l R p e below s args y 3 W9 Pre Post PostX)
    {g : JFrame} (hg : g.method = m) (hsize : g.locals.size = c.maxLocals) {a : Addr} {argsL rest : List Value} (hlen : ∀ sig, parseMethodDescriptor y.desc = some sig → argsL.length = sig.parameters.length)
    (hstack : g.stack = argsL.reverse ++ .ref a :: rest) (hW : 2 * g.monitorRoom + (rest.map fun v => v.category).sum ≤ W9) (hdg : decode c.code g.pc = .ok (.invokespecial index, 3))
    (hpre : ∀ vm₁, s.WarmedH vm₁ → Pre ⟨T.setVm vm₁, locs, cells, slots⟩ (Value.ref a :: argsL).toArray) :
    (∃ (v : Option Value) (vm₁ : Vm) (B : Pt), s.WarmedH vm₁ ∧ Stand p l e R s m args below meth c B.U B.locs B.cells B.slots ∧ Post ⟨T.setVm vm₁, locs, cells, slots⟩ (Value.ref a :: argsL).toArray v B ∧
      ∀ target, Steps p.tables e below (B.U.setTop { g with pc := g.pc + 3, stack := v.toList ++ rest }) target → Steps p.tables e below (T.setTop g) target) ∨
    (∃ (q : Addr) (vm₁ : Vm) (B : Pt), s.WarmedH vm₁ ∧ Stand p l e R s m args below meth c B.U B.locs B.cells B.slots ∧ PostX ⟨T.setVm vm₁, locs, cells, slots⟩ (Value.ref a :: argsL).toArray q B ∧
      Steps p.tables e below (T.setTop g) ((B.U.setTop { g with stack := rest }).pushFrame (.throwing q))) := by
  subst hg
  have hpl : e.platform.magicAccessors = ({} : Platform).magicAccessors := by rw [X.admits.platform]
  obtain ⟨mk, methM, cM, kP, vm₁, hnamed, hmethM, hcodeM, -, hlocalsM, -, hkP, -, hW₁, hstep₁⟩ := Steps.initColdArgs (e := e) X.here hexec X.warmed hpl hown hy1 hy hlink hinst hcode (f := g) rfl hlen hstack hdg
  have X₁ := X.noted hW₁
  rcases hK g.method meth c ⟨T.setVm vm₁, locs, cells, slots⟩ { g with stack := rest } (.invokespecial index) mk (Value.ref a :: argsL).toArray X₁ rfl hsize hdg hW (X₁.named hnamed) (hpre vm₁ X₁.warmed) with ⟨v, B, X', hpost, hsteps⟩ | ⟨q, B, X', hpost, hsteps⟩
  · exact Or.inl ⟨v, vm₁, B, X₁.warmed, X', hpost, fun target h => hstep₁ _ fun acts => by rw [doInvoke_state]; exact hsteps.trans h⟩
  · exact Or.inr ⟨q, vm₁, B, X₁.warmed, X', hpost, hstep₁ _ fun acts => by rw [doInvoke_state]; exact hsteps⟩
end VXIA
section VXIB
variable {p : Program} {l : Launch} {e : Env} {R : Room} {s : State} {m : MethodId} {args : Array Value} {below : List Frame} {meth : Method} {c : Code} {H : Heap} {locs : List Loc} {cells slots : Nat}
variable {y : MethodName} {bytes cc : ByteArray} {maxL nL mc ms n index : Nat} {ret : Option FieldType} {ws : List Cond} {rm : Room} {Pc : Array Value → State → Prop} {Qc : Array Value → State → Outcome → State → Prop} {XC : String → State → State → Prop} {free : Addr → Prop} {Ts : List Cond} {own C : String} {b : Addr} {As rest : List Value} {g : JFrame}
theorem vx_runI (S : CallFix p m c cc nL s args Ts own) (hM : vx_Met l y ws rm Pc Qc XC mc ms free) (cw : CallB R s args own index y bytes maxL none ws rm mc ms n ∧ y.name = "<init>" ∧ (Cond.instanceMethod y).before args s = true) (hp : PreS s H Pc (.ref b :: As))
    (hg : g.method = m) (hn : As.length = n) (hsize : g.locals.size = nL) (hstack : g.stack = As.reverse ++ .ref b :: rest) (hW : 2 * g.monitorRoom + (rest.map fun v => v.category).sum ≤ 8) (hdg : decode cc g.pc = .ok (.invokespecial index, 3)) (hf : cells + mc ≤ R.cells ∧ slots + ms ≤ R.slots) :
    vx_Run p l e R s m args below meth c H locs cells slots mc ms g rest (Qc (Value.ref b :: As).toArray) XC free := by
  have hK : vx_Back l R p e below s args y 3 8 (PreOf R mc ms Pc) (PostOf Qc mc ms free) (vx_Post XC mc ms free) := vx_callBack cw.1 hM hp.1
  obtain ⟨⟨-, -, -, -, -, -, hcode, -, hy, hlen, hl⟩, hy1, hin⟩ := cw
  obtain ⟨hx, hb, hml, ho, -⟩ := S
  have hPc := hp.2
  intro T hT X
  rcases vx_callI X hx (bytes := bytes) (maxL := maxL) ho hy1 hl hin hcode hy hK hg (hsize.trans hml.symm) (a := b) (argsL := As) (rest := rest) (fun sig h => hn.trans (hlen sig h)) hstack hW (by rw [hb]; exact hdg)
    (fun vm₁ hW₁ => ⟨hf.1, hf.2, hPc (T.setVm vm₁) hT hW₁⟩) with ⟨v, vm₁, ⟨U', l2, c2, s2⟩, hW₁, X', ⟨g', mk, t, L, e1, e2, hq, h1, hL, h2, h3⟩, st⟩ | ⟨q, vm₁, ⟨U', l2, c2, s2⟩, hW₁, X', ⟨g', mk, t, L, E, ce, e1, e2, hq, hce, hcv, hcl, h1, hL, h2, h3⟩, st⟩
  · dsimp only [Pt.U, Pt.locs, Pt.cells, Pt.slots] at X' e1 e2 h1 h2 h3 st
    subst h1; subst h2; subst h3
    exact Or.inl ⟨v, (T.setVm vm₁).calling g' mk (Value.ref b :: As).toArray, t, U', L, hT, X', hL, e1, e2, hq, st⟩
  · dsimp only [Pt.U, Pt.locs, Pt.cells, Pt.slots] at X' e1 e2 h1 h2 h3 st hcl
    subst h1; subst h2; subst h3
    exact Or.inr ⟨q, (T.setVm vm₁).calling g' mk (Value.ref b :: As).toArray, t, U', L, E, ce, hT, X', hL, e1, e2, hq, hce, hcv, vx_cls hW₁ hcl, st⟩
end VXIB
section
variable {p : Program} {l : Launch} {e : Env} {R : Room} {s : State} {m : MethodId} {args : Array Value} {below : List Frame} {meth : Method} {c : Code} {H : Heap} {locs : List Loc} {cells slots : Nat}
variable {T : State}
theorem vx_callVN (X : Stand p l e R s m args below meth c T locs cells slots) (hexec : p.tables.exec = Jvm.exec) {own C : String} {index : Nat} {host : String} {y : MethodName} {bytes : ByteArray} {maxL : Nat} {ret : Option FieldType}
    (hown : s.vm.findClass own = some m.cls) (hlink : (Cond.methodLinkNest own index y host).before args s = true) (hinst : (Cond.instanceMethod y).before args s = true) (hsel : (Cond.selects C y y).before args s = true)
    (hcode : (Cond.code y bytes maxL ret).before args s = true) (hy : y.cls ≠ "java/lang/invoke/MethodHandle" ∧ y.cls ≠ "java/lang/invoke/VarHandle")
    {W : Nat} {Pre : Pt → Array Value → Prop} {Post : Pt → Array Value → Option Value → Pt → Prop} {PostX : Pt → Array Value → Addr → Pt → Prop} (hK : vx_Back l R p e below s args y 3 W Pre Post PostX)
    {b : Addr} {cellB : Cell} (hcell : T.heap[b]? = some cellB) (hobj : cellB.vm.isStatics = false) (hcls : s.vm.findClass C = some cellB.cls)
    {g : JFrame} (hg : g.method = m) (hsize : g.locals.size = c.maxLocals) {argsL rest : List Value} (hlen : ∀ sig, parseMethodDescriptor y.desc = some sig → argsL.length = sig.parameters.length)
    (hstack : g.stack = argsL.reverse ++ .ref b :: rest) (hW : 2 * g.monitorRoom + (rest.map fun v => v.category).sum ≤ W) (hdg : decode c.code g.pc = .ok (.invokevirtual index, 3))
    (hpre : ∀ vm₁, s.WarmedH vm₁ → Pre ⟨T.setVm vm₁, locs, cells, slots⟩ (Value.ref b :: argsL).toArray) :
    (∃ (v : Option Value) (vm₁ : Vm) (B : Pt), s.WarmedH vm₁ ∧ Stand p l e R s m args below meth c B.U B.locs B.cells B.slots ∧ Post ⟨T.setVm vm₁, locs, cells, slots⟩ (Value.ref b :: argsL).toArray v B ∧
      ∀ target, Steps p.tables e below (B.U.setTop { g with pc := g.pc + 3, stack := v.toList ++ rest }) target → Steps p.tables e below (T.setTop g) target) ∨
    (∃ (q : Addr) (vm₁ : Vm) (B : Pt), s.WarmedH vm₁ ∧ Stand p l e R s m args below meth c B.U B.locs B.cells B.slots ∧ PostX ⟨T.setVm vm₁, locs, cells, slots⟩ (Value.ref b :: argsL).toArray q B ∧
      Steps p.tables e below (T.setTop g) ((B.U.setTop { g with stack := rest }).pushFrame (.throwing q))) := by
  obtain ⟨mk, methM, hnamed, hmethM, hstM, habM⟩ := Cond.instanceMethod_spec hinst
  obtain ⟨methM', cM, hmethM', -, -, -, -, -, -, hsigM⟩ := Cond.code_spec hnamed hcode
  cases hmethM.symm.trans hmethM'
  obtain ⟨c2, r2, m2, q1, q2, q3, q4, kP, hkP, hkPi⟩ := Cond.selects_spec hsel
  cases hcls.symm.trans q1
  cases (State.methodFound?_of_named hnamed hy).symm.trans q2
  cases hnamed.symm.trans q3
  have hselP : selectMethod e.platform s.vm cellB.cls mk = .method mk := by rw [Launch.admits_selectMethod X.admits]; exact q4
  obtain ⟨vm₁, X₁, hstep₁⟩ := X.invokevirtualNest hexec hown hlink hnamed hmethM hstM hkP hkPi hy (a := b) (cell := cellB) hcell
    (fun z h => by rw [h] at hobj; cases hobj) hselP hmethM habM hkP hkPi (g := g) hg (argsL := argsL) (rest := rest) (hlen _ hsigM) hstack hdg
  rcases hK m meth c ⟨T.setVm vm₁, locs, cells, slots⟩ { g with stack := rest } (.invokevirtual index) mk (Value.ref b :: argsL).toArray X₁ hg hsize hdg hW (X₁.named hnamed) (hpre vm₁ X₁.warmed) with ⟨v, B, X', hpost, hsteps⟩ | ⟨q, B, X', hpost, hsteps⟩
  · exact Or.inl ⟨v, vm₁, B, X₁.warmed, X', hpost, fun target h => hstep₁ _ fun acts => by rw [doInvoke_state]; exact hsteps.trans h⟩
  · exact Or.inr ⟨q, vm₁, B, X₁.warmed, X', hpost, hstep₁ _ fun acts => by rw [doInvoke_state]; exact hsteps⟩
theorem vx_callSN (X : Stand p l e R s m args below meth c T locs cells slots) (hexec : p.tables.exec = Jvm.exec) {own : String} {index : Nat} {host : String} {y : MethodName} {bytes : ByteArray} {maxL : Nat} {ret : Option FieldType}
    (hown : s.vm.findClass own = some m.cls) (hlink : (Cond.methodLinkNest own index y host).before args s = true) (hstat : (Cond.static y).before args s = true) (hinit : (Cond.initialized y.cls).before args s = true)
    (hcode : (Cond.code y bytes maxL ret).before args s = true) (hy : y.cls ≠ "java/lang/invoke/MethodHandle" ∧ y.cls ≠ "java/lang/invoke/VarHandle")
    {W : Nat} {Pre : Pt → Array Value → Prop} {Post : Pt → Array Value → Option Value → Pt → Prop} {PostX : Pt → Array Value → Addr → Pt → Prop} (hK : vx_Back l R p e below s args y 3 W Pre Post PostX)
    {g : JFrame} (hg : g.method = m) (hsize : g.locals.size = c.maxLocals) {argsL rest : List Value} (hlen : ∀ sig, parseMethodDescriptor y.desc = some sig → argsL.length = sig.parameters.length)
    (hstack : g.stack = argsL.reverse ++ rest) (hW : 2 * g.monitorRoom + (rest.map fun v => v.category).sum ≤ W) (hdg : decode c.code g.pc = .ok (.invokestatic index, 3))
    (hpre : ∀ vm₁, s.WarmedH vm₁ → Pre ⟨T.setVm vm₁, locs, cells, slots⟩ argsL.toArray) :
    (∃ (v : Option Value) (vm₁ : Vm) (B : Pt), s.WarmedH vm₁ ∧ Stand p l e R s m args below meth c B.U B.locs B.cells B.slots ∧ Post ⟨T.setVm vm₁, locs, cells, slots⟩ argsL.toArray v B ∧
      ∀ target, Steps p.tables e below (B.U.setTop { g with pc := g.pc + 3, stack := v.toList ++ rest }) target → Steps p.tables e below (T.setTop g) target) ∨
    (∃ (q : Addr) (vm₁ : Vm) (B : Pt), s.WarmedH vm₁ ∧ Stand p l e R s m args below meth c B.U B.locs B.cells B.slots ∧ PostX ⟨T.setVm vm₁, locs, cells, slots⟩ argsL.toArray q B ∧
      Steps p.tables e below (T.setTop g) ((B.U.setTop { g with stack := rest }).pushFrame (.throwing q))) := by
  obtain ⟨mk, hnamed⟩ := Cond.code_named hcode
  obtain ⟨methM, cM, hmethM, -, -, -, -, -, -, hsigM⟩ := Cond.code_spec hnamed hcode
  have hstatic : methM.isStatic = true := Cond.static_spec hnamed hmethM hstat
  obtain ⟨kP, hkP, -⟩ := className_of_methodNamed hnamed
  have hinitP : kP.init = .initialized := Cond.initialized_spec (findClass_of_methodNamed hnamed) hkP hinit
  obtain ⟨vm₁, X₁, hstep₁⟩ := X.invokestaticNest hexec hown hlink hnamed hmethM hstatic hkP hinitP hy (g := g) hg (argsL := argsL) (rest := rest) (hlen _ hsigM) hstack hdg
  rcases hK m meth c ⟨T.setVm vm₁, locs, cells, slots⟩ { g with stack := rest } (.invokestatic index) mk argsL.toArray X₁ hg hsize hdg hW (X₁.named hnamed) (hpre vm₁ X₁.warmed) with ⟨v, B, X', hpost, hsteps⟩ | ⟨q, B, X', hpost, hsteps⟩
  · exact Or.inl ⟨v, vm₁, B, X₁.warmed, X', hpost, fun target h => hstep₁ _ fun acts => by rw [doInvoke_state]; exact hsteps.trans h⟩
  · exact Or.inr ⟨q, vm₁, B, X₁.warmed, X', hpost, hstep₁ _ fun acts => by rw [doInvoke_state]; exact hsteps⟩
theorem vx_runVN {y : MethodName} {bytes cc : ByteArray} {maxL nL mc ms n index : Nat} {ret : Option FieldType} {ws : List Cond} {rm : Room} {Pc : Array Value → State → Prop} {Qc : Array Value → State → Outcome → State → Prop} {XC : String → State → State → Prop} {free : Addr → Prop} {Ts : List Cond} {own C host : String} {b : Addr} {As rest : List Value} {g : JFrame}
    (S : CallFix p m c cc nL s args Ts own) (hM : vx_Met l y ws rm Pc Qc XC mc ms free) (cw : va_CN R s args own index y host bytes maxL ret ws rm mc ms n ∧ (Cond.instanceMethod y).before args s = true ∧ (Cond.selects C y y).before args s = true) (hp : PreV s H C b Pc As)
    (hg : g.method = m) (hn : As.length = n) (hsize : g.locals.size = nL) (hstack : g.stack = As.reverse ++ .ref b :: rest) (hW : 2 * g.monitorRoom + (rest.map fun v => v.category).sum ≤ 8) (hdg : decode cc g.pc = .ok (.invokevirtual index, 3)) (hf : cells + mc ≤ R.cells ∧ slots + ms ≤ R.slots) :
    vx_Run p l e R s m args below meth c H locs cells slots mc ms g rest (Qc (Value.ref b :: As).toArray) XC free := by
  obtain ⟨⟨⟨hrc, hrs, hfr, hlo, hws, hcw⟩, hcode, hini, hy, hlen, hl⟩, hx1, hx2⟩ := cw
  have hK : vx_Back l R p e below s args y 3 8 (PreOf R mc ms Pc) (PostOf Qc mc ms free) (vx_Post XC mc ms free) := vx_back (bytes := bytes) (maxL := maxL) (ret := ret) hM hp.1 hrc hrs hfr hlo hws hcw (fun a' U hW => word_at hW (Or.inl (by first | rfl | simp [Cond.onTables, Cond.keeps, Cond.steady])) hini)
  obtain ⟨hx, hb, hml, ho, -⟩ := S
  obtain ⟨-, ⟨cellB, hcB, hoB, hclB⟩, hPc⟩ := hp
  intro T hT X
  rcases vx_callVN X hx (C := C) (bytes := bytes) (maxL := maxL) (ret := ret) ho hl hx1 hx2 hcode hy hK (by rw [hT]; exact hcB) hoB hclB hg (hsize.trans hml.symm) (argsL := As) (rest := rest) (fun sig h => hn.trans (hlen sig h)) hstack hW (by rw [hb]; exact hdg)
    (fun vm₁ hW₁ => ⟨hf.1, hf.2, hPc (T.setVm vm₁) hT hW₁⟩) with ⟨v, vm₁, ⟨U', l2, c2, s2⟩, hW₁, X', ⟨g', mk, t, L, e1, e2, hq, h1, hL, h2, h3⟩, st⟩ | ⟨q, vm₁, ⟨U', l2, c2, s2⟩, hW₁, X', ⟨g', mk, t, L, E, ce, e1, e2, hq, hce, hcv, hcl, h1, hL, h2, h3⟩, st⟩
  · dsimp only [Pt.U, Pt.locs, Pt.cells, Pt.slots] at X' e1 e2 h1 h2 h3 st
    subst h1; subst h2; subst h3
    exact Or.inl ⟨v, (T.setVm vm₁).calling g' mk (Value.ref b :: As).toArray, t, U', L, hT, X', hL, e1, e2, hq, st⟩
  · dsimp only [Pt.U, Pt.locs, Pt.cells, Pt.slots] at X' e1 e2 h1 h2 h3 st hcl
    subst h1; subst h2; subst h3
    exact Or.inr ⟨q, (T.setVm vm₁).calling g' mk (Value.ref b :: As).toArray, t, U', L, E, ce, hT, X', hL, e1, e2, hq, hce, hcv, vx_cls hW₁ hcl, st⟩
theorem vx_runSN {y : MethodName} {bytes cc : ByteArray} {maxL nL mc ms n index : Nat} {ret : Option FieldType} {ws : List Cond} {rm : Room} {Pc : Array Value → State → Prop} {Qc : Array Value → State → Outcome → State → Prop} {XC : String → State → State → Prop} {free : Addr → Prop} {Ts : List Cond} {own host : String} {As rest : List Value} {g : JFrame}
    (S : CallFix p m c cc nL s args Ts own) (hM : vx_Met l y ws rm Pc Qc XC mc ms free) (cw : va_CN R s args own index y host bytes maxL ret ws rm mc ms n ∧ (Cond.static y).before args s = true ∧ True) (hp : PreS s H Pc As)
    (hg : g.method = m) (hn : As.length = n) (hsize : g.locals.size = nL) (hstack : g.stack = As.reverse ++ rest) (hW : 2 * g.monitorRoom + (rest.map fun v => v.category).sum ≤ 8) (hdg : decode cc g.pc = .ok (.invokestatic index, 3)) (hf : cells + mc ≤ R.cells ∧ slots + ms ≤ R.slots) :
    vx_Run p l e R s m args below meth c H locs cells slots mc ms g rest (Qc As.toArray) XC free := by
  obtain ⟨⟨⟨hrc, hrs, hfr, hlo, hws, hcw⟩, hcode, hini, hy, hlen, hl⟩, hx1, hx2⟩ := cw
  have hK : vx_Back l R p e below s args y 3 8 (PreOf R mc ms Pc) (PostOf Qc mc ms free) (vx_Post XC mc ms free) := vx_back (bytes := bytes) (maxL := maxL) (ret := ret) hM hp.1 hrc hrs hfr hlo hws hcw (fun a' U hW => word_at hW (Or.inl (by first | rfl | simp [Cond.onTables, Cond.keeps, Cond.steady])) hini)
  obtain ⟨hx, hb, hml, ho, -⟩ := S
  have hPc := hp.2
  intro T hT X
  rcases vx_callSN X hx (bytes := bytes) (maxL := maxL) (ret := ret) ho hl hx1 hini hcode hy hK hg (hsize.trans hml.symm) (argsL := As) (rest := rest) (fun sig h => hn.trans (hlen sig h)) hstack hW (by rw [hb]; exact hdg)
    (fun vm₁ hW₁ => ⟨hf.1, hf.2, hPc (T.setVm vm₁) hT hW₁⟩) with ⟨v, vm₁, ⟨U', l2, c2, s2⟩, hW₁, X', ⟨g', mk, t, L, e1, e2, hq, h1, hL, h2, h3⟩, st⟩ | ⟨q, vm₁, ⟨U', l2, c2, s2⟩, hW₁, X', ⟨g', mk, t, L, E, ce, e1, e2, hq, hce, hcv, hcl, h1, hL, h2, h3⟩, st⟩
  · dsimp only [Pt.U, Pt.locs, Pt.cells, Pt.slots] at X' e1 e2 h1 h2 h3 st
    subst h1; subst h2; subst h3
    exact Or.inl ⟨v, (T.setVm vm₁).calling g' mk As.toArray, t, U', L, hT, X', hL, e1, e2, hq, st⟩
  · dsimp only [Pt.U, Pt.locs, Pt.cells, Pt.slots] at X' e1 e2 h1 h2 h3 st hcl
    subst h1; subst h2; subst h3
    exact Or.inr ⟨q, (T.setVm vm₁).calling g' mk As.toArray, t, U', L, E, ce, hT, X', hL, e1, e2, hq, hce, hcv, vx_cls hW₁ hcl, st⟩
end
end
section
/-! ===== a method of the small machine as a contract; calls ===== -/
theorem xmaxL_le : ∀ mi, mi < 262 → xmaxL mi ≤ 21 := by decide +kernel
theorem xhh_all : ∀ mi, mi < 262 → ∀ q ∈ xhh mi, (xcat (xown mi) q.2.2.2).isSome = true ∧ q.2.2.2 ≠ 0 := by decide +kernel
def xQc (b B : Nat) (D : va_G) (ca : Nat → ClassId) (xs : List xV) (r : xR) : Array Value → State → Outcome → State → Prop := fun _ st o t => ∃ (v : Option xV) (ph : xH) (g : Nat), r = (.inl v, ph, g) ∧ o = .returned (v.map (xm b B)) ∧ xRelH b B D ca xs ph g t.heap ∧ va_F (xA B) st t ∧ ∀ w, v = some w → xwf w
def xXc (b B : Nat) (D : va_G) (ca : Nat → ClassId) (xs : List xV) (r : xR) : String → State → State → Prop := fun E st t => ∃ (e : Nat) (ph : xH) (g : Nat), r = (.inr e, ph, g) ∧ e < 3 ∧ E = xEn e ∧ xRelH b B D ca xs ph g t.heap ∧ va_F (xA B) st t
def xPc (b B : Nat) (D : va_G) (ca : Nat → ClassId) (xs : List xV) (as : List xV) (ph : xH) (g : Nat) : Array Value → State → Prop := va_Pc (as.map (xm b B)) (fun U => xRelH b B D ca xs ph g U.heap ∧ xFx b B D ca xs U)
def xrm (d mc ms : Nat) : Room := { frames := 8 + d, cells := mc, slots := ms, locals := 120 + 40 * d }
def xws (mi : Nat) : List Cond := xcw mi :: lw_tbl.filter goodWord
def xmc (r : xR) (ph : xH) (g : Nat) : Nat := xcc r.2.1 r.2.2 - xcc ph g
def xms (r : xR) (ph : xH) (g : Nat) : Nat := xcs r.2.1 r.2.2 - xcs ph g
def xCon (l : Launch) (b B : Nat) (D : va_G) (ca : Nat → ClassId) (xs : List xV) (d mi : Nat) (as : List xV) (ph : xH) (g : Nat) (r : xR) : Prop :=
  vx_Met l (xy mi) (xws mi) (xrm d (xmc r ph g) (xms r ph g)) (xPc b B D ca xs as ph g) (xQc b B D ca xs r) (xXc b B D ca xs r) (xmc r ph g) (xms r ph g) (xA B)
/-- what stands at a method's frame -/
def xCx (b B : Nat) (D : va_G) (ca : Nat → ClassId) (xs : List xV) (p : Program) (s : State) (m : MethodId) (args : Array Value) (meth : Method) (c : Code) (mi : Nat) : Prop :=
  p.tables.exec = Jvm.exec ∧ c.code = xby mi ∧ c.maxLocals = xmaxL mi ∧ s.vm.findClass (xRn (xown mi)) = some m.cls ∧ (∀ w, xG w → w.before args s = true) ∧ meth.sig.returnType = xre mi ∧ meth.locks = false ∧ (xsk mi = 2 → meth.name = "<init>") ∧ c.exceptionTable.toList = tableOf (xhh mi) ∧ xFx b B D ca xs s
theorem xPc_blind (b B : Nat) (D : va_G) (ca : Nat → ClassId) (xs : List xV) (as : List xV) (ph : xH) (g : Nat) : FrameBlind (xPc b B D ca xs as ph g) := by
  intro a U g mk h
  obtain ⟨h1, h2, h3⟩ := h
  exact ⟨h1, h2, xFx_go (U := U.calling g mk a) h3 (State.WarmedH.refl U) rfl (Nat.le_refl _) (fun _ _ _ => rfl)⟩
theorem xG_in {w : Cond} {mi : Nat} (h : xG w) : w ∈ xws mi := List.mem_cons_of_mem _ (List.mem_filter.mpr h)
theorem xws_G {mi : Nat} (hM : xMok mi) {w : Cond} (h : w ∈ xws mi) : xG w := by
  rcases List.mem_cons.mp h with h | h
  · rw [h]; exact hM.1.1
  · exact List.mem_filter.mp h
theorem xCon_of {l : Launch} {b B : Nat} {D : va_G} {ca : Nat → ClassId} {xs : List xV} {d mi : Nat} {as : List xV} {ph : xH} {g : Nat} {r : xR} (hM : xMok mi) (hsz : xasz as ≤ xmaxL mi)
    (body : ∀ p e s m args below meth c, xCx b B D ca xs p s m args meth c mi → xRelH b B D ca xs ph g s.heap → ∀ ls, xlvR b B ls (xmaxL mi) (xent as) → W p l e (xrm d (xmc r ph g) (xms r ph g)) s m args below meth c s.heap [] 0 0 (vx_MQ below (xQc b B D ca xs r) (xXc b B D ca xs r) args s (xmc r ph g) (xms r ph g) (xA B)) (F0 m 0 ls [])) : xCon l b B D ca xs d mi as ph g r := by
  obtain ⟨⟨hM1, hM2⟩, ⟨hM3, hM4, hM5, hM6, hM7⟩, hM8, hM9⟩ := id hM
  have fin : ∀ (p : Program) (e : Env) (s : State) (m : MethodId) (args : Array Value) (below : List Frame) (meth : Method) (c : Code) (s₁ : State), BodyLoose p l (xy mi) (headSpec (xws mi) (xrm d (xmc r ph g) (xms r ph g))) (xby mi) (xmaxL mi) (xre mi) e s m args below meth c s₁ → c.maxLocals = xmaxL mi → c.exceptionTable.toList = tableOf (xhh mi) → xPc b B D ca xs as ph g args s →
      W p l e (headSpec (xws mi) (xrm d (xmc r ph g) (xms r ph g))).room s m args below meth c s.heap [] 0 0 (vx_MQ below (xQc b B D ca xs r) (xXc b B D ca xs r) args s (xmc r ph g) (xms r ph g) (xA B)) (entryFrame m args (xmaxL mi)) := by
    intro p e s m args below meth c s₁ BL hml ht hv
    obtain ⟨rfl, hrel, hfx⟩ := hv
    have hts := atoms_spec (ws := xws mi) BL.pre
    have hown : s.vm.findClass (xy mi).cls = some m.cls := findClass_of_methodNamed BL.named
    have hnm := (name_of_methodNamed BL.named BL.method).1
    have hl := lv_entry (as.map (xm b B)) (n := xmaxL mi) (by rw [xasz_eq]; exact hsz)
    rw [lg_entry_eq]
    refine body p e s m _ below meth c ⟨BL.exec, BL.bytes, hml, by rw [← hM7]; exact hown, fun w hw => hts w (xG_in hw), BL.returns, BL.notSynchronized, fun h2 => ?_, ht, hfx⟩ hrel _ (xlvR_ent as hl)
    rcases hM9 with h | h | h
    · rw [h.1] at h2; cases h2
    · rw [h.1] at h2; cases h2
    · rw [← h.2.2.1]; exact hnm
  cases hh : xhh mi with
  | nil =>
    refine vx_ofW (cc := xby mi) (maxL := xmaxL mi) (ret := xre mi) (ws' := lw_tbl.filter goodWord) hM6 (by unfold xws xcw; rw [hh]) ?_
    intro p e s m args below meth c s₁ BL hml ht hv
    exact fin p e s m args below meth c s₁ BL hml (by rw [hh]; exact List.eq_nil_iff_forall_not_mem.mpr (fun x hx => ht x hx)) hv
  | cons q t =>
    have hcw : xcw mi = Cond.codeWith (xy mi) (xby mi) (xmaxL mi) (xre mi) (xhh mi) := by unfold xcw; rw [hh]
    refine vx_ofWH (cc := xby mi) (maxL := xmaxL mi) (ret := xre mi) (hh := xhh mi) (ws' := lw_tbl.filter goodWord) hM6 (by unfold xws; rw [hcw]) ?_
    intro p e s m args below meth c s₁ BL hml hv
    refine fin p e s m args below meth c s₁ BL hml ?_ hv
    have hts := atoms_spec (ws := xws mi) BL.pre
    exact vx_table (x := xy mi) BL (by rw [← hcw]; exact hts _ List.mem_cons_self)
theorem xpop_eq {n : Nat} {st as r : List xV} (h : xpop n st = some (as, r)) : st = as.reverse ++ r ∧ as.length = n := by
  unfold xpop at h
  split at h
  · rename_i hn
    simp only [Option.some.injEq, Prod.mk.injEq] at h
    obtain ⟨rfl, rfl⟩ := h
    refine ⟨by rw [List.reverse_reverse, List.take_append_drop], ?_⟩
    rw [List.length_reverse, List.length_take]
    omega
  · cases h
theorem xcats (b B : Nat) (r : List xV) (h : r.length ≤ 4) : ((r.map (xm b B)).map fun v => v.category).sum ≤ 8 := by
  have key : ∀ r : List xV, ((r.map (xm b B)).map fun v => v.category).sum ≤ 2 * r.length := by
    intro r
    induction r with
    | nil => simp
    | cons a t ih =>
      simp only [List.map_cons, List.sum_cons, List.length_cons]
      have : (xm b B a).category ≤ 2 := by rw [xcat_eq]; split <;> omega
      omega
  have := key r
  omega
section XS
variable {p : Program} {l : Launch} {e : Env} {R : Room} {s : State} {m : MethodId} {args : Array Value} {below : List Frame} {meth : Method} {c : Code} {H : Heap} {locs : List Loc} {cells slots : Nat} {Q : State → Prop}
variable {b B : Nat} {D : va_G} {ca : Nat → ClassId} {xs : List xV} {mi pc : Nat} {ls : Array Slot}
theorem xAfter {r1 : xR} {mc ms : Nat} {st0 rest : List Value} {a : Array Value} (hr : vx_Run p l e R s m args below meth c H locs cells slots mc ms (F0 m pc ls st0) rest (xQc b B D ca xs r1 a) (xXc b B D ca xs r1) (xA B)) (hS : va_S (xA B) s.heap H locs)
    (kk : ∀ (v : Option xV) (ph1 : xH) (g1 : Nat) (H1 : Heap) (locs1 : List Loc), r1 = (.inl v, ph1, g1) → (∀ w, v = some w → xwf w) → xRelH b B D ca xs ph1 g1 H1 → va_S (xA B) s.heap H1 locs1 → W p l e R s m args below meth c H1 locs1 (cells + mc) (slots + ms) Q (F0 m (pc + 3) ls ((v.map (xm b B)).toList ++ rest)))
    (kx : ∀ (E : Nat) (ph1 : xH) (g1 : Nat) (H1 : Heap) (locs1 : List Loc) (ce : Cell) (q9 : Addr), r1 = (.inr E, ph1, g1) → E < 3 → xRelH b B D ca xs ph1 g1 H1 → va_S (xA B) s.heap H1 locs1 → H1[q9]? = some ce → ce.vm = .none → s.vm.findClass (xEn E) = some ce.cls → vx_W p l e R s m args below meth c H1 locs1 (cells + mc) (slots + ms) Q (F0 m pc ls rest) q9) :
    W p l e R s m args below meth c H locs cells slots Q (F0 m pc ls st0) := by
  intro T hT X
  rcases hr T hT X with ⟨v, st₀, t, T', L, h0, X', hL, e1, e2, hq, st⟩ | ⟨q, st₀, t, T', L, E, ce, h0, X', hL, e1, e2, hx, hce, hcv, hcl, st⟩
  · obtain ⟨v1, ph1, g1, hr1, ho, hrel, hF, hwv⟩ := hq
    cases ho
    obtain ⟨k1, k2, k3⟩ := vx_keep h0 e1 hS (fun q _ h => h) (fun q h => h) hL hF
    obtain ⟨t2, a1, b1⟩ := kk v1 ph1 g1 T'.heap (locs ++ L) hr1 hwv (by rw [e1]; exact hrel) k3 T' rfl X'
    exact ⟨t2, st t2 a1, b1⟩
  · obtain ⟨e9, ph1, g1, hr1, he, rfl, hrel, hF⟩ := hx
    obtain ⟨k1, k2, k3⟩ := vx_keep h0 e1 hS (fun q _ h => h) (fun q h => h) hL hF
    obtain ⟨t2, a1, b1⟩ := kx e9 ph1 g1 T'.heap (locs ++ L) ce q hr1 he (by rw [e1]; exact hrel) k3 (by rw [e1]; exact hce) hcv hcl T' rfl X'
    exact ⟨t2, st.trans a1, b1⟩
theorem xCallB {mi' d' mc ms index : Nat} (hM : xMok mi') (hlt : mi' < 262) (hts : ∀ w, xG w → w.before args s = true) (hh : xhh mi' = []) (hR : 8 + (d' + 1) ≤ R.frames ∧ 120 + 40 * (d' + 1) ≤ R.locals) (hl : (Cond.methodLink (xRn (xown mi)) index (xy mi')).before args s = true) :
    CallB R s args (xRn (xown mi)) index (xy mi') (xby mi') (xmaxL mi') (xre mi') (xws mi') (xrm d' mc ms) mc ms (xnp mi') := by
  have hcw : xcw mi' = Cond.code (xy mi') (xby mi') (xmaxL mi') (xre mi') := by unfold xcw; rw [hh]
  have h21 := xmaxL_le mi' hlt
  refine ⟨rfl, rfl, by show 8 + d' + 1 ≤ _; omega, by show 8 + (xmaxL mi' + 11) + (120 + 40 * d') ≤ _; omega, fun w hw a' U hW => word_at hW (good_of_word (xws_G hM hw).2) (hts w (xws_G hM hw)), by unfold xws; rw [hcw]; exact List.mem_cons_self, by rw [← hcw]; exact hts _ hM.1.1, hts _ hM.1.2, ⟨hM.2.1.1, hM.2.1.2.1⟩, fun sig h => ?_, hl⟩
  have h2 := hM.2.1.2.2.1
  rw [h] at h2
  exact (Option.some.inj h2).symm
theorem xCallCN {mi' d' mc ms index : Nat} {host : String} (hM : xMok mi') (hlt : mi' < 262) (hts : ∀ w, xG w → w.before args s = true) (hh : xhh mi' = []) (hR : 8 + (d' + 1) ≤ R.frames ∧ 120 + 40 * (d' + 1) ≤ R.locals) (hl : va_Nw (.methodLinkNest (xRn (xown mi)) index (xy mi') host) s) :
    va_CN R s args (xRn (xown mi)) index (xy mi') host (xby mi') (xmaxL mi') (xre mi') (xws mi') (xrm d' mc ms) mc ms (xnp mi') := by
  have hcw : xcw mi' = Cond.code (xy mi') (xby mi') (xmaxL mi') (xre mi') := by unfold xcw; rw [hh]
  have h21 := xmaxL_le mi' hlt
  refine ⟨⟨rfl, rfl, by show 8 + d' + 1 ≤ _; omega, by show 8 + (xmaxL mi' + 11) + (120 + 40 * d') ≤ _; omega, fun w hw a' U hW => word_at hW (good_of_word (xws_G hM hw).2) (hts w (xws_G hM hw)), by unfold xws; rw [hcw]; exact List.mem_cons_self⟩, by rw [← hcw]; exact hts _ hM.1.1, hts _ hM.1.2, ⟨hM.2.1.1, hM.2.1.2.1⟩, fun sig h => ?_, va_Nw.use rfl hl⟩
  have h2 := hM.2.1.2.2.1
  rw [h] at h2
  exact (Option.some.inj h2).symm
theorem xCallSW {mi' d' mc ms index : Nat} (hM : xMok mi') (hlt : mi' < 262) (hts : ∀ w, xG w → w.before args s = true) (hh : xhh mi' ≠ []) (hsk : xsk mi' = 1) (hR : 8 + (d' + 1) ≤ R.frames ∧ 120 + 40 * (d' + 1) ≤ R.locals) (hl : (Cond.methodLink (xRn (xown mi)) index (xy mi')).before args s = true) :
    vx_CSW R s args (xRn (xown mi)) index (xy mi') (xby mi') (xmaxL mi') (xre mi') (xhh mi') (xws mi') (xrm d' mc ms) mc ms (xnp mi') := by
  have hcw : xcw mi' = Cond.codeWith (xy mi') (xby mi') (xmaxL mi') (xre mi') (xhh mi') := by
    unfold xcw
    cases h : xhh mi' with
    | nil => exact absurd h hh
    | cons q t => rfl
  have h21 := xmaxL_le mi' hlt
  have hst : (Cond.static (xy mi')).before args s = true := by
    rcases hM.2.2.2 with h | h | h
    · rw [h.1] at hsk; cases hsk
    · exact hts _ h.2
    · rw [h.1] at hsk; cases hsk
  refine ⟨⟨rfl, rfl, by show 8 + d' + 1 ≤ _; omega, by show 8 + (xmaxL mi' + 11) + (120 + 40 * d') ≤ _; omega, fun w hw a' U hW => word_at hW (good_of_word (xws_G hM hw).2) (hts w (xws_G hM hw)), by unfold xws; rw [hcw]; exact List.mem_cons_self⟩, by rw [← hcw]; exact hts _ hM.1.1, hts _ hM.1.2, ⟨hM.2.1.1, hM.2.1.2.1⟩, fun sig h => ?_, hl, hst⟩
  have h2 := hM.2.1.2.2.1
  rw [h] at h2
  exact (Option.some.inj h2).symm
end XS
end
section
/-! ===== numbers: the machine's and those of the small one ===== -/
theorem xi_b {n : Int} (h1 : -128 ≤ n) (h2 : n ≤ 127) : (Int8.ofInt n).toInt32 = Int32.ofInt n := by
  apply Int32.toInt_inj.mp
  rw [Int8.toInt_toInt32, Int8.toInt_ofInt_of_le (by omega) (by omega), Int32.toInt_ofInt_of_le (by omega) (by omega)]
theorem xi_s {n : Int} (h1 : -32768 ≤ n) (h2 : n ≤ 32767) : (Int16.ofInt n).toInt32 = Int32.ofInt n := by
  apply Int32.toInt_inj.mp
  rw [Int16.toInt_toInt32, Int16.toInt_ofInt_of_le (by omega) (by omega), Int32.toInt_ofInt_of_le (by omega) (by omega)]
theorem xi_l {x : Int} (h : xin x) : (Int32.ofInt x).toInt64 = Int64.ofInt x := by
  have h1 := h.1
  have h2 := h.2
  apply Int64.toInt_inj.mp
  rw [Int32.toInt_toInt64, xi_toInt h, Int64.toInt_ofInt_of_le (by omega) (by omega)]
theorem xi_c {x : Int} (h1 : 0 ≤ x) (h2 : x ≤ 65535) : ((Int32.ofInt x).toUInt32 % 65536).toInt32 = Int32.ofInt x := by
  obtain ⟨n, rfl⟩ := Int.eq_ofNat_of_zero_le h1
  have hn : n ≤ 65535 := by omega
  have e : (Int32.ofInt (n : Int)).toUInt32 = UInt32.ofNat n := rfl
  rw [e]
  have e2 : UInt32.ofNat n % 65536 = UInt32.ofNat n := by
    apply UInt32.toNat_inj.mp
    simp
    omega
  rw [e2]
  apply Int32.toInt_inj.mp
  rw [Int32.toInt_ofInt_of_le (by omega) (by omega)]
  simp [Int.bmod]
  omega
theorem xi_div {x y : Int} (h1 : 0 ≤ x) (h2 : 0 < y) (hx : xin x) (hy : xin y) : Int32.ofInt x / Int32.ofInt y = Int32.ofInt (x / y) := by
  have hle : x / y ≤ x := Int.ediv_le_self y h1
  have hge : 0 ≤ x / y := Int.ediv_nonneg h1 (Int.le_of_lt h2)
  have hq : xin (x / y) := ⟨by omega, by have := hx.2; omega⟩
  apply Int32.toInt_inj.mp
  rw [Int32.toInt_div, xi_toInt hx, xi_toInt hy, xi_toInt hq, Int.tdiv_eq_ediv_of_nonneg h1]
  have h3 := hx.2
  exact Int.bmod_eq_of_le (by omega) (by omega)
theorem xi_rem {x y : Int} (h1 : 0 ≤ x) (h2 : 0 < y) (hx : xin x) (hy : xin y) : Int32.ofInt x - Int32.ofInt x / Int32.ofInt y * Int32.ofInt y = Int32.ofInt (x % y) := by
  rw [xi_div h1 h2 hx hy, xi_mul, xi_sub]
  congr 1
  have := Int.emod_def x y
  rw [this, Int.mul_comm]
theorem xi_ne0 {y : Int} (h : 0 < y) (hy : xin y) : ¬ Int32.ofInt y = 0 := by
  intro hq
  rw [xi_zero, xi_eq hy xin0] at hq
  omega
theorem xpc_ok {pc : Nat} {off : Int} (h : 0 ≤ (pc : Int) + off) : (pc : Int) + off = (xpc pc off : Int) := (Int.toNat_of_nonneg h).symm
theorem xz_eq {x : Int} (h : xin x) : Int32.ofInt x = 0 ↔ x = 0 := xi_eq h xin0
theorem xz_lt {x : Int} (h : xin x) : Int32.ofInt x < 0 ↔ x < 0 := xi_lt h xin0
theorem xz_gt {x : Int} (h : xin x) : 0 < Int32.ofInt x ↔ 0 < x := xi_lt xin0 h
theorem xz_ge {x : Int} (h : xin x) : 0 ≤ Int32.ofInt x ↔ 0 ≤ x := xi_le xin0 h
theorem xz_le {x : Int} (h : xin x) : Int32.ofInt x ≤ 0 ↔ x ≤ 0 := xi_le h xin0
theorem xi_max {x y : Int} (hx : xin x) (hy : xin y) : (if Int32.ofInt x < Int32.ofInt y then Int32.ofInt y else Int32.ofInt x) = Int32.ofInt (if x < y then y else x) := by
  by_cases h : x < y
  · rw [if_pos h, if_pos ((xi_lt hx hy).mpr h)]
  · rw [if_neg h, if_neg (fun q => h ((xi_lt hx hy).mp q))]
theorem xi_min {x y : Int} (hx : xin x) (hy : xin y) : (if Int32.ofInt y < Int32.ofInt x then Int32.ofInt y else Int32.ofInt x) = Int32.ofInt (if y < x then y else x) := by
  by_cases h : y < x
  · rw [if_pos h, if_pos ((xi_lt hy hx).mpr h)]
  · rw [if_neg h, if_neg (fun q => h ((xi_lt hy hx).mp q))]
theorem xvp_in {i : Int} {n : Nat} (h0 : 0 ≤ i) (h1 : i < n) (hi : xin i) : vp_in (Int32.ofInt i) n := by
  unfold vp_in
  rw [xz_lt hi, xi_nat hi]
  omega
theorem xmI_some {vs : List xV} {k : Nat} {x : Int} (h : vs[k]? = some (.inl x)) : xmI vs[k]? = Int32.ofInt x := by rw [h]; rfl
theorem xi_size {n : Nat} (h : (n : Int) ≤ 2147483647) : Int32.ofNat n = Int32.ofInt (n : Int) := rfl
end
section
/-! ===== what is made stays made ===== -/
theorem xsl_set_le {ph : xH} {a : Nat} {c d : xC} (h : ph[a]? = some c) (hl : d.2.length = c.2.length) : ph.length ≤ (ph.set a d).length ∧ xsl ph ≤ xsl (ph.set a d) := ⟨by simp, Nat.le_of_eq (xsl_set h hl).symm⟩
theorem xsl_app_le (ph : xH) (c : xC) : ph.length ≤ (ph ++ [c]).length ∧ xsl ph ≤ xsl (ph ++ [c]) := ⟨by simp, by rw [xsl_app]; omega⟩
set_option maxHeartbeats 8000000 in
set_option maxRecDepth 100000 in
theorem xdir_grow {mi pc : Nat} {op : Instr} {lv : xL} {st : List xV} {ph : xH} {g : Nat} {q : Nat × xL × List xV × xH} (h : xdir mi pc op lv st ph g = .inl q) : ph.length ≤ q.2.2.2.length ∧ xsl ph ≤ xsl q.2.2.2 := by
  unfold xdir at h
  cases op <;> simp only [xop, xcmp] at h <;> (repeat' split at h) <;> first
    | (cases h; done)
    | (cases h; exact ⟨Nat.le_refl _, Nat.le_refl _⟩)
    | (cases h; exact xsl_app_le _ _)
    | (cases h; exact xsl_set_le (by assumption) (by simp))
theorem xr_grow : ∀ (n d mi pc : Nat) (lv : xL) (st : List xV) (ph : xH) (g : Nat) (r : xR), xr n d mi pc lv st ph g = some r → (ph.length ≤ r.2.1.length ∧ xsl ph ≤ xsl r.2.1) ∧ g ≤ r.2.2 := by
  intro n
  induction n with
  | zero => intro d mi pc lv st ph g r h; cases h
  | succ n ih =>
    intro d mi pc lv st ph g r h
    cases hf : xfetch mi pc with
    | none => rw [xr_none n d mi pc lv st ph g hf] at h; cases h
    | some op =>
      rw [xr_succ n d mi pc lv st ph g hf] at h
      cases hd : xdir mi pc op lv st ph g with
      | inl q =>
        rw [hd] at h
        have h1 := ih _ _ _ _ _ _ _ _ h
        have h2 := xdir_grow hd
        exact ⟨⟨Nat.le_trans h2.1 h1.1.1, Nat.le_trans h2.2 h1.1.2⟩, h1.2⟩
      | inr q =>
        cases q with
        | inl q =>
          rw [hd] at h
          simp only [xcase, xcont] at h
          cases d with
          | zero => cases h
          | succ d' =>
            simp only at h
            cases hc : xr n d' q.1 0 (xent q.2.1) [] ph g with
            | none => rw [hc] at h; cases h
            | some r1 =>
              have h2 := ih _ _ _ _ _ _ _ _ hc
              rw [hc] at h
              obtain ⟨o, ph1, g1⟩ := r1
              have tr : (ph1.length ≤ r.2.1.length ∧ xsl ph1 ≤ xsl r.2.1) ∧ g1 ≤ r.2.2 → (ph.length ≤ r.2.1.length ∧ xsl ph ≤ xsl r.2.1) ∧ g ≤ r.2.2 := fun h1 => ⟨⟨Nat.le_trans h2.1.1 h1.1.1, Nat.le_trans h2.1.2 h1.1.2⟩, Nat.le_trans h2.2 h1.2⟩
              cases o with
              | inl v => exact tr (ih _ _ _ _ _ _ _ _ h)
              | inr E =>
                simp only at h
                cases hh : xhan mi pc E with
                | none => rw [hh] at h; cases h; exact tr ⟨⟨Nat.le_refl _, Nat.le_refl _⟩, Nat.le_refl _⟩
                | some w => rw [hh] at h; exact tr (ih _ _ _ _ _ _ _ _ h)
        | inr q =>
          cases q with
          | inl v => rw [hd] at h; cases h; exact ⟨⟨Nat.le_refl _, Nat.le_refl _⟩, Nat.le_refl _⟩
          | inr q =>
            cases q with
            | inl E => rw [hd] at h; cases h; exact ⟨⟨Nat.le_refl _, Nat.le_refl _⟩, Nat.le_succ _⟩
            | inr u => rw [hd] at h; cases h
theorem xr_grow2 {n d mi pc : Nat} {lv : xL} {st : List xV} {ph : xH} {g : Nat} {r : xR} (h : xr n d mi pc lv st ph g = some r) : xcc ph g ≤ xcc r.2.1 r.2.2 ∧ xcs ph g ≤ xcs r.2.1 r.2.2 := by
  have h1 := xr_grow _ _ _ _ _ _ _ _ _ h
  unfold xcc xcs
  omega
end
section
/-! ===== links of constructors and of methods with handlers ===== -/
def xIok (q : Nat × Nat × Nat) : Prop := xG (.methodLink (xRn q.1) q.2.1 (xy q.2.2))
theorem xI_1_24 : xIok (1, 24, 51) := (xg1 217 (by decide +kernel) rfl)
theorem xI_1_33 : xIok (1, 33, 73) := (xg1 219 (by decide +kernel) rfl)
theorem xI_2_17 : xIok (2, 17, 48) := (xg2 56 (by decide +kernel) rfl)
theorem xI_3_11 : xIok (3, 11, 73) := (xg1 116 (by decide +kernel) rfl)
theorem xI_4_11 : xIok (4, 11, 26) := (xg1 111 (by decide +kernel) rfl)
theorem xI_4_20 : xIok (4, 20, 40) := (xg1 159 (by decide +kernel) rfl)
theorem xI_4_27 : xIok (4, 27, 73) := (xg1 176 (by decide +kernel) rfl)
theorem xI_5_11 : xIok (5, 11, 73) := (xg1 164 (by decide +kernel) rfl)
theorem xI_6_11 : xIok (6, 11, 73) := (xg2 24 (by decide +kernel) rfl)
theorem xI_6_22 : xIok (6, 22, 26) := (xg2 26 (by decide +kernel) rfl)
theorem xI_9_11 : xIok (9, 11, 73) := (xg1 29 (by decide +kernel) rfl)
theorem xI_9_27 : xIok (9, 27, 51) := (xg1 54 (by decide +kernel) rfl)
theorem xI_9_36 : xIok (9, 36, 32) := (xg1 105 (by decide +kernel) rfl)
theorem xI_9_43 : xIok (9, 43, 0) := (xg1 196 (by decide +kernel) rfl)
theorem xI_9_52 : xIok (9, 52, 8) := (xg1 212 (by decide +kernel) rfl)
theorem xI_9_59 : xIok (9, 59, 48) := (xg2 19 (by decide +kernel) rfl)
theorem xI_9_69 : xIok (9, 69, 21) := (xg2 50 (by decide +kernel) rfl)
theorem xI_11_106 : xIok (11, 106, 81) := (xg1 21 (by decide +kernel) rfl)
theorem xI_11_110 : xIok (11, 110, 232) := (xg4 209 (by decide +kernel) rfl)
theorem xI_11_136 : xIok (11, 136, 233) := (xg4 238 (by decide +kernel) rfl)
theorem xI_11_140 : xIok (11, 140, 234) := (xg5 2 (by decide +kernel) rfl)
theorem xI_11_143 : xIok (11, 143, 235) := (xg5 6 (by decide +kernel) rfl)
theorem xI_11_146 : xIok (11, 146, 236) := (xg5 10 (by decide +kernel) rfl)
theorem xI_11_149 : xIok (11, 149, 237) := (xg5 14 (by decide +kernel) rfl)
theorem xI_11_152 : xIok (11, 152, 238) := (xg5 18 (by decide +kernel) rfl)
theorem xI_11_156 : xIok (11, 156, 239) := (xg5 37 (by decide +kernel) rfl)
theorem xI_11_159 : xIok (11, 159, 240) := (xg5 45 (by decide +kernel) rfl)
theorem xI_11_162 : xIok (11, 162, 241) := (xg5 53 (by decide +kernel) rfl)
theorem xI_11_165 : xIok (11, 165, 242) := (xg5 61 (by decide +kernel) rfl)
theorem xI_11_168 : xIok (11, 168, 243) := (xg5 69 (by decide +kernel) rfl)
theorem xI_11_171 : xIok (11, 171, 244) := (xg5 81 (by decide +kernel) rfl)
theorem xI_11_174 : xIok (11, 174, 245) := (xg5 88 (by decide +kernel) rfl)
theorem xI_11_177 : xIok (11, 177, 246) := (xg5 92 (by decide +kernel) rfl)
theorem xI_11_180 : xIok (11, 180, 247) := (xg5 99 (by decide +kernel) rfl)
theorem xI_11_183 : xIok (11, 183, 248) := (xg5 107 (by decide +kernel) rfl)
theorem xI_11_186 : xIok (11, 186, 249) := (xg5 111 (by decide +kernel) rfl)
theorem xI_11_189 : xIok (11, 189, 250) := (xg5 115 (by decide +kernel) rfl)
theorem xI_11_192 : xIok (11, 192, 251) := (xg5 119 (by decide +kernel) rfl)
theorem xI_11_199 : xIok (11, 199, 252) := (xg5 131 (by decide +kernel) rfl)
theorem xI_11_206 : xIok (11, 206, 253) := (xg5 139 (by decide +kernel) rfl)
theorem xI_11_213 : xIok (11, 213, 254) := (xg5 143 (by decide +kernel) rfl)
theorem xI_11_244 : xIok (11, 244, 255) := (xg5 147 (by decide +kernel) rfl)
theorem xI_11_247 : xIok (11, 247, 256) := (xg5 151 (by decide +kernel) rfl)
theorem xI_11_250 : xIok (11, 250, 257) := (xg5 155 (by decide +kernel) rfl)
theorem xI_11_253 : xIok (11, 253, 258) := (xg5 159 (by decide +kernel) rfl)
theorem xI_11_256 : xIok (11, 256, 259) := (xg5 166 (by decide +kernel) rfl)
theorem xI_11_263 : xIok (11, 263, 260) := (xg5 178 (by decide +kernel) rfl)
theorem xI_11_109 : xIok (11, 109, 143) := (xg5 188 (by decide +kernel) rfl)
def xIs_l0 : List (Nat × Nat × Nat) := [(1, 24, 51), (1, 33, 73), (2, 17, 48), (3, 11, 73), (4, 11, 26), (4, 20, 40), (4, 27, 73), (5, 11, 73), (6, 11, 73), (6, 22, 26), (9, 11, 73), (9, 27, 51), (9, 36, 32), (9, 43, 0), (9, 52, 8), (9, 59, 48)]
theorem xIs_b0 : ∀ q ∈ xIs_l0, xIok q := List.forall_mem_cons.mpr ⟨xI_1_24, List.forall_mem_cons.mpr ⟨xI_1_33, List.forall_mem_cons.mpr ⟨xI_2_17, List.forall_mem_cons.mpr ⟨xI_3_11, List.forall_mem_cons.mpr ⟨xI_4_11, List.forall_mem_cons.mpr ⟨xI_4_20, List.forall_mem_cons.mpr ⟨xI_4_27, List.forall_mem_cons.mpr ⟨xI_5_11, List.forall_mem_cons.mpr ⟨xI_6_11, List.forall_mem_cons.mpr ⟨xI_6_22, List.forall_mem_cons.mpr ⟨xI_9_11, List.forall_mem_cons.mpr ⟨xI_9_27, List.forall_mem_cons.mpr ⟨xI_9_36, List.forall_mem_cons.mpr ⟨xI_9_43, List.forall_mem_cons.mpr ⟨xI_9_52, List.forall_mem_cons.mpr ⟨xI_9_59, fun _ h => absurd h List.not_mem_nil⟩⟩⟩⟩⟩⟩⟩⟩⟩⟩⟩⟩⟩⟩⟩⟩
def xIs_l16 : List (Nat × Nat × Nat) := [(9, 69, 21), (11, 106, 81), (11, 110, 232), (11, 136, 233), (11, 140, 234), (11, 143, 235), (11, 146, 236), (11, 149, 237), (11, 152, 238), (11, 156, 239), (11, 159, 240), (11, 162, 241), (11, 165, 242), (11, 168, 243), (11, 171, 244), (11, 174, 245)]
theorem xIs_b16 : ∀ q ∈ xIs_l16, xIok q := List.forall_mem_cons.mpr ⟨xI_9_69, List.forall_mem_cons.mpr ⟨xI_11_106, List.forall_mem_cons.mpr ⟨xI_11_110, List.forall_mem_cons.mpr ⟨xI_11_136, List.forall_mem_cons.mpr ⟨xI_11_140, List.forall_mem_cons.mpr ⟨xI_11_143, List.forall_mem_cons.mpr ⟨xI_11_146, List.forall_mem_cons.mpr ⟨xI_11_149, List.forall_mem_cons.mpr ⟨xI_11_152, List.forall_mem_cons.mpr ⟨xI_11_156, List.forall_mem_cons.mpr ⟨xI_11_159, List.forall_mem_cons.mpr ⟨xI_11_162, List.forall_mem_cons.mpr ⟨xI_11_165, List.forall_mem_cons.mpr ⟨xI_11_168, List.forall_mem_cons.mpr ⟨xI_11_171, List.forall_mem_cons.mpr ⟨xI_11_174, fun _ h => absurd h List.not_mem_nil⟩⟩⟩⟩⟩⟩⟩⟩⟩⟩⟩⟩⟩⟩⟩⟩
def xIs_l32 : List (Nat × Nat × Nat) := [(11, 177, 246), (11, 180, 247), (11, 183, 248), (11, 186, 249), (11, 189, 250), (11, 192, 251), (11, 199, 252), (11, 206, 253), (11, 213, 254), (11, 244, 255), (11, 247, 256), (11, 250, 257), (11, 253, 258), (11, 256, 259), (11, 263, 260), (11, 109, 143)]
theorem xIs_b32 : ∀ q ∈ xIs_l32, xIok q := List.forall_mem_cons.mpr ⟨xI_11_177, List.forall_mem_cons.mpr ⟨xI_11_180, List.forall_mem_cons.mpr ⟨xI_11_183, List.forall_mem_cons.mpr ⟨xI_11_186, List.forall_mem_cons.mpr ⟨xI_11_189, List.forall_mem_cons.mpr ⟨xI_11_192, List.forall_mem_cons.mpr ⟨xI_11_199, List.forall_mem_cons.mpr ⟨xI_11_206, List.forall_mem_cons.mpr ⟨xI_11_213, List.forall_mem_cons.mpr ⟨xI_11_244, List.forall_mem_cons.mpr ⟨xI_11_247, List.forall_mem_cons.mpr ⟨xI_11_250, List.forall_mem_cons.mpr ⟨xI_11_253, List.forall_mem_cons.mpr ⟨xI_11_256, List.forall_mem_cons.mpr ⟨xI_11_263, List.forall_mem_cons.mpr ⟨xI_11_109, fun _ h => absurd h List.not_mem_nil⟩⟩⟩⟩⟩⟩⟩⟩⟩⟩⟩⟩⟩⟩⟩⟩
def xIs_l : List (Nat × Nat × Nat) := xIs_l0 ++ (xIs_l16 ++ (xIs_l32))
theorem xIs_all : ∀ q ∈ xIs_l, xIok q := List.forall_mem_append.mpr ⟨xIs_b0, List.forall_mem_append.mpr ⟨xIs_b16, xIs_b32⟩⟩
def xIin : Bool := (List.range 14).all (fun own => match xcalT[own]? with
  | some l => l.all (fun q => (Nat.beq (xsk q.2) 2 || !(xhh q.2).isEmpty) == false || decide ((own, q) ∈ xIs_l))
  | none => true)
theorem xIin_ok : xIin = true := by decide +kernel
theorem xcal_in {own i mi' : Nat} (h : xcal own i = some mi') (hk : xsk mi' = 2 ∨ xhh mi' ≠ []) : xIok (own, i, mi') := by
  unfold xcal at h
  cases hl : xcalT[own]? with
  | none => rw [hl] at h; cases h
  | some l =>
    rw [hl] at h
    have hlt : own < xcalT.length := (List.getElem?_eq_some_iff.mp hl).1
    have hlen : xcalT.length = 14 := by decide +kernel
    have h1 := List.all_eq_true.mp xIin_ok own (List.mem_range.mpr (by omega))
    rw [hl] at h1
    have h2 := List.all_eq_true.mp h1 _ (xfin_mem h)
    rw [Bool.or_eq_true] at h2
    rcases h2 with h2 | h2
    · exfalso
      have h3 : (Nat.beq (xsk mi') 2 || !(xhh mi').isEmpty) = true := by
        rcases hk with hk | hk
        · rw [hk]; rfl
        · cases he : xhh mi' with
          | nil => exact absurd he hk
          | cons a b => simp
      simp only [h3] at h2
      cases h2
    · exact xIs_all _ (of_decide_eq_true h2)
theorem xown_obj : ∀ mi, mi < 262 → xsk mi ≠ 1 → xown mi < 11 ∧ xhh mi = [] := by decide +kernel
theorem xhh_st : ∀ mi, mi < 262 → ∀ q ∈ xhh mi, (match xfetch mi q.2.2.1 with
  | some (.astore_n k) => decide ((k : Nat) < xmaxL mi)
  | some (.astore k) => decide (k < xmaxL mi)
  | _ => false) = true := by decide +kernel
theorem xrk_all {mi : Nat} (h : mi < 262) : xRk (xrk mi) (xre mi) := by
  by_cases h2 : mi = 261
  · subst h2
    show xre 261 = _
    decide +kernel
  · exact (xMall h h2).2.2.1
/-! ===== values that a field takes ===== -/
theorem xkd_ok {b B kd : Nat} {v : xV} {ty : FieldType} (h : xkd kd v = true) (hT : xKd kd ty) : narrow ty (xm b B v) = xm b B v ∧ fits ty (xm b B v) = true := by
  unfold xkd at h
  split at h
  · have e : ty = .int := hT
    subst e; exact ⟨rfl, rfl⟩
  · rename_i x
    have e : ty = .boolean := hT
    subst e
    have hx : x = 0 ∨ x = 1 := by simpa using h
    rcases hx with rfl | rfl <;> exact ⟨rfl, rfl⟩
  · rename_i x
    obtain ⟨n, h⟩ := hT
    rcases h with rfl | ⟨u, rfl⟩ <;> cases x <;> exact ⟨rfl, rfl⟩
  · have e : ty = .long := hT
    subst e; exact ⟨rfl, rfl⟩
  · cases h
theorem xi_nar {x : Int} (h1 : 0 ≤ x) (h2 : x ≤ 65535) : vp_nar .char (Int32.ofInt x) = Int32.ofInt x := by
  rw [vp_nar_char]
  obtain ⟨n, rfl⟩ := Int.eq_ofNat_of_zero_le h1
  have hn : n ≤ 65535 := by omega
  have e : (Int32.ofInt (n : Int)).toUInt32 = UInt32.ofNat n := rfl
  rw [e]
  have e2 : (UInt32.ofNat n).toUInt16.toUInt32 = UInt32.ofNat n := by
    apply UInt32.toNat_inj.mp
    simp
    omega
  rw [e2]
  apply Int32.toInt_inj.mp
  rw [Int32.toInt_ofInt_of_le (by omega) (by omega)]
  simp [Int.bmod]
  omega
theorem xRelH_scr {b B : Nat} {D : va_G} {ca : Nat → ClassId} {xs : List xV} {ph : xH} {g : Nat} {H : Heap} (h : xRelH b B D ca xs ph g H) {a : Nat} {vs : List xV} (hc : ph[a]? = some (200, vs)) : a = 0 ∧ vs = xs := by
  rcases xRelH_tag h hc with ⟨h1, -, h3⟩ | ⟨-, h2⟩
  · exact ⟨h1, h3⟩
  · omega
theorem xarrV_congr {cI : ClassId} {N : Nat} {f g : Nat → Value} (h : ∀ j, j < N → f j = g j) : arrV cI N f = arrV cI N g := by
  unfold arrV
  have e : (fun j : Fin N => f j.val) = fun j : Fin N => g j.val := funext fun j => h j.val j.isLt
  rw [e]
section XST
variable {p : Program} {l : Launch} {e : Env} {R : Room} {s : State} {m : MethodId} {args : Array Value} {below : List Frame} {meth : Method} {c : Code} {H : Heap} {locs : List Loc} {cells slots : Nat} {Q : State → Prop}
variable {pc mi : Nat} {ls : Array Slot} {rest : List Value} {D : va_G} {A : Nat → Prop} {a : Nat} {tys : List (ClassId × FieldType)} {ws : va_W} {H0 : Heap}
theorem xiastW (hexec : p.tables.exec = Jvm.exec) (hb : c.code = xby mi) (hK : va_K D vwCl tys s) (hP : va_P D vwCl ws H) (hD : va_D A ws) (hS : va_S A H0 H locs) (q0 t0 : Nat) {cA : ClassId} {n : Nat} {f : Nat → Int32} (ha : ws[q0]? = some (a, .inl (cA, n, .inl f))) (ht : tys[t0]? = some (cA, .int)) {i : Int32} {x : Int32} (hin : vp_in i n) (hdg : decode (xby mi) pc = .ok (.iastore, 1))
    (kk : ∀ (H1 : Heap) (locs1 : List Loc), va_P D vwCl (ws.set q0 (a, .inl (cA, n, .inl (upd f i.toNatClampNeg x)))) H1 → va_D A (ws.set q0 (a, .inl (cA, n, .inl (upd f i.toNatClampNeg x)))) → va_S A H0 H1 locs1 → H1.size = H.size → W p l e R s m args below meth c H1 locs1 cells slots Q (F0 m (pc + 1) ls rest)) : W p l e R s m args below meth c H locs cells slots Q (F0 m pc ls (.int x :: .int i :: .ref a :: rest)) := by
  refine W.iast hexec hb (hP q0 _ ha) ((hK.2 t0 _ ht).1 n (fun j => .int (f j))) (fun q => by cases q) (by show ¬ (i < 0 ∨ (arrV _ _ _).slots.size ≤ _); rw [arrV_size]; exact hin) rfl rfl hdg fun H1 e z oq => ?_
  refine kk H1 _ (hP.set hD ha ?_ oq) (hD.set ha) (hS.put z oq (hD.2 q0 _ ha)) z
  show H1[a]? = some (vp_cell _ _)
  rw [e]
  rw [vp_cell_i, vp_cell_i, arrV_store]
  congr 2
  funext q
  by_cases hq : q = i.toNatClampNeg
  · subst hq
    simp [updV, upd]
  · simp [updV, upd, hq]
theorem xcastW (hexec : p.tables.exec = Jvm.exec) (hb : c.code = xby mi) (hK : va_K D vwCl tys s) (hP : va_P D vwCl ws H) (hD : va_D A ws) (hS : va_S A H0 H locs) (q0 t0 : Nat) {cA : ClassId} {n : Nat} {f : Nat → Int32} (ha : ws[q0]? = some (a, .inl (cA, n, .inl f))) (ht : tys[t0]? = some (cA, .char)) {i : Int32} {x : Int32} (hin : vp_in i n) (hdg : decode (xby mi) pc = .ok (.castore, 1))
    (kk : ∀ (H1 : Heap) (locs1 : List Loc), va_P D vwCl (ws.set q0 (a, .inl (cA, n, .inl (upd f i.toNatClampNeg (vp_nar .char x))))) H1 → va_D A (ws.set q0 (a, .inl (cA, n, .inl (upd f i.toNatClampNeg (vp_nar .char x))))) → va_S A H0 H1 locs1 → H1.size = H.size → W p l e R s m args below meth c H1 locs1 cells slots Q (F0 m (pc + 1) ls rest)) : W p l e R s m args below meth c H locs cells slots Q (F0 m pc ls (.int x :: .int i :: .ref a :: rest)) := by
  refine W.cast hexec hb (hP q0 _ ha) ((hK.2 t0 _ ht).1 n (fun j => .int (f j))) (fun q => by cases q) (by show ¬ (i < 0 ∨ (arrV _ _ _).slots.size ≤ _); rw [arrV_size]; exact hin) rfl rfl hdg fun H1 e z oq => ?_
  refine kk H1 _ (hP.set hD ha ?_ oq) (hD.set ha) (hS.put z oq (hD.2 q0 _ ha)) z
  show H1[a]? = some (vp_cell _ _)
  rw [e]
  rw [vp_cell_i, vp_cell_i, arrV_store]
  congr 2
  funext q
  by_cases hq : q = i.toNatClampNeg
  · subst hq
    simp [updV, upd, vp_nar]
    try rfl
  · simp [updV, upd, vp_nar, hq]
theorem xlastW (hexec : p.tables.exec = Jvm.exec) (hb : c.code = xby mi) (hK : va_K D vwCl tys s) (hP : va_P D vwCl ws H) (hD : va_D A ws) (hS : va_S A H0 H locs) (q0 t0 : Nat) {cA : ClassId} {n : Nat} {f : Nat → Int64} (ha : ws[q0]? = some (a, .inl (cA, n, .inr <| .inl f))) (ht : tys[t0]? = some (cA, .long)) {i : Int32} {x : Int64} (hin : vp_in i n) (hdg : decode (xby mi) pc = .ok (.lastore, 1))
    (kk : ∀ (H1 : Heap) (locs1 : List Loc), va_P D vwCl (ws.set q0 (a, .inl (cA, n, .inr <| .inl (vp_updL f i.toNatClampNeg x)))) H1 → va_D A (ws.set q0 (a, .inl (cA, n, .inr <| .inl (vp_updL f i.toNatClampNeg x)))) → va_S A H0 H1 locs1 → H1.size = H.size → W p l e R s m args below meth c H1 locs1 cells slots Q (F0 m (pc + 1) ls rest)) : W p l e R s m args below meth c H locs cells slots Q (F0 m pc ls (.long x :: .int i :: .ref a :: rest)) := by
  refine W.last hexec hb (hP q0 _ ha) ((hK.2 t0 _ ht).1 n (fun j => .long (f j))) (fun q => by cases q) (by show ¬ (i < 0 ∨ (arrV _ _ _).slots.size ≤ _); rw [arrV_size]; exact hin) rfl rfl hdg fun H1 e z oq => ?_
  refine kk H1 _ (hP.set hD ha ?_ oq) (hD.set ha) (hS.put z oq (hD.2 q0 _ ha)) z
  show H1[a]? = some (vp_cell _ _)
  rw [e]
  rw [vp_cell_l, vp_cell_l, arrV_store]
  congr 2
  funext q
  by_cases hq : q = i.toNatClampNeg
  · subst hq
    simp [updV, vp_updL]
  · simp [updV, vp_updL, hq]
theorem xastqW (hexec : p.tables.exec = Jvm.exec) (hb : c.code = xby mi) (hK : va_K D vwCl tys s) (hP : va_P D vwCl ws H) (hD : va_D A ws) (hS : va_S A H0 H locs) (q0 t0 qk ci : Nat) {cA : ClassId} {r : vw_C} {n v : Nat} {vs : List Value} {f : Nat → Option Nat} (ha : ws[q0]? = some (a, .inl (cA, n, .inr (.inr (.inr (.inr f)))))) (ht : tys[t0]? = some (cA, .object r.1)) (hv : ws[qk]? = some (v, .inr (ci, vs))) (hc : vwCl[ci]? = some r) {i : Int32} (hin : vp_in i n) (hdg : decode (xby mi) pc = .ok (.aastore, 1))
    (kk : ∀ (H1 : Heap) (locs1 : List Loc), va_P D vwCl (ws.set q0 (a, .inl (cA, n, .inr (.inr (.inr (.inr (va_up f i.toNatClampNeg (some v)))))))) H1 → va_D A (ws.set q0 (a, .inl (cA, n, .inr (.inr (.inr (.inr (va_up f i.toNatClampNeg (some v)))))))) → va_S A H0 H1 locs1 → H1.size = H.size → W p l e R s m args below meth c H1 locs1 cells slots Q (F0 m (pc + 1) ls rest)) : W p l e R s m args below meth c H locs cells slots Q (F0 m pc ls (.ref v :: .int i :: .ref a :: rest)) := by
  have hlt : i.toNatClampNeg < n := Nat.not_le.mp fun q => hin (Or.inr q)
  have h0 : ¬ i < 0 := fun q => hin (Or.inl q)
  obtain ⟨r', hr', cellV, g1, g2, g3, -⟩ := hP qk _ hv
  have hcls := (hK.1 ci r hc).2
  obtain ⟨kA, comp, k1, k2, k3, -⟩ := (hK.2 t0 _ ht).2
  have hcomp : comp = D.1 ci := Option.some.inj (k3.symm.trans hcls.1)
  subst hcomp
  obtain ⟨kC, hkC, -⟩ := hcls.2
  refine W.aast hexec hb (hP q0 _ ha) (fun q h => by cases h) (fun h => by cases h) k1 k2 rfl hkC ⟨h0, by show _ < (arrV _ _ _).slots.size; rw [arrV_size]; exact hlt⟩ g1 (fun q h => by rw [g3] at h; cases h) (by rw [g2]; exact hkC) (by rw [g2]; exact va_assign hcls) rfl rfl hdg fun H1 e z oq => ?_
  refine kk H1 _ (hP.set hD ha ?_ oq) (hD.set ha) (hS.put z oq (hD.2 q0 _ ha)) z
  show H1[a]? = some (vp_cell _ _)
  rw [e]
  rw [vp_cell_q, vp_cell_q, arrV_store]
  congr 2
  funext q
  by_cases hq : q = i.toNatClampNeg
  · subst hq
    simp [updV, va_up, va_rf]
  · simp [updV, va_up, hq]
theorem xputW (hexec : p.tables.exec = Jvm.exec) (hb : c.code = xby mi) (hts0 : ∀ w, xG w → w.before args s = true) (hown : s.vm.findClass (xRn (xown mi)) = some m.cls) (hK : va_K D vwCl tys s) (hP : va_P D vwCl ws H) (hD : va_D A ws) (hS0 : va_S A H0 H locs) {q0 t : Nat} {fs : List Value} (he : ws[q0]? = some (a, .inr (t, fs))) (hC : xCok t) (k : Nat) (hk : k < (xCl t).2.2) {i : Nat}
    (alt : ((Cond.fieldLink (xRn (xown mi)) i (xCl t).1 ((xCl t).2.1 k).2.1 ((xCl t).2.1 k).2.2.1).before args s = true ∧ (((xCl t).2.1 k).2.2.2 = false ∨ (((xCl t).2.1 k).2.2.2 = true ∧ meth.name = "<init>" ∧ ((xCl t).2.1 k).1 = xRn (xown mi)))) ∨ ((Cond.fieldLinkNest (xRn (xown mi)) i (xCl t).1 ((xCl t).2.1 k).2.1 ((xCl t).2.1 k).2.2.1 "TemplateScopes").before args s = true ∧ ((xCl t).2.1 k).2.2.2 = false))
    (hd : parseFieldDescriptor ((xCl t).2.1 k).2.2.1 = some (xtyF t k)) {v : Value} (hkt : narrow (xtyF t k) v = v ∧ fits (xtyF t k) v = true) (hl : k < fs.length) (hdg : decode (xby mi) pc = .ok (.putfield i, 3))
    (kk : ∀ (H1 : Heap) (locs1 : List Loc), va_P D vwCl (ws.set q0 (a, .inr (t, fs.set k v))) H1 → va_D A (ws.set q0 (a, .inr (t, fs.set k v))) → va_S A H0 H1 locs1 → H1.size = H.size → W p l e R s m args below meth c H1 locs1 cells slots Q (F0 m (pc + 3) ls rest)) : W p l e R s m args below meth c H locs cells slots Q (F0 m pc ls (v :: .ref a :: rest)) := by
  have hts : ∀ w ∈ lw_tbl.filter goodWord, w.before args s = true := fun w hw => hts0 w (List.mem_filter.mp hw)
  have hin : ∀ w ∈ u_ws (xCl t).1 (xCl t).2.1 (xCl t).2.2, w ∈ lw_tbl.filter goodWord := fun w hw => List.mem_filter.mpr (hC.2.2.1 w hw)
  have hc : vwCl[t]? = some ((xCl t).1, (xCl t).2.1, (xCl t).2.2) := hC.1
  have hap := va_apart (own := xRn (xown mi)) hts hin (xtyF t) hC.2.2.2.1 hC.2.2.2.2.1 hK hc
  have hsame : ∀ x, s.fieldFound? ((xCl t).2.1 k).1 ((xCl t).2.1 k).2.1 ((xCl t).2.1 k).2.2.1 = some x → s.fieldFound? (xCl t).1 ((xCl t).2.1 k).2.1 ((xCl t).2.1 k).2.2.1 = some x := fun x h0 => by rw [hC.2.2.2.2.2.2.2.2.1 k hk] at h0; exact h0
  obtain ⟨r, h1, cell, q1, q2, q3, q4⟩ := hP q0 _ he
  have hr : r = ((xCl t).1, (xCl t).2.1, (xCl t).2.2) := Option.some.inj (h1.symm.trans hc)
  subst hr
  obtain ⟨hS, hfc, kC, hkC, hkind⟩ := hK.1 t _ hc
  obtain ⟨cf, kf, fi, f, hi, hsl⟩ := hS k hk
  have hlay := hts _ (hin _ (u_in_lay hk))
  unfold u_lay at hlay
  have hst := (u_facts hfc hkC (u_lays hts hin hk) hi).1
  rcases alt with ⟨hlink, hfin | ⟨hfin, hin2, hdecl⟩⟩ | ⟨hlink, hfin⟩
  · rw [if_neg (by rw [hfin]; decide)] at hlay
    have h6 := u_store hfc hkC hkind hlay hi hd hkt.1 hkt.2
    refine W.putK hexec hb (f := f) ⟨hown, hlink, ⟨_, _, _, hsame _ hi⟩, hst⟩ (by rw [q2]; exact h6) q1 q3 (by rw [hsl]; exact k2_hasslot (q4 k hk)) rfl rfl hdg fun H' e1 e2 e3 => ?_
    rw [hsl] at e1 ⊢
    exact kk H' _ (hP.set hD he ⟨_, hc, t_OB.to (V := updV (vp_V fs) k v) ⟨_, e1, q2, q3, t_set q4 hap hk v⟩ (fun j _ => vp_updV_set hl v j)⟩ e3) (hD.set he) (hS0.put e2 e3 (hD.2 q0 _ he)) e2
  · rw [if_pos hfin] at hlay
    have hcf : m.cls = cf := by
      obtain ⟨_, _, c', _, _, _, -, -, hf', -, -, -, hown2, -⟩ := Cond.laysFinal_spec hlay
      have e1 : c' = cf := by have := hi.symm.trans hf'; simp at this; exact this.1.symm
      rw [hdecl] at hown2
      rw [← e1]; exact Option.some.inj (hown.symm.trans hown2)
    have h6 := u_fits hfc hkC hkind (Or.inr hlay) hi hd hkt.1 hkt.2
    refine W.putFinK hexec hb hown hlink (hsame _ hi) hst hcf hin2 (by rw [q2]; exact h6) q1 q3 (by rw [hsl]; exact k2_hasslot (q4 k hk)) rfl rfl hdg fun H' e1 e2 e3 => ?_
    rw [hsl] at e1 ⊢
    exact kk H' _ (hP.set hD he ⟨_, hc, t_OB.to (V := updV (vp_V fs) k v) ⟨_, e1, q2, q3, t_set q4 hap hk v⟩ (fun j _ => vp_updV_set hl v j)⟩ e3) (hD.set he) (hS0.put e2 e3 (hD.2 q0 _ he)) e2
  · rw [if_neg (by rw [hfin]; decide)] at hlay
    have h6 := u_store hfc hkC hkind hlay hi hd hkt.1 hkt.2
    refine va_WputK hexec hb (f := f) hown hlink (hsame _ hi) hst (by rw [q2]; exact h6) q1 q3 (by rw [hsl]; exact k2_hasslot (q4 k hk)) rfl rfl hdg fun H' e1 e2 e3 => ?_
    rw [hsl] at e1 ⊢
    exact kk H' _ (hP.set hD he ⟨_, hc, t_OB.to (V := updV (vp_V fs) k v) ⟨_, e1, q2, q3, t_set q4 hap hk v⟩ (fun j _ => vp_updV_set hl v j)⟩ e3) (hD.set he) (hS0.put e2 e3 (hD.2 q0 _ he)) e2
/-- a new cell behind the others -/
theorem xpush {a0 : va_E} {H1 : Heap} (hP : va_P D vwCl ws H) (hD : va_D A ws) (hS : va_S A H0 H locs) (hA : ∀ q, H0.size ≤ q → A q) (z1 : H1.size = H.size + 1) (o1 : ∀ q, q < H.size → H1[q]? = H[q]?) (h0 : va_at D vwCl (H.size, a0) H1) : va_P D vwCl (ws ++ [(H.size, a0)]) H1 ∧ va_D A (ws ++ [(H.size, a0)]) ∧ va_S A H0 H1 locs := by
  have hk : ∀ (k : Nat) (x : Nat × va_E), ws[k]? = some x → H1[x.1]? = H[x.1]? := fun k x hx => o1 x.1 ((hP k x hx).lt)
  refine ⟨(hP.kept hk).app (fun k x hx => ?_), hD.push hP rfl (hA _ hS.1), ⟨Nat.le_trans hS.1 (by omega), fun x h1 h2 => (o1 x (Nat.lt_of_lt_of_le h1 hS.1)).trans (hS.2.1 x h1 h2), hS.2.2⟩⟩
  have hz : k < 1 := (List.getElem?_eq_some_iff.mp hx).1
  rw [show k = 0 by omega] at hx
  cases hx
  exact h0
theorem xnewW (hexec : p.tables.exec = Jvm.exec) (hb : c.code = xby mi) {index t : Nat} (hts0 : ∀ w, xG w → w.before args s = true) (hown : s.vm.findClass (xRn (xown mi)) = some m.cls) (hcl : (Cond.classLink (xRn (xown mi)) index (xCl t).1).before args s = true) (hC : xCok t)
    (hK : va_K D vwCl tys s) (hP : va_P D vwCl ws H) (hD : va_D A ws) (hS : va_S A H0 H locs) (hA : ∀ q, H0.size ≤ q → A q) {fs : List Value} (hfs : ∀ j, j < (xCl t).2.2 → defaultValue (xtyF t j) = vp_V fs j) (hcells : cells + 1 ≤ R.cells) (hslots : slots + (xCl t).2.2 ≤ R.slots) (hdg : decode (xby mi) pc = .ok (.new index, 3))
    (kk : ∀ (H1 : Heap), va_P D vwCl (ws ++ [(H.size, .inr (t, fs))]) H1 → va_D A (ws ++ [(H.size, .inr (t, fs))]) → va_S A H0 H1 locs → H1.size = H.size + 1 →
      W p l e R s m args below meth c H1 locs (cells + 1) (slots + (xCl t).2.2) Q (F0 m (pc + 3) ls (.ref H.size :: rest))) : W p l e R s m args below meth c H locs cells slots Q (F0 m pc ls rest) := by
  have hts : ∀ w ∈ lw_tbl.filter goodWord, w.before args s = true := fun w hw => hts0 w (List.mem_filter.mp hw)
  have hin : ∀ w ∈ u_ws (xCl t).1 (xCl t).2.1 (xCl t).2.2, w ∈ lw_tbl.filter goodWord := fun w hw => List.mem_filter.mpr (hC.2.2.1 w hw)
  have hc : vwCl[t]? = some ((xCl t).1, (xCl t).2.1, (xCl t).2.2) := hC.1
  have hKn := hK.1 t _ hc
  refine W.newcK hexec hb hown hcl (hts0 _ hC.2.2.2.2.2.2.1) (hts0 _ hC.2.2.2.2.2.2.2.1) rfl hdg hcells hslots hKn.2.1 rfl fun H1 kC hkC e1 z1 o1 => ?_
  obtain ⟨a1, a2, a3⟩ := xpush (a0 := .inr (t, fs)) hP hD hS hA z1 o1 ⟨_, hc, (u_born (xtyF t) hts hin hKn hkC e1 hC.2.2.2.1).to hfs⟩
  exact kk H1 a1 a2 a3 z1
theorem xnewaW (hexec : p.tables.exec = Jvm.exec) (hb : c.code = xby mi) {atype : ArrayType} (harr : (Cond.arrayClass (newarray.typeOf atype)).before args s = true) (hK : va_K D vwCl tys s) (hP : va_P D vwCl ws H) (hD : va_D A ws) (hS : va_S A H0 H locs) (hA : ∀ q, H0.size ≤ q → A q) {cA : ClassId} (hcA : s.vm.findClass ("[" ++ (newarray.typeOf atype).toString) = some cA)
    {n : Int32} {N' : Nat} {a0 : vp_A} (ha : vp_cell cA a0 = arrV cA N' (fun _ => defaultValue (newarray.typeOf atype))) (hn : ¬ n < 0) (hN : n.toNatClampNeg = N') (hbytes : N' * componentBytes (newarray.typeOf atype) ≤ 536870912) (hcells : cells + 1 ≤ R.cells) (hslots : slots + N' ≤ R.slots) (hdg : decode (xby mi) pc = .ok (.newarray atype, 2))
    (kk : ∀ (H1 : Heap), va_P D vwCl (ws ++ [(H.size, .inl (cA, a0))]) H1 → va_D A (ws ++ [(H.size, .inl (cA, a0))]) → va_S A H0 H1 locs → H1.size = H.size + 1 →
      W p l e R s m args below meth c H1 locs (cells + 1) (slots + N') Q (F0 m (pc + 2) ls (.ref H.size :: rest))) : W p l e R s m args below meth c H locs cells slots Q (F0 m pc ls (.int n :: rest)) := by
  refine va_newaK hexec hb harr rfl hdg rfl hn hN hbytes hcells hslots rfl fun H1 cB e1 z1 o1 hAr hNm => ?_
  have hcB : cB = cA := Option.some.inj (hNm.symm.trans hcA)
  subst hcB
  obtain ⟨a1, a2, a3⟩ := xpush (a0 := .inl (cB, a0)) hP hD hS hA z1 o1 (by show H1[H.size]? = some (vp_cell _ _); rw [ha]; exact e1)
  exact kk H1 a1 a2 a3 z1
theorem xnewqW (hexec : p.tables.exec = Jvm.exec) (hb : c.code = xby mi) {own C : String} {index : Nat} (hown : s.vm.findClass own = some m.cls) (hclink : (Cond.classLink own index C).before args s = true) (hover : va_AO C s) (hK : va_K D vwCl tys s) (hP : va_P D vwCl ws H) (hD : va_D A ws) (hS : va_S A H0 H locs) (hA : ∀ q, H0.size ≤ q → A q) {cA : ClassId} (hcA : s.vm.findClass ("[" ++ (FieldType.object C).toString) = some cA)
    {n : Int32} {N' : Nat} {f : Nat → Option Nat} (hf : ∀ j, j < N' → f j = none) (hn : ¬ n < 0) (hN : n.toNatClampNeg = N') (hbytes : N' * 4 ≤ 536870912) (hcells : cells + 1 ≤ R.cells) (hslots : slots + N' ≤ R.slots) (hdg : decode (xby mi) pc = .ok (.anewarray index, 3))
    (kk : ∀ (H1 : Heap), va_P D vwCl (ws ++ [(H.size, .inl (cA, N', .inr (.inr (.inr (.inr f)))))]) H1 → va_D A (ws ++ [(H.size, .inl (cA, N', .inr (.inr (.inr (.inr f)))))]) → va_S A H0 H1 locs → H1.size = H.size + 1 →
      W p l e R s m args below meth c H1 locs (cells + 1) (slots + N') Q (F0 m (pc + 3) ls (.ref H.size :: rest))) : W p l e R s m args below meth c H locs cells slots Q (F0 m pc ls (.int n :: rest)) := by
  subst hN
  refine W.anew hexec hb hown hclink (va_AO.use hover) rfl hdg rfl hn hbytes hcells hslots fun cB kA comp f1 f2 f3 f4 => ?_
  have hcB : cB = cA := Option.some.inj (f1.symm.trans hcA)
  subst hcB
  generalize hH1 : H.push ({ cls := cB, slots := Array.replicate n.toNatClampNeg .null, vm := .none } : Cell) = H1
  have z1 : H1.size = H.size + 1 := by rw [← hH1, Array.size_push]
  have e1 : H1[H.size]? = some (arrV cB n.toNatClampNeg (fun _ => .null)) := by rw [← hH1, Array.getElem?_push_size, ← arrV_new]
  have o1 : ∀ q : Nat, q < H.size → H1[q]? = H[q]? := fun q hq => by rw [← hH1, Array.getElem?_push, if_neg (Nat.ne_of_lt hq)]
  obtain ⟨a1, a2, a3⟩ := xpush (a0 := .inl (cB, n.toNatClampNeg, .inr (.inr (.inr (.inr f))))) hP hD hS hA z1 o1 (by
    show H1[H.size]? = some (vp_cell _ _)
    rw [vp_cell_q, e1]
    exact congrArg some (xarrV_congr (fun j hj => by rw [hf j hj]; rfl)))
  exact kk H1 a1 a2 a3 z1
end XST
/-! ===== what is made at first ===== -/
theorem xdfT_ok : xdfT.all (fun l => l.all (fun v => match v with
  | .inl x => x == 0
  | .inr (.inl (some _)) => false
  | _ => true)) = true := by decide +kernel
theorem xdf_ok {ci : Nat} {v : xV} (h : v ∈ xdf ci) : xwf v ∧ ∀ z, v ≠ .inr (.inl (some z)) := by
  unfold xdf at h
  cases hl : xdfT[ci]? with
  | none => rw [hl] at h; cases h
  | some l =>
    rw [hl] at h
    have h1 := List.all_eq_true.mp xdfT_ok l (List.mem_of_getElem? hl)
    have h2 := List.all_eq_true.mp h1 v h
    rcases v with x | x | x
    · have h3 : x = 0 := by simpa using h2
      subst h3
      exact ⟨xin0, fun z hz => by cases hz⟩
    · cases x with
      | none => exact ⟨trivial, fun z hz => by cases hz⟩
      | some z => cases h2
    · exact ⟨trivial, fun z hz => by cases hz⟩
theorem xdf_wf (ci : Nat) : xwfs (xdf ci) := fun v hv => (xdf_ok hv).1
theorem xwfs_rep {n : Nat} {v : xV} (h : xwf v) : xwfs (List.replicate n v) := fun w hw => by rw [(List.mem_replicate.mp hw).2]; exact h
theorem xca_i (b B : Nat) (vs : List xV) : xca b B 100 vs = (vs.length, .inl (fun j => xmI vs[j]?)) := rfl
theorem xca_c (b B : Nat) (vs : List xV) : xca b B 101 vs = (vs.length, .inl (fun j => xmI vs[j]?)) := rfl
theorem xca_l (b B : Nat) (vs : List xV) : xca b B 102 vs = (vs.length, .inr (.inl (fun j => xmL vs[j]?))) := rfl
theorem xrep_i {cA : ClassId} {n : Nat} (b B : Nat) : vp_cell cA (xca b B 100 (List.replicate n (.inl 0))) = arrV cA n (fun _ => defaultValue .int) := by
  rw [xca_i, List.length_replicate, vp_cell_i]
  exact xarrV_congr (fun j hj => by rw [List.getElem?_replicate, if_pos hj]; rfl)
theorem xrep_c {cA : ClassId} {n : Nat} (b B : Nat) : vp_cell cA (xca b B 101 (List.replicate n (.inl 0))) = arrV cA n (fun _ => defaultValue .char) := by
  rw [xca_c, List.length_replicate, vp_cell_i]
  exact xarrV_congr (fun j hj => by rw [List.getElem?_replicate, if_pos hj]; rfl)
theorem xrep_l {cA : ClassId} {n : Nat} (b B : Nat) : vp_cell cA (xca b B 102 (List.replicate n (.inr (.inr (.inl 0))))) = arrV cA n (fun _ => defaultValue .long) := by
  rw [xca_l, List.length_replicate, vp_cell_l]
  exact xarrV_congr (fun j hj => by rw [List.getElem?_replicate, if_pos hj]; rfl)
/-! ===== exceptions: thrown, passed on, caught ===== -/
theorem xEn_ini {E : Nat} (h : E < 3) : xG (.initialized (xEn E)) := by
  match E, h with
  | 0, _ => exact xg1 16 (by decide +kernel) rfl
  | 1, _ => exact xg1 17 (by decide +kernel) rfl
  | 2, _ => exact xg1 18 (by decide +kernel) rfl
def xIc : Nat → Nat
  | 0 => 331
  | 1 => 89
  | _ => 176
theorem xat_all {E : Nat} (h : E < 3) : (∀ w ∈ (vx_atS RX9 (xIc E) (xEn E) ["java/lang/RuntimeException", "java/lang/Exception"]).filter goodWord, w ∈ lw_tbl) ∧ (vx_atS RX9 (xIc E) (xEn E) ["java/lang/RuntimeException", "java/lang/Exception"]).filter (fun w => !goodWord w) = xDc.map Cond.declares ++ [.castable (xEn E) (xEn E)] ∧ (∀ w ∈ vx_atS RX9 (xIc E) (xEn E) ["java/lang/RuntimeException", "java/lang/Exception"], vx_ot w = true) := by
  match E, h with
  | 0, _ => exact ⟨fun w hw => of_decide_eq_true (List.all_eq_true.mp xat_0 w hw), xau_0, fun w hw => List.all_eq_true.mp xav_0 w hw⟩
  | 1, _ => exact ⟨fun w hw => of_decide_eq_true (List.all_eq_true.mp xat_1 w hw), xau_1, fun w hw => List.all_eq_true.mp xav_1 w hw⟩
  | 2, _ => exact ⟨fun w hw => of_decide_eq_true (List.all_eq_true.mp xat_2 w hw), xau_2, fun w hw => List.all_eq_true.mp xav_2 w hw⟩
theorem xfit {E : Nat} (h : E < 3) : Bundle.fit (xEn E) = true := by
  match E, h with
  | 0, _ => decide +kernel
  | 1, _ => decide +kernel
  | 2, _ => decide +kernel
theorem xfit2 : ∀ n ∈ ["java/lang/RuntimeException", "java/lang/Exception"], Bundle.fit n = true := by decide +kernel
section XTH
variable {p : Program} {l : Launch} {e : Env} {R : Room} {s : State} {m : MethodId} {args : Array Value} {below : List Frame} {meth : Method} {c : Code} {H : Heap} {locs : List Loc} {cells slots : Nat}
variable {b B : Nat} {D : va_G} {ca : Nat → ClassId} {xs : List xV} {mi pc mc ms g E : Nat} {ph : xH} {ls : Array Slot}
theorem xthrow (hlf : l.stackTraces = false) (hx : p.tables.exec = Jvm.exec) (hb : c.code = xby mi) (hown : s.vm.findClass (xRn (xown mi)) = some m.cls) (hts : ∀ w, xG w → w.before args s = true) (hfx : xFx b B D ca xs s) (hlocks : meth.locks = false) (htab : c.exceptionTable.toList = tableOf (xhh mi)) (hlsz : ls.size = c.maxLocals) (hR1 : 8 ≤ R.frames) (hR2 : 120 ≤ R.locals)
    (hth : xthr mi pc = some E) (hrel : xRelH b B D ca xs ph g H) (hS : va_S (xA B) s.heap H locs) (hc1 : cells + 1 = mc) (hc2 : slots + 6 = ms) (hm1 : mc ≤ R.cells) (hm2 : ms ≤ R.slots) :
    W p l e R s m args below meth c H locs cells slots (vx_MQ below (xQc b B D ca xs (.inr E, ph, g + 1)) (xXc b B D ca xs (.inr E, ph, g + 1)) args s mc ms (xA B)) (F0 m pc ls []) := by
  obtain ⟨h1, h2, hE, ik, is, ic, tx, htx, hcl, hic, d0, d3, hd⟩ := xthr_ok hth
  simp only at h1 h2 hE hcl hic d0 d3 hd
  obtain ⟨-, ⟨hU, hN⟩, hSs, hDc, hCb, -⟩ := hfx
  obtain ⟨sa, hsa⟩ := hSs _ htx
  have hown9 : s.vm.findClass RX9 = some m.cls := by rw [h1] at hown; exact hown
  have hic9 : ic = xIc E := by
    rcases hic with ⟨rfl, h⟩ | ⟨rfl, h⟩ | ⟨rfl, h⟩ <;> exact h
  subst hic9
  obtain ⟨a1, a2, a3⟩ := xat_all hE
  have hat : ∀ w ∈ vx_atS RX9 (xIc E) (xEn E) ["java/lang/RuntimeException", "java/lang/Exception"], w.before args s = true := by
    refine vx_hat (B := xDc.map Cond.declares ++ [.castable (xEn E) (xEn E)]) (fun w hw => hts w ⟨a1 w hw, (List.mem_filter.mp hw).2⟩) (fun w hw => by rw [← a2]; exact hw) (fun w hw => ?_)
    rcases List.mem_append.mp hw with hw | hw
    · obtain ⟨q, hq, rfl⟩ := List.mem_map.mp hw
      exact va_Nw.use rfl (hDc q hq)
    · rw [List.mem_singleton.mp hw]
      exact (hCb E hE).use
  have hgood : ∀ w ∈ Cond.classLink RX9 ik (xEn E) :: Cond.initialized (xEn E) :: vx_atS RX9 (xIc E) (xEn E) ["java/lang/RuntimeException", "java/lang/Exception"], vx_ot w = true := by
    intro w hw
    rcases List.mem_cons.mp hw with h | h
    · rw [h]; unfold vx_ot; rw [hcl.2]; simp
    · rcases List.mem_cons.mp h with h | h
      · rw [h]; unfold vx_ot; rw [(xEn_ini hE).2]; simp
      · exact a3 w h
  have hempty : c.exceptionTable.toList = [] := by rw [htab, h2]; rfl
  have hxx : ∀ t : State, s.vm.Alike t.vm → H.size ≤ t.heap.size → (∀ q : Nat, q < H.size → t.heap[q]? = H[q]?) → xXc b B D ca xs (.inr E, ph, g + 1) (xEn E) s t := fun t _ ht1 ht2 =>
    ⟨E, ph, g + 1, rfl, hE, rfl, xRelH_kept hrel ht1 ht2, ⟨Nat.le_trans hS.1 ht1, fun q hq hA => (ht2 q (Nat.lt_of_lt_of_le hq hS.1)).trans (hS.2.1 q hq hA)⟩⟩
  rcases hd with ⟨d4, d6, d9⟩ | ⟨d4, d7, d10⟩
  · exact vx_throwS hx hb hlf hown9 (xfit hE) xfit2 (hts _ hcl) (hts _ (xEn_ini hE)) hsa hat hgood hU hN hS hlsz d0 d3 d4 d6 d9 (by rw [hempty]; intro x hx; cases hx) (by show 2 + 3 < _; omega) (by show 0 + (13 * (2 + 1) + 43) ≤ _; omega) (by omega) (by omega) hlocks hxx (fun z hz => hS.2.2 z hz) (by omega) (by omega)
  · exact vx_throwSW hx hb hlf hown9 (xfit hE) xfit2 (hts _ hcl) (hts _ (xEn_ini hE)) hsa hat hgood hU hN hS hlsz d0 d3 d4 d7 d10 (by rw [hempty]; intro x hx; cases hx) (by show 2 + 3 < _; omega) (by show 0 + (13 * (2 + 1) + 43) ≤ _; omega) (by omega) (by omega) hlocks hxx (fun z hz => hS.2.2 z hz) (by omega) (by omega)
theorem xpass {q : Nat × Nat × Nat × Nat} (hmi : mi < 262) (hq : q ∈ xhh mi) (hE : E < 3) (hts : ∀ w, xG w → w.before args s = true) (hNc : ∀ e e2, e < 3 → e2 < 3 → e ≠ e2 → va_Nc (xEn e) (xEn e2) s)
    (hp : (decide (q.1 ≤ pc) && decide (pc < q.2.1) && decide (xcat (xown mi) q.2.2.2 = some E)) = false) : covers ⟨q.1, q.2.1, q.2.2.1, q.2.2.2⟩ pc = false ∨ (q.2.2.2 ≠ 0 ∧ ∃ nm : String, (Cond.classLink (xRn (xown mi)) q.2.2.2 nm).before args s = true ∧ va_Nc (xEn E) nm s) := by
  by_cases hcv : (decide (q.1 ≤ pc) && decide (pc < q.2.1)) = true
  · right
    obtain ⟨h1, h2⟩ := xhh_all mi hmi q hq
    obtain ⟨e2, he2⟩ := Option.isSome_iff_exists.mp h1
    have hne : E ≠ e2 := by
      rintro rfl
      rw [hcv, he2] at hp
      simp at hp
    have hk := xcat_ok he2
    exact ⟨h2, xEn e2, hts _ hk.2, hNc E e2 hE hk.1 hne⟩
  · left
    exact Bool.eq_false_iff.mpr hcv
end XTH
/-- where an exception is caught -/
theorem xhan_some {mi pc E : Nat} {w : Nat × Nat} (h : xhan mi pc E = some w) : ∃ (q : Nat × Nat × Nat × Nat) (pre suf : List (Nat × Nat × Nat × Nat)), xhh mi = pre ++ q :: suf ∧ (∀ z ∈ pre, (decide (z.1 ≤ pc) && decide (pc < z.2.1) && decide (xcat (xown mi) z.2.2.2 = some E)) = false) ∧ (decide (q.1 ≤ pc) && decide (pc < q.2.1)) = true ∧ xcat (xown mi) q.2.2.2 = some E ∧
    ((∃ k : Fin 4, xfetch mi q.2.2.1 = some (.astore_n k) ∧ w = (q.2.2.1 + 1, (k : Nat))) ∨ (∃ k : Nat, xfetch mi q.2.2.1 = some (.astore k) ∧ w = (q.2.2.1 + 2, k))) := by
  unfold xhan at h
  cases hf : (xhh mi).find? (fun q => decide (q.1 ≤ pc) && decide (pc < q.2.1) && decide (xcat (xown mi) q.2.2.2 = some E)) with
  | none => rw [hf] at h; cases h
  | some q =>
    rw [hf] at h
    obtain ⟨h1, pre, suf, h2, h3⟩ := List.find?_eq_some_iff_append.mp hf
    simp only [Bool.and_eq_true] at h1
    refine ⟨q, pre, suf, h2, fun z hz => by have h4 := h3 z hz; simp only [Bool.not_eq_eq_eq_not, Bool.not_true] at h4; exact h4, by simp only [Bool.and_eq_true]; exact h1.1, of_decide_eq_true h1.2, ?_⟩
    simp only at h
    split at h
    · rename_i k hk
      cases h
      exact Or.inl ⟨k, hk, rfl⟩
    · rename_i k hk
      cases h
      exact Or.inr ⟨k, hk, rfl⟩
    · cases h
theorem xhan_none {mi pc E : Nat} (hmi : mi < 262) (h : xhan mi pc E = none) : ∀ z ∈ xhh mi, (decide (z.1 ≤ pc) && decide (pc < z.2.1) && decide (xcat (xown mi) z.2.2.2 = some E)) = false := by
  unfold xhan at h
  cases hf : (xhh mi).find? (fun q => decide (q.1 ≤ pc) && decide (pc < q.2.1) && decide (xcat (xown mi) q.2.2.2 = some E)) with
  | none =>
    intro z hz
    have := List.find?_eq_none.mp hf z hz
    simpa using this
  | some q =>
    exfalso
    rw [hf] at h
    have hst := xhh_st mi hmi q (List.mem_of_find?_eq_some hf)
    simp only at h
    cases hx : xfetch mi q.2.2.1 with
    | none => rw [hx] at hst; cases hst
    | some op => rw [hx] at h hst; cases op <;> first | (cases hst; done) | (cases h; done)
end
section
/-! ===== a run of the small machine is a run of the machine ===== -/
set_option maxHeartbeats 16000000 in
set_option maxRecDepth 100000 in
theorem xsound {l : Launch} (hlf : l.stackTraces = false) {b B : Nat} {D : va_G} {ca : Nat → ClassId} {xs : List xV} : ∀ (n d mi pc : Nat) (lv : xL) (st : List xV) (ph : xH) (g : Nat) (r : xR), xr n d mi pc lv st ph g = some r → mi < 262 →
    ∀ {p : Program} {e : Env} {s : State} {m : MethodId} {args : Array Value} {below : List Frame} {meth : Method} {c : Code} {R : Room}, xCx b B D ca xs p s m args meth c mi → 8 + d ≤ R.frames ∧ 120 + 40 * d ≤ R.locals →
    ∀ (H : Heap) (locs : List Loc) (cells slots mc ms : Nat) (ls : Array Slot), xlvR b B ls (xmaxL mi) lv → xwfl lv → xwfs st → xRelH b B D ca xs ph g H → va_S (xA B) s.heap H locs → cells + xcc r.2.1 r.2.2 = mc + xcc ph g → slots + xcs r.2.1 r.2.2 = ms + xcs ph g → mc ≤ R.cells → ms ≤ R.slots →
      W p l e R s m args below meth c H locs cells slots (vx_MQ below (xQc b B D ca xs r) (xXc b B D ca xs r) args s mc ms (xA B)) (F0 m pc ls (st.map (xm b B))) := by
  intro n
  induction n with
  | zero => intro d mi pc lv st ph g r h; cases h
  | succ n ih =>
    intro d mi pc lv st ph g r h hmi p e s m args below meth c R CX hR H locs cells slots mc ms ls hlv hwl hws hrel hS hc1 hc2 hm1 hm2
    obtain ⟨hx, hb, hml, hown, hts, hr, hlocks, hin, htab, hfx⟩ := id CX
    have hK := hfx.1
    have hP := hrel.1
    have hDd := hrel.2.1
    have hA0 : ∀ q : Nat, s.heap.size ≤ q → xA B q := fun q hq => Nat.lt_of_lt_of_le hfx.2.2.2.2.2.2.2.2.2.2 hq
    have hlsz : ls.size = c.maxLocals := by rw [hml]; exact hlv.1
    cases hf : xfetch mi pc with
    | none => rw [xr_none n d mi pc lv st ph g hf] at h; cases h
    | some op =>
      obtain ⟨len, hdg0, hlen, hj⟩ := xdec hf
      have hdg : xsw op = false → decode (xby mi) pc = .ok (op, xlen op) := by
        intro h0
        rcases hlen with h1 | h1
        · rw [← h1]; exact hdg0
        · rw [h0] at h1; cases h1
      have nx : ∀ (pc' : Nat) (lv' : xL) (st' : List xV) (ph' : xH) (H' : Heap) (locs' : List Loc) (ls' : Array Slot), xr n d mi pc' lv' st' ph' g = some r → xlvR b B ls' (xmaxL mi) lv' → xwfl lv' → xwfs st' → xRelH b B D ca xs ph' g H' → va_S (xA B) s.heap H' locs' → xcc ph' g = xcc ph g → xcs ph' g = xcs ph g →
          W p l e R s m args below meth c H' locs' cells slots (vx_MQ below (xQc b B D ca xs r) (xXc b B D ca xs r) args s mc ms (xA B)) (F0 m pc' ls' (st'.map (xm b B))) :=
        fun pc' lv' st' ph' H' locs' ls' h1 h2 h3 h4 h5 h6 h7 h8 => ih d mi pc' lv' st' ph' g r h1 hmi CX hR H' locs' cells slots mc ms ls' h2 h3 h4 h5 h6 (by rw [h7]; exact hc1) (by rw [h8]; exact hc2) hm1 hm2
      have nk : ∀ (pc' : Nat) (lv' : xL) (st' : List xV) (ls' : Array Slot), xr n d mi pc' lv' st' ph g = some r → xlvR b B ls' (xmaxL mi) lv' → xwfl lv' → xwfs st' →
          W p l e R s m args below meth c H locs cells slots (vx_MQ below (xQc b B D ca xs r) (xXc b B D ca xs r) args s mc ms (xA B)) (F0 m pc' ls' (st'.map (xm b B))) :=
        fun pc' lv' st' ls' h1 h2 h3 h4 => nx pc' lv' st' ph H locs ls' h1 h2 h3 h4 hrel hS rfl rfl
      have aft : ∀ (mi' : Nat) (as rest : List xV) (a9 : Array Value), mi' < 262 → mi' ≠ 261 → xasz as ≤ xmaxL mi' → xwfs as → xwfs rest → xcont xr n d mi pc lv ph g mi' as rest = some r →
          (∀ (d' : Nat) (r1 : xR), d = d' + 1 → xr n d' mi' 0 (xent as) [] ph g = some r1 → xCon l b B D ca xs d' mi' as ph g r1 → (cells + xmc r1 ph g ≤ R.cells ∧ slots + xms r1 ph g ≤ R.slots) → vx_Run p l e R s m args below meth c H locs cells slots (xmc r1 ph g) (xms r1 ph g) (F0 m pc ls (st.map (xm b B))) (rest.map (xm b B)) (xQc b B D ca xs r1 a9) (xXc b B D ca xs r1) (xA B)) →
          W p l e R s m args below meth c H locs cells slots (vx_MQ below (xQc b B D ca xs r) (xXc b B D ca xs r) args s mc ms (xA B)) (F0 m pc ls (st.map (xm b B))) := by
        intro mi' as rest a9 hlt hne hsz hwa hwr hc hrun
        cases d with
        | zero => cases hc
        | succ d' =>
          simp only [xcont] at hc
          cases hq : xr n d' mi' 0 (xent as) [] ph g with
          | none => rw [hq] at hc; cases hc
          | some r1 =>
            rw [hq] at hc
            have hg1 := xr_grow2 hq
            have hcon : xCon l b B D ca xs d' mi' as ph g r1 := xCon_of (xMall hlt hne) hsz (fun p2 e2 s2 m2 args2 below2 meth2 c2 CX2 hrel2 ls2 hlv2 => ih d' mi' 0 (xent as) [] ph g r1 hq hlt CX2 ⟨Nat.le_refl _, Nat.le_refl _⟩ s2.heap [] 0 0 (xmc r1 ph g) (xms r1 ph g) ls2 hlv2 (xent_wf hwa) (fun v hv => by cases hv) hrel2 va_S.rf (by unfold xmc; omega) (by unfold xms; omega) (Nat.le_refl _) (Nat.le_refl _))
            obtain ⟨o, ph1, g1⟩ := r1
            have hg2 : xcc ph1 g1 ≤ xcc r.2.1 r.2.2 ∧ xcs ph1 g1 ≤ xcs r.2.1 r.2.2 := by
              cases o with
              | inl v => exact xr_grow2 hc
              | inr E =>
                simp only at hc
                cases hh : xhan mi pc E with
                | none => rw [hh] at hc; cases hc; exact ⟨Nat.le_refl _, Nat.le_refl _⟩
                | some w => rw [hh] at hc; exact xr_grow2 hc
            simp only at hg1
            have hmm : xmc ((o, ph1, g1) : xR) ph g = xcc ph1 g1 - xcc ph g ∧ xms ((o, ph1, g1) : xR) ph g = xcs ph1 g1 - xcs ph g := ⟨rfl, rfl⟩
            refine xAfter (hrun d' _ rfl hq hcon ⟨by omega, by omega⟩) hS (fun v ph2 g2 H1 locs1 e1 hwv hrel1 hS1 => ?_) (fun E ph2 g2 H1 locs1 ce q9 e1 hE hrel1 hS1 hce hcv hcl => ?_)
            · cases e1
              simp only at hc
              have e9 : (v.map (xm b B)).toList ++ rest.map (xm b B) = (v.toList ++ rest).map (xm b B) := by cases v <;> rfl
              rw [e9]
              refine ih (d' + 1) mi (pc + 3) lv (v.toList ++ rest) ph1 g1 r hc hmi CX hR H1 locs1 _ _ mc ms ls hlv hwl (fun w hw => ?_) hrel1 hS1 (by omega) (by omega) hm1 hm2
              rcases List.mem_append.mp hw with hw | hw
              · exact hwv w (Option.mem_toList.mp hw)
              · exact hwr w hw
            · cases e1
              simp only at hc
              have hNc := hfx.2.2.2.2.2.1
              cases hh : xhan mi pc E with
              | none =>
                rw [hh] at hc
                cases hc
                have hpn := xhan_none hmi hh
                refine vx_outP hown hlocks (fun z hz => ?_) hce hcv hcl (fun t ht ha => ⟨E, ph1, g1, rfl, hE, rfl, by rw [ht]; exact hrel1, hS1.F ht⟩) (fun z hz => hS1.2.2 z hz) (by simp only at hc1; omega) (by simp only at hc2; omega)
                rw [htab] at hz
                obtain ⟨q, hq9, rfl⟩ := List.mem_map.mp hz
                exact xpass hmi hq9 hE hts hNc (hpn q hq9)
              | some w =>
                rw [hh] at hc
                obtain ⟨q, pre, suf, e1, e2, e3, e4, e5⟩ := xhan_some hh
                have hqm : q ∈ xhh mi := by rw [e1]; simp
                have hka := xcat_ok e4
                have hkl : ∀ k9 : Nat, ((∃ k : Fin 4, xfetch mi q.2.2.1 = some (.astore_n k) ∧ k9 = k) ∨ xfetch mi q.2.2.1 = some (.astore k9)) → k9 < xmaxL mi := fun k9 h9 => by
                  have hst := xhh_st mi hmi q hqm
                  rcases h9 with ⟨k, h9, rfl⟩ | h9 <;> (rw [h9] at hst; exact of_decide_eq_true hst)
                refine vx_catch hown (pre.map fun q => ⟨q.1, q.2.1, q.2.2.1, q.2.2.2⟩) ⟨q.1, q.2.1, q.2.2.1, q.2.2.2⟩ (suf.map fun q => ⟨q.1, q.2.1, q.2.2.1, q.2.2.2⟩) (by rw [htab, e1]; simp [tableOf]) (fun z hz => ?_) e3 (xhh_all mi hmi q hqm).2 (hts _ hka.2) (hfx.2.2.2.2.1 E hE).use hce hcv hcl ?_
                · obtain ⟨q2, hq2, rfl⟩ := List.mem_map.mp hz
                  exact xpass hmi (by rw [e1]; exact List.mem_append_left _ hq2) hE hts hNc (e2 q2 hq2)
                · rcases e5 with ⟨k, hk, rfl⟩ | ⟨k, hk, rfl⟩
                  · obtain ⟨len9, hd9, hl9, -⟩ := xdec hk
                    have hl9 : len9 = 1 := by rcases hl9 with h | h; exact h; cases h
                    subst hl9
                    exact lv_astore_n hx hb hd9 rfl (xlvR_has hlv) (hkl k (Or.inl ⟨k, hk, rfl⟩)) rfl (fun ls' h' => ih (d' + 1) mi (q.2.2.1 + 1) (xclr lv k) [] ph1 g1 r hc hmi CX hR H1 locs1 _ _ mc ms ls' (xlvR_clr hlv h') (xclr_wf hwl) (fun v hv => by cases hv) hrel1 hS1 (by omega) (by omega) hm1 hm2)
                  · obtain ⟨len9, hd9, hl9, -⟩ := xdec hk
                    have hl9 : len9 = 2 := by rcases hl9 with h | h; exact h; cases h
                    subst hl9
                    exact lv_astore hx hb hd9 (xlvR_has hlv) (hkl k (Or.inr hk)) rfl (fun ls' h' => ih (d' + 1) mi (q.2.2.1 + 2) (xclr lv k) [] ph1 g1 r hc hmi CX hR H1 locs1 _ _ mc ms ls' (xlvR_clr hlv h') (xclr_wf hwl) (fun v hv => by cases hv) hrel1 hS1 (by omega) (by omega) hm1 hm2)
      replace h : xop mi pc op lv st ph g (fun pc' lv' st' ph' => xr n d mi pc' lv' st' ph' g) (xcont xr n d mi pc lv ph g) (fun v => some (.inl v, ph, g)) (fun E => some (.inr E, ph, g + 1)) none = some r := by
        rw [xr, hf] at h
        exact h
      cases op with
      | iconst k =>
        simp only [xop] at h
        split at h
        · rename_i hk
          have h9 := nk _ _ _ _ h hlv hwl (xwfs_cons.mpr ⟨⟨by omega, by omega⟩, hws⟩)
          exact lv_iconst hx hb (hdg rfl) rfl h9
        · cases h
      | bipush k =>
        simp only [xop] at h
        split at h
        · rename_i hk
          have h9 := nk _ _ _ _ h hlv hwl (xwfs_cons.mpr ⟨⟨by omega, by omega⟩, hws⟩)
          exact lv_bipush hx hb (hdg rfl) (xi_b hk.1 hk.2) h9
        · cases h
      | sipush k =>
        simp only [xop] at h
        split at h
        · rename_i hk
          have h9 := nk _ _ _ _ h hlv hwl (xwfs_cons.mpr ⟨⟨by omega, by omega⟩, hws⟩)
          exact lv_sipush hx hb (hdg rfl) (xi_s hk.1 hk.2) h9
        · cases h
      | aconst_null =>
        simp only [xop] at h
        have h9 := nk _ _ _ _ h hlv hwl (xwfs_cons.mpr ⟨trivial, hws⟩)
        exact lv_null hx hb (hdg rfl) h9
      | lconst k =>
        simp only [xop] at h
        have h9 := nk _ _ _ _ h hlv hwl (xwfs_cons.mpr ⟨trivial, hws⟩)
        exact lv_lconst hx hb (hdg rfl) rfl h9
      | dconst k =>
        simp only [xop] at h
        split at h
        · rename_i hk
          subst hk
          have h9 := nk _ _ _ _ h hlv hwl (xwfs_cons.mpr ⟨trivial, hws⟩)
          exact lv_dconst0 hx hb (hdg rfl) h9
        · rename_i hk
          have hk1 : k = 1 := by
            match k, hk with
            | 0, hk => exact absurd rfl hk
            | 1, _ => rfl
          subst hk1
          have h9 := nk _ _ _ _ h hlv hwl (xwfs_cons.mpr ⟨trivial, hws⟩)
          exact lv_dconst1 hx hb (hdg rfl) h9
      | ldc i =>
        simp only [xop] at h
        split at h
        · rename_i x hc
          have h8 := xcst_ok hc
          have h9 := nk _ _ _ _ h hlv hwl (xwfs_cons.mpr ⟨h8.1, hws⟩)
          exact lv_ldc hx hb hown (hts _ h8.2) (hdg rfl) h9
        · cases h
      | ldc2_w i =>
        simp only [xop] at h
        split at h
        · rename_i x hc
          have h8 := xcst_ok hc
          have h9 := nk _ _ _ _ h hlv hwl (xwfs_cons.mpr ⟨trivial, hws⟩)
          cases x with
          | inl y => exact lv_ldc2 hx hb hown (hts _ h8) (hdg rfl) h9
          | inr y => exact lv_ldc2d hx hb hown (hts _ h8) (hdg rfl) h9
        · cases h
      | iload_n k =>
        simp only [xop] at h
        split at h
        · rename_i x hv
          have h9 := nk _ _ _ _ h hlv hwl (xwfs_cons.mpr ⟨hwl _ _ hv, hws⟩)
          exact lv_iload_n hx hb (hdg rfl) rfl (hlv.2.2 _ _ hv) h9
        · cases h
      | iload k =>
        simp only [xop] at h
        split at h
        · rename_i x hv
          have h9 := nk _ _ _ _ h hlv hwl (xwfs_cons.mpr ⟨hwl _ _ hv, hws⟩)
          exact lv_iload hx hb (hdg rfl) (hlv.2.2 _ _ hv) h9
        · cases h
      | lload_n k =>
        simp only [xop] at h
        split at h
        · rename_i x hv
          have h9 := nk _ _ _ _ h hlv hwl (xwfs_cons.mpr ⟨hwl _ _ hv, hws⟩)
          exact lv_lload_n hx hb (hdg rfl) rfl (hlv.2.2 _ _ hv) h9
        · cases h
      | lload k =>
        simp only [xop] at h
        split at h
        · rename_i x hv
          have h9 := nk _ _ _ _ h hlv hwl (xwfs_cons.mpr ⟨hwl _ _ hv, hws⟩)
          exact lv_lload hx hb (hdg rfl) (hlv.2.2 _ _ hv) h9
        · cases h
      | dload_n k =>
        simp only [xop] at h
        split at h
        · rename_i x hv
          have h9 := nk _ _ _ _ h hlv hwl (xwfs_cons.mpr ⟨hwl _ _ hv, hws⟩)
          exact lv_dload_n hx hb (hdg rfl) rfl (hlv.2.2 _ _ hv) h9
        · cases h
      | dload k =>
        simp only [xop] at h
        split at h
        · rename_i x hv
          have h9 := nk _ _ _ _ h hlv hwl (xwfs_cons.mpr ⟨hwl _ _ hv, hws⟩)
          exact lv_dload hx hb (hdg rfl) (hlv.2.2 _ _ hv) h9
        · cases h
      | aload_n k =>
        simp only [xop] at h
        split at h
        · rename_i x hv
          have h9 := nk _ _ _ _ h hlv hwl (xwfs_cons.mpr ⟨hwl _ _ hv, hws⟩)
          cases x with
          | none => exact lv_aload_nN hx hb (hdg rfl) rfl (hlv.2.2 _ _ hv) h9
          | some a => exact lv_aload_n hx hb (hdg rfl) rfl (hlv.2.2 _ _ hv) h9
        · cases h
      | aload k =>
        simp only [xop] at h
        split at h
        · rename_i x hv
          have h9 := nk _ _ _ _ h hlv hwl (xwfs_cons.mpr ⟨hwl _ _ hv, hws⟩)
          cases x with
          | none => exact lv_aloadN hx hb (hdg rfl) (hlv.2.2 _ _ hv) h9
          | some a => exact lv_aload hx hb (hdg rfl) (hlv.2.2 _ _ hv) h9
        · cases h
      | istore_n k =>
        simp only [xop] at h
        split at h
        · split at h
          · rename_i hk
            exact lv_istore_n hx hb (hdg rfl) rfl (xlvR_has hlv) hk rfl (fun ls' h' => nk _ _ _ _ h (xlvR_set hlv h') (xset_wf hwl (xwfs_cons.mp hws).1) (xwfs_cons.mp hws).2)
          · cases h
        · cases h
      | istore k =>
        simp only [xop] at h
        split at h
        · split at h
          · rename_i hk
            exact lv_istore hx hb (hdg rfl) (xlvR_has hlv) hk rfl (fun ls' h' => nk _ _ _ _ h (xlvR_set hlv h') (xset_wf hwl (xwfs_cons.mp hws).1) (xwfs_cons.mp hws).2)
          · cases h
        · cases h
      | lstore_n k =>
        simp only [xop] at h
        split at h
        · split at h
          · rename_i hk
            exact lv_lstore_n hx hb (hdg rfl) rfl (xlvR_has hlv) hk rfl (fun ls' h' => nk _ _ _ _ h (xlvR_set2 hlv h') (xset2_wf hwl (xwfs_cons.mp hws).1) (xwfs_cons.mp hws).2)
          · cases h
        · cases h
      | lstore k =>
        simp only [xop] at h
        split at h
        · split at h
          · rename_i hk
            exact lv_lstore hx hb (hdg rfl) (xlvR_has hlv) hk rfl (fun ls' h' => nk _ _ _ _ h (xlvR_set2 hlv h') (xset2_wf hwl (xwfs_cons.mp hws).1) (xwfs_cons.mp hws).2)
          · cases h
        · cases h
      | dstore_n k =>
        simp only [xop] at h
        split at h
        · split at h
          · rename_i hk
            exact lv_dstore_n hx hb (hdg rfl) rfl (xlvR_has hlv) hk rfl (fun ls' h' => nk _ _ _ _ h (xlvR_set2 hlv h') (xset2_wf hwl (xwfs_cons.mp hws).1) (xwfs_cons.mp hws).2)
          · cases h
        · cases h
      | dstore k =>
        simp only [xop] at h
        split at h
        · split at h
          · rename_i hk
            exact lv_dstore hx hb (hdg rfl) (xlvR_has hlv) hk rfl (fun ls' h' => nk _ _ _ _ h (xlvR_set2 hlv h') (xset2_wf hwl (xwfs_cons.mp hws).1) (xwfs_cons.mp hws).2)
          · cases h
        · cases h
      | astore_n k =>
        simp only [xop] at h
        split at h
        · rename_i x st'
          split at h
          · rename_i hk
            cases x with
            | none => exact lv_astore_nN hx hb (hdg rfl) rfl (xlvR_has hlv) hk rfl (fun ls' h' => nk _ _ _ _ h (xlvR_set hlv h') (xset_wf hwl (xwfs_cons.mp hws).1) (xwfs_cons.mp hws).2)
            | some a => exact lv_astore_n hx hb (hdg rfl) rfl (xlvR_has hlv) hk rfl (fun ls' h' => nk _ _ _ _ h (xlvR_set hlv h') (xset_wf hwl (xwfs_cons.mp hws).1) (xwfs_cons.mp hws).2)
          · cases h
        · cases h
      | astore k =>
        simp only [xop] at h
        split at h
        · rename_i x st'
          split at h
          · rename_i hk
            cases x with
            | none => exact lv_astoreN hx hb (hdg rfl) (xlvR_has hlv) hk rfl (fun ls' h' => nk _ _ _ _ h (xlvR_set hlv h') (xset_wf hwl (xwfs_cons.mp hws).1) (xwfs_cons.mp hws).2)
            | some a => exact lv_astore hx hb (hdg rfl) (xlvR_has hlv) hk rfl (fun ls' h' => nk _ _ _ _ h (xlvR_set hlv h') (xset_wf hwl (xwfs_cons.mp hws).1) (xwfs_cons.mp hws).2)
          · cases h
        · cases h
      | iinc k w =>
        simp only [xop] at h
        split at h
        · rename_i x hv
          split at h
          · rename_i hk
            obtain ⟨i9, h9⟩ := List.getElem?_of_mem (xls_mem (b := b) (B := B) (q := (k, Value.int (Int32.ofInt x))).mpr ⟨.inl x, hk.2, hv, rfl⟩)
            exact lv_iinc (v := Int32.ofInt (x + w)) hx hb (hdg rfl) (xlvR_has hlv) h9 (xi_add x w) hk.2 rfl (fun ls' h' => nk _ _ _ _ h (xlvR_set (v := .inl (x + w)) hlv h') (xset_wf hwl hk.1) hws)
          · cases h
        · cases h
      | iadd =>
        simp only [xop] at h
        split at h
        · rename_i y x st'
          split at h
          · rename_i hk
            have hw1 := xwfs_cons.mp hws
            have h9 := nk _ _ _ _ h hlv hwl (xwfs_cons.mpr ⟨hk, (xwfs_cons.mp hw1.2).2⟩)
            exact lv_iadd hx hb (hdg rfl) (by rw [xi_add]; exact h9)
          · cases h
        · cases h
      | isub =>
        simp only [xop] at h
        split at h
        · rename_i y x st'
          split at h
          · rename_i hk
            have hw1 := xwfs_cons.mp hws
            have h9 := nk _ _ _ _ h hlv hwl (xwfs_cons.mpr ⟨hk, (xwfs_cons.mp hw1.2).2⟩)
            exact lv_isub hx hb (hdg rfl) (by rw [xi_sub]; exact h9)
          · cases h
        · cases h
      | imul =>
        simp only [xop] at h
        split at h
        · rename_i y x st'
          split at h
          · rename_i hk
            have hw1 := xwfs_cons.mp hws
            have h9 := nk _ _ _ _ h hlv hwl (xwfs_cons.mpr ⟨hk, (xwfs_cons.mp hw1.2).2⟩)
            exact lv_imul hx hb (hdg rfl) (by rw [xi_mul]; exact h9)
          · cases h
        · cases h
      | idiv =>
        simp only [xop] at h
        split at h
        · rename_i y x st'
          split at h
          · rename_i hk
            have hw1 := xwfs_cons.mp hws
            have hw2 := xwfs_cons.mp hw1.2
            have e1 : xin x := hw2.1
            have e2 : xin y := hw1.1
            have e3 : xin (x / y) := by
              have := Int.ediv_le_self y hk.1
              have := Int.ediv_nonneg hk.1 (Int.le_of_lt hk.2)
              have := e1.2
              exact ⟨by omega, by omega⟩
            have h9 := nk _ _ _ _ h hlv hwl (xwfs_cons.mpr ⟨e3, hw2.2⟩)
            exact lv_idiv hx hb (hdg rfl) (xi_ne0 hk.2 e2) (by rw [xi_div hk.1 hk.2 e1 e2]; exact h9)
          · cases h
        · cases h
      | irem =>
        simp only [xop] at h
        split at h
        · rename_i y x st'
          split at h
          · rename_i hk
            have hw1 := xwfs_cons.mp hws
            have hw2 := xwfs_cons.mp hw1.2
            have e1 : xin x := hw2.1
            have e2 : xin y := hw1.1
            have e3 : xin (x % y) := by
              have := Int.emod_nonneg x (Int.ne_of_gt hk.2)
              have := Int.emod_lt_of_pos x hk.2
              have := e2.2
              exact ⟨by omega, by omega⟩
            have h9 := nk _ _ _ _ h hlv hwl (xwfs_cons.mpr ⟨e3, hw2.2⟩)
            exact lv_irem hx hb (hdg rfl) (xi_ne0 hk.2 e2) (by rw [xi_rem hk.1 hk.2 e1 e2]; exact h9)
          · cases h
        · cases h
      | iand =>
        simp only [xop] at h
        split at h
        · rename_i y x st'
          have hw2 := xwfs_cons.mp (xwfs_cons.mp hws).2
          have h9 := nk _ _ _ _ h hlv hwl (xwfs_cons.mpr ⟨xin_of _, hw2.2⟩)
          simp only [List.map_cons, xm, xi_of] at h9
          exact lv_iand hx hb (hdg rfl) h9
        · cases h
      | ior =>
        simp only [xop] at h
        split at h
        · rename_i y x st'
          have hw2 := xwfs_cons.mp (xwfs_cons.mp hws).2
          have h9 := nk _ _ _ _ h hlv hwl (xwfs_cons.mpr ⟨xin_of _, hw2.2⟩)
          simp only [List.map_cons, xm, xi_of] at h9
          exact lv_ior hx hb (hdg rfl) h9
        · cases h
      | ishl =>
        simp only [xop] at h
        split at h
        · rename_i y x st'
          have hw2 := xwfs_cons.mp (xwfs_cons.mp hws).2
          have h9 := nk _ _ _ _ h hlv hwl (xwfs_cons.mpr ⟨xin_of _, hw2.2⟩)
          simp only [List.map_cons, xm, xi_of] at h9
          exact lv_ishl hx hb (hdg rfl) h9
        · cases h
      | i2c =>
        simp only [xop] at h
        split at h
        · rename_i x st'
          split at h
          · rename_i hk
            have h9 := nk _ _ _ _ h hlv hwl (xwfs_cons.mpr ⟨(xwfs_cons.mp hws).1, (xwfs_cons.mp hws).2⟩)
            exact lv_i2c hx hb (hdg rfl) (xi_c hk.1 hk.2) h9
          · cases h
        · cases h
      | i2l =>
        simp only [xop] at h
        split at h
        · rename_i x st'
          have h9 := nk _ _ _ _ h hlv hwl (xwfs_cons.mpr ⟨trivial, (xwfs_cons.mp hws).2⟩)
          exact lv_i2l hx hb (hdg rfl) (xi_l (xwfs_cons.mp hws).1) h9
        · cases h
      | i2d =>
        simp only [xop] at h
        split at h
        · rename_i x st'
          have h9 := nk _ _ _ _ h hlv hwl (xwfs_cons.mpr ⟨trivial, (xwfs_cons.mp hws).2⟩)
          exact lv_i2d hx hb (hdg rfl) h9
        · cases h
      | d2l =>
        simp only [xop] at h
        split at h
        · rename_i x st'
          have h9 := nk _ _ _ _ h hlv hwl (xwfs_cons.mpr ⟨trivial, (xwfs_cons.mp hws).2⟩)
          exact lv_d2l hx hb (hdg rfl) h9
        · cases h
      | ladd =>
        simp only [xop] at h
        split at h
        · rename_i y x st'
          have h9 := nk _ _ _ _ h hlv hwl (xwfs_cons.mpr ⟨trivial, (xwfs_cons.mp (xwfs_cons.mp hws).2).2⟩)
          exact lv_ladd hx hb (hdg rfl) h9
        · cases h
      | lsub =>
        simp only [xop] at h
        split at h
        · rename_i y x st'
          have h9 := nk _ _ _ _ h hlv hwl (xwfs_cons.mpr ⟨trivial, (xwfs_cons.mp (xwfs_cons.mp hws).2).2⟩)
          exact lv_lsub hx hb (hdg rfl) h9
        · cases h
      | lmul =>
        simp only [xop] at h
        split at h
        · rename_i y x st'
          have h9 := nk _ _ _ _ h hlv hwl (xwfs_cons.mpr ⟨trivial, (xwfs_cons.mp (xwfs_cons.mp hws).2).2⟩)
          exact lv_lmul hx hb (hdg rfl) h9
        · cases h
      | lshl =>
        simp only [xop] at h
        split at h
        · rename_i y x st'
          have h9 := nk _ _ _ _ h hlv hwl (xwfs_cons.mpr ⟨trivial, (xwfs_cons.mp (xwfs_cons.mp hws).2).2⟩)
          exact lv_lshl hx hb (hdg rfl) rfl h9
        · cases h
      | lcmp =>
        simp only [xop] at h
        split at h
        · rename_i y x st'
          have h9 := nk _ _ _ _ h hlv hwl (xwfs_cons.mpr ⟨xin_of _, (xwfs_cons.mp (xwfs_cons.mp hws).2).2⟩)
          simp only [List.map_cons, xm, xi_of] at h9
          exact W.lcmp hx hb (hdg rfl) h9
        · cases h
      | dcmp w =>
        simp only [xop] at h
        split at h
        · rename_i y x st'
          have h9 := nk _ _ _ _ h hlv hwl (xwfs_cons.mpr ⟨xin_of _, (xwfs_cons.mp (xwfs_cons.mp hws).2).2⟩)
          simp only [List.map_cons, xm, xi_of] at h9
          exact lv_dcmp hx hb (hdg rfl) h9
        · cases h
      | dsub =>
        simp only [xop] at h
        split at h
        · rename_i y x st'
          split at h
          · rename_i hk
            have h9 := nk _ _ _ _ h hlv hwl (xwfs_cons.mpr ⟨trivial, (xwfs_cons.mp (xwfs_cons.mp hws).2).2⟩)
            exact lv_dsub hx hb (hdg rfl) hk h9
          · cases h
        · cases h
      | dmul =>
        simp only [xop] at h
        split at h
        · rename_i y x st'
          split at h
          · rename_i hk
            have h9 := nk _ _ _ _ h hlv hwl (xwfs_cons.mpr ⟨trivial, (xwfs_cons.mp (xwfs_cons.mp hws).2).2⟩)
            exact lv_dmul hx hb (hdg rfl) hk h9
          · cases h
        · cases h
      | ddiv =>
        simp only [xop] at h
        split at h
        · rename_i y x st'
          split at h
          · rename_i hk
            have h9 := nk _ _ _ _ h hlv hwl (xwfs_cons.mpr ⟨trivial, (xwfs_cons.mp (xwfs_cons.mp hws).2).2⟩)
            exact lv_ddiv hx hb (hdg rfl) hk h9
          · cases h
        · cases h
      | dup =>
        simp only [xop] at h
        split at h
        · have hw1 := xwfs_cons.mp hws
          have h9 := nk _ _ _ _ h hlv hwl (xwfs_cons.mpr ⟨hw1.1, hws⟩)
          exact lv_dup hx hb (hdg rfl) rfl h9
        · rename_i x st'
          have hw1 := xwfs_cons.mp hws
          have h9 := nk _ _ _ _ h hlv hwl (xwfs_cons.mpr ⟨hw1.1, hws⟩)
          exact lv_dup hx hb (hdg rfl) (by rw [xcat_eq]; rfl) h9
        · cases h
      | dup2 =>
        simp only [xop] at h
        split at h
        · have hw1 := xwfs_cons.mp hws
          have h9 := nk _ _ _ _ h hlv hwl (xwfs_cons.mpr ⟨hw1.1, xwfs_cons.mpr ⟨(xwfs_cons.mp hw1.2).1, hws⟩⟩)
          exact lv_dup2_11 hx hb (hdg rfl) rfl (by rw [xcat_eq]; rfl) h9
        · cases h
      | pop =>
        simp only [xop] at h
        split at h
        · have h9 := nk _ _ _ _ h hlv hwl (xwfs_cons.mp hws).2
          exact lv_pop hx hb (hdg rfl) rfl h9
        · have h9 := nk _ _ _ _ h hlv hwl (xwfs_cons.mp hws).2
          exact lv_pop hx hb (hdg rfl) (by rw [xcat_eq]; rfl) h9
        · cases h
      | ifCond w off =>
        simp only [xop] at h
        split at h
        · rename_i x st'
          have hw1 := xwfs_cons.mp hws
          have e0 : xin x := hw1.1
          have ht := xpc_ok (of_decide_eq_true hj)
          cases w with
          | eq =>
            simp only [xcmp] at h
            refine lv_if_eq hx hb (hdg rfl) ht (fun hq => ?_) (fun hq => ?_)
            · rw [if_pos ((xz_eq e0).mp hq)] at h; exact nk _ _ _ _ h hlv hwl hw1.2
            · rw [if_neg (fun q => hq ((xz_eq e0).mpr q))] at h; exact nk _ _ _ _ h hlv hwl hw1.2
          | ne =>
            simp only [xcmp] at h
            refine lv_if_ne hx hb (hdg rfl) ht (fun hq => ?_) (fun hq => ?_)
            · rw [if_neg (fun q => hq ((xz_eq e0).mpr q))] at h; exact nk _ _ _ _ h hlv hwl hw1.2
            · rw [if_pos ((xz_eq e0).mp hq)] at h; exact nk _ _ _ _ h hlv hwl hw1.2
          | lt =>
            simp only [xcmp] at h
            refine lv_if_lt hx hb (hdg rfl) ht (fun hq => ?_) (fun hq => ?_)
            · rw [if_pos ((xz_lt e0).mp hq)] at h; exact nk _ _ _ _ h hlv hwl hw1.2
            · rw [if_neg (fun q => hq ((xz_lt e0).mpr q))] at h; exact nk _ _ _ _ h hlv hwl hw1.2
          | ge =>
            simp only [xcmp] at h
            refine lv_if_ge hx hb (hdg rfl) ht (fun hq => ?_) (fun hq => ?_)
            · rw [if_neg (fun q => by have := (xz_ge e0).mp hq; omega)] at h; exact nk _ _ _ _ h hlv hwl hw1.2
            · rw [if_pos (Int.not_le.mp (fun q => hq ((xz_ge e0).mpr q)))] at h; exact nk _ _ _ _ h hlv hwl hw1.2
          | gt =>
            simp only [xcmp] at h
            refine lv_if_gt hx hb (hdg rfl) ht (fun hq => ?_) (fun hq => ?_)
            · rw [if_pos ((xz_gt e0).mp hq)] at h; exact nk _ _ _ _ h hlv hwl hw1.2
            · rw [if_neg (fun q => hq ((xz_gt e0).mpr q))] at h; exact nk _ _ _ _ h hlv hwl hw1.2
          | le =>
            simp only [xcmp] at h
            refine lv_if_le hx hb (hdg rfl) ht (fun hq => ?_) (fun hq => ?_)
            · rw [if_neg (fun q => by have := (xz_le e0).mp hq; omega)] at h; exact nk _ _ _ _ h hlv hwl hw1.2
            · rw [if_pos (Int.not_le.mp (fun q => hq ((xz_le e0).mpr q)))] at h; exact nk _ _ _ _ h hlv hwl hw1.2
        · cases h
      | if_icmp w off =>
        simp only [xop] at h
        split at h
        · rename_i y x st'
          have hw1 := xwfs_cons.mp hws
          have hw2 := xwfs_cons.mp hw1.2
          have e1 : xin x := hw2.1
          have e2 : xin y := hw1.1
          have ht := xpc_ok (of_decide_eq_true hj)
          cases w with
          | eq =>
            simp only [xcmp] at h
            refine lv_icmp_eq hx hb (hdg rfl) ht (fun hq => ?_) (fun hq => ?_)
            · rw [if_pos ((xi_eq e1 e2).mp hq)] at h; exact nk _ _ _ _ h hlv hwl hw2.2
            · rw [if_neg (fun q => hq ((xi_eq e1 e2).mpr q))] at h; exact nk _ _ _ _ h hlv hwl hw2.2
          | ne =>
            simp only [xcmp] at h
            refine lv_icmp_ne hx hb (hdg rfl) ht (fun hq => ?_) (fun hq => ?_)
            · rw [if_neg (fun q => hq ((xi_eq e1 e2).mpr q))] at h; exact nk _ _ _ _ h hlv hwl hw2.2
            · rw [if_pos ((xi_eq e1 e2).mp hq)] at h; exact nk _ _ _ _ h hlv hwl hw2.2
          | lt =>
            simp only [xcmp] at h
            refine lv_icmp_lt hx hb (hdg rfl) ht (fun hq => ?_) (fun hq => ?_)
            · rw [if_pos ((xi_lt e1 e2).mp hq)] at h; exact nk _ _ _ _ h hlv hwl hw2.2
            · rw [if_neg (fun q => hq ((xi_lt e1 e2).mpr q))] at h; exact nk _ _ _ _ h hlv hwl hw2.2
          | ge =>
            simp only [xcmp] at h
            refine lv_icmp_ge hx hb (hdg rfl) ht (fun hq => ?_) (fun hq => ?_)
            · rw [if_neg (fun q => by have := (xi_le e2 e1).mp hq; omega)] at h; exact nk _ _ _ _ h hlv hwl hw2.2
            · rw [if_pos (Int.not_le.mp (fun q => hq ((xi_le e2 e1).mpr q)))] at h; exact nk _ _ _ _ h hlv hwl hw2.2
          | gt =>
            simp only [xcmp] at h
            refine lv_icmp_gt hx hb (hdg rfl) ht (fun hq => ?_) (fun hq => ?_)
            · rw [if_pos ((xi_lt e2 e1).mp hq)] at h; exact nk _ _ _ _ h hlv hwl hw2.2
            · rw [if_neg (fun q => hq ((xi_lt e2 e1).mpr q))] at h; exact nk _ _ _ _ h hlv hwl hw2.2
          | le =>
            simp only [xcmp] at h
            refine lv_icmp_le hx hb (hdg rfl) ht (fun hq => ?_) (fun hq => ?_)
            · rw [if_neg (fun q => by have := (xi_le e1 e2).mp hq; omega)] at h; exact nk _ _ _ _ h hlv hwl hw2.2
            · rw [if_pos (Int.not_le.mp (fun q => hq ((xi_le e1 e2).mpr q)))] at h; exact nk _ _ _ _ h hlv hwl hw2.2
        · cases h
      | goto off =>
        simp only [xop] at h
        exact lv_goto hx hb (hdg rfl) (xpc_ok (of_decide_eq_true hj)) (nk _ _ _ _ h hlv hwl hws)
      | ifnull off =>
        simp only [xop] at h
        split at h
        · exact lv_ifnullN hx hb (hdg rfl) (xpc_ok (of_decide_eq_true hj)) (nk _ _ _ _ h hlv hwl (xwfs_cons.mp hws).2)
        · exact lv_ifnull hx hb (hdg rfl) (nk _ _ _ _ h hlv hwl (xwfs_cons.mp hws).2)
        · cases h
      | ifnonnull off =>
        simp only [xop] at h
        split at h
        · exact lv_ifnonnullN hx hb (hdg rfl) (nk _ _ _ _ h hlv hwl (xwfs_cons.mp hws).2)
        · exact lv_ifnonnull hx hb (hdg rfl) (xpc_ok (of_decide_eq_true hj)) (nk _ _ _ _ h hlv hwl (xwfs_cons.mp hws).2)
        · cases h
      | tableswitch dflt lo hi offs =>
        simp only [xop] at h
        split at h
        · rename_i x st'
          have hw1 := xwfs_cons.mp hws
          have e0 : xin x := hw1.1
          simp only [xjmp, Bool.and_eq_true, decide_eq_true_eq, List.all_eq_true] at hj
          split at h
          · rename_i hk
            exact lv_tableOut hx hb hdg0 (by rw [xi_toInt e0]; exact hk) (xpc_ok hj.1) (nk _ _ _ _ h hlv hwl hw1.2)
          · rename_i hk
            split at h
            · rename_i off ho
              have hm : off ∈ offs.toList := by
                rw [Array.mem_toList_iff]
                exact Array.mem_of_getElem? ho
              exact lv_tableIn hx hb hdg0 (by rw [xi_toInt e0]; omega) (by rw [xi_toInt e0]; omega) (by rw [xi_toInt e0]; exact ho) (xpc_ok (hj.2 off hm)) (nk _ _ _ _ h hlv hwl hw1.2)
            · cases h
        · cases h
      | lookupswitch dflt ps =>
        simp only [xop] at h
        split at h
        · rename_i x st'
          have hw1 := xwfs_cons.mp hws
          have e0 : xin x := hw1.1
          simp only [xjmp, Bool.and_eq_true, decide_eq_true_eq, List.all_eq_true] at hj
          have hoff : ∀ l : List (Int × Int), (∀ q ∈ l, 0 ≤ (pc : Int) + q.2) → 0 ≤ (pc : Int) + Op.lookupswitch.offset l dflt x := by
            intro l
            induction l with
            | nil => intro _; exact hj.1.1
            | cons q t iht =>
              intro hq
              obtain ⟨a, o⟩ := q
              rw [Op.lookupswitch.offset_cons]
              split
              · exact hq (a, o) List.mem_cons_self
              · exact iht (fun q hq2 => hq q (List.mem_cons_of_mem _ hq2))
          exact lv_lookup hx hb hdg0 (List.all_eq_true.mpr (fun q hq => by have h2 := hj.2 q hq; obtain ⟨⟨a1, a2⟩, b1, b2⟩ := q; exact decide_eq_true h2)) (by rw [xi_toInt e0]) (xpc_ok (hoff _ hj.1.2)) (nk _ _ _ _ h hlv hwl hw1.2)
        · cases h
      | getfield i =>
        simp only [xop] at h
        split at h
        · rename_i a st'
          split at h
          · rename_i ci k kd fin hfl
            split at h
            · rename_i t vs hph
              split at h
              · rename_i ht
                subst ht
                split at h
                · rename_i v hv
                  have hF := xfld_ok hfl
                  obtain ⟨hF1, hF2, -, -, hF5⟩ := hF
                  replace hF1 : t < 11 := hF1
                  replace hF2 : k < (xCl t).2.2 := hF2
                  have hC := xCall hF1
                  have hat := (xRelH_at hrel hph (by omega)).2
                  rw [xce_obj b B ca (by omega)] at hat
                  have h9 := nk _ _ _ _ h hlv hwl (xwfs_cons.mpr ⟨xRelH_wf hrel hph hv, (xwfs_cons.mp hws).2⟩)
                  have hv2 : (vs.map (xm b B))[k]? = some (xm b B v) := by rw [List.getElem?_map, hv]; rfl
                  have hsm : ∀ x, s.fieldFound? ((xCl t).2.1 k).1 ((xCl t).2.1 k).2.1 ((xCl t).2.1 k).2.2.1 = some x → s.fieldFound? (xCl t).1 ((xCl t).2.1 k).2.1 ((xCl t).2.1 k).2.2.1 = some x := fun x h0 => by rw [hC.2.2.2.2.2.2.2.2.1 k hF2] at h0; exact h0
                  rcases hF5 with h5 | h5 | h5
                  · exact va_get (Ts := lw_tbl.filter goodWord) hx hb (fun w hw => hts w (List.mem_filter.mp hw)) (fun w hw => List.mem_filter.mpr (hC.2.2.1 w hw)) hown hK hP _ hat hC.1 k hF2 (hts _ h5) hsm hv2 (hdg rfl) h9
                  · exact va_getN (Ts := lw_tbl.filter goodWord) hx hb (fun w hw => hts w (List.mem_filter.mp hw)) (fun w hw => List.mem_filter.mpr (hC.2.2.1 w hw)) hown hK hP _ hat hC.1 k hF2 (va_Nw.use rfl (hfx.2.2.2.2.2.2.2.1.1 _ _ _ _ _ _ h5.1)) hsm hv2 (hdg rfl) h9
                  · exact va_getN (Ts := lw_tbl.filter goodWord) hx hb (fun w hw => hts w (List.mem_filter.mp hw)) (fun w hw => List.mem_filter.mpr (hC.2.2.1 w hw)) hown hK hP _ hat hC.1 k hF2 (va_Nw.use rfl (hfx.2.2.2.2.2.2.2.1.1 _ _ _ _ _ _ h5.1)) hsm hv2 (hdg rfl) h9
                · cases h
              · cases h
            · cases h
          · cases h
        · cases h
      | putfield i =>
        simp only [xop] at h
        split at h
        · rename_i v a st'
          split at h
          · rename_i ci k kd fin hfl
            split at h
            · rename_i t vs hph
              split at h
              · rename_i ht
                obtain ⟨rfl, hkl, hkd, hfi⟩ := ht
                have hF := xfld_ok hfl
                obtain ⟨hF1, hF2, hF3, hF4, hF5⟩ := hF
                replace hF1 : t < 11 := hF1
                replace hF2 : k < (xCl t).2.2 := hF2
                replace hF3 : xKd kd (xtyF t k) := hF3
                have hC := xCall hF1
                have hat := (xRelH_at hrel hph (by omega)).2
                rw [xce_obj b B ca (by omega)] at hat
                have hw1 := xwfs_cons.mp hws
                have hw2 := xwfs_cons.mp hw1.2
                have hd := hC.2.2.2.1 k hF2
                have hkt := xkd_ok (b := b) (B := B) hkd hF3
                have fin9 : ∀ (H1 : Heap) (locs1 : List Loc), va_P D vwCl ((xw b B ca ph).set (a - 1) (xad b B a, .inr (t, (vs.map (xm b B)).set k (xm b B v)))) H1 → va_D (xA B) ((xw b B ca ph).set (a - 1) (xad b B a, .inr (t, (vs.map (xm b B)).set k (xm b B v)))) → va_S (xA B) s.heap H1 locs1 → H1.size = H.size →
                    W p l e R s m args below meth c H1 locs1 cells slots (vx_MQ below (xQc b B D ca xs r) (xXc b B D ca xs r) args s mc ms (xA B)) (F0 m (pc + 3) ls (st'.map (xm b B))) := by
                  intro H1 locs1 q1 q2 q3 q4
                  refine nx _ _ _ _ H1 locs1 _ h hlv hwl hw2.2 (xRelH_set hrel hph (by omega) q4 (xwfs_set (xwfs_at hrel hph) hw1.1) (by rw [xce_obj b B ca (by omega), List.map_set]; exact q1) (by rw [xce_obj b B ca (by omega), List.map_set]; exact q2)) q3 (by unfold xcc; rw [List.length_set]) (by unfold xcs; rw [xsl_set hph (by simp)])
                have hl9 : k < (vs.map (xm b B)).length := by rw [List.length_map]; exact hkl
                rcases hF4 with ⟨f1, f2⟩ | ⟨f1, f2⟩
                · rcases hF5 with h5 | h5 | h5
                  · exact xputW hx hb (fun w hw => hts w hw) hown hK hP hDd hS hat hC k hF2 (Or.inl ⟨hts _ h5, Or.inl f2⟩) hd hkt hl9 (hdg rfl) fin9
                  · exact xputW hx hb (fun w hw => hts w hw) hown hK hP hDd hS hat hC k hF2 (Or.inr ⟨va_Nw.use rfl (hfx.2.2.2.2.2.2.2.1.1 _ _ _ _ _ _ h5.1), f2⟩) hd hkt hl9 (hdg rfl) fin9
                  · exact xputW hx hb (fun w hw => hts w hw) hown hK hP hDd hS hat hC k hF2 (Or.inr ⟨va_Nw.use rfl (hfx.2.2.2.2.2.2.2.1.1 _ _ _ _ _ _ h5.1), f2⟩) hd hkt hl9 (hdg rfl) fin9
                · simp only at f1
                  rcases hfi with hfi | ⟨hfi1, hfi2⟩
                  · omega
                  · have hin2 := hin (Nat.eq_of_beq_eq_true hfi1)
                    rcases hF5 with h5 | h5 | h5
                    · refine xputW hx hb (fun w hw => hts w hw) hown hK hP hDd hS hat hC k hF2 (Or.inl ⟨hts _ h5, Or.inr ⟨f2, hin2, ?_⟩⟩) hd hkt hl9 (hdg rfl) fin9
                      rw [hC.2.2.2.2.2.2.2.2.1 k hF2, hC.2.1, hfi2]
                    · have := h5.2; simp only at this; omega
                    · exact absurd hfi2 h5.2
              · cases h
            · cases h
          · cases h
        · cases h
      | caload =>
        simp only [xop] at h
        split at h
        · rename_i i a st'
          split at h
          · rename_i t vs hph
            split at h
            · rename_i hk
              obtain ⟨rfl, hk0⟩ := hk
              split at h
              · rename_i x hv
                have hw1 := xwfs_cons.mp hws
                have hw2 := xwfs_cons.mp hw1.2
                have e0 : xin i := hw1.1
                have hlt : i < vs.length := by
                  have := (List.getElem?_eq_some_iff.mp hv).1
                  omega
                have hat := (xRelH_at hrel hph (by omega)).2
                rw [xce_c] at hat
                have h9 := nk _ _ _ _ h hlv hwl (xwfs_cons.mpr ⟨xRelH_wf hrel hph hv, hw2.2⟩)
                exact va_cald hx hb hK hP _ 1 hat rfl (xvp_in hk0 hlt e0) (hdg rfl) (by show W p l e R s m args below meth c H locs cells slots _ (F0 m (pc + 1) ls (.int (xmI vs[(Int32.ofInt i).toNatClampNeg]?) :: _)); rw [xi_nat e0, hv]; exact h9)
              · cases h
            · cases h
          · cases h
        · cases h
      | laload =>
        simp only [xop] at h
        split at h
        · rename_i i a st'
          split at h
          · rename_i t vs hph
            split at h
            · rename_i hk
              obtain ⟨rfl, hk0⟩ := hk
              split at h
              · rename_i x hv
                have hw1 := xwfs_cons.mp hws
                have hw2 := xwfs_cons.mp hw1.2
                have e0 : xin i := hw1.1
                have hlt : i < vs.length := by
                  have := (List.getElem?_eq_some_iff.mp hv).1
                  omega
                have hat := (xRelH_at hrel hph (by omega)).2
                rw [xce_l] at hat
                have h9 := nk _ _ _ _ h hlv hwl (xwfs_cons.mpr ⟨xRelH_wf hrel hph hv, hw2.2⟩)
                exact va_lald hx hb hK hP _ 2 hat rfl (xvp_in hk0 hlt e0) (hdg rfl) (by show W p l e R s m args below meth c H locs cells slots _ (F0 m (pc + 1) ls (.long (xmL vs[(Int32.ofInt i).toNatClampNeg]?) :: _)); rw [xi_nat e0, hv]; exact h9)
              · cases h
            · cases h
          · cases h
        · cases h
      | aaload =>
        simp only [xop] at h
        split at h
        · rename_i i a st'
          split at h
          · rename_i t vs hph
            split at h
            · rename_i hk
              obtain ⟨rfl, hk0⟩ := hk
              split at h
              · rename_i x hv
                have hw1 := xwfs_cons.mp hws
                have hw2 := xwfs_cons.mp hw1.2
                have e0 : xin i := hw1.1
                have hlt : i < vs.length := by
                  have := (List.getElem?_eq_some_iff.mp hv).1
                  omega
                have hat := (xRelH_at hrel hph (by omega)).2
                rw [xce_q] at hat
                have h9 := nk _ _ _ _ h hlv hwl (xwfs_cons.mpr ⟨xRelH_wf hrel hph hv, hw2.2⟩)
                exact va_aldq hx hb hK hP _ 3 hat rfl (xvp_in hk0 hlt e0) (hdg rfl) (by show W p l e R s m args below meth c H locs cells slots _ (F0 m (pc + 1) ls (va_rf (xmR b B vs[(Int32.ofInt i).toNatClampNeg]?) :: _)); rw [xi_nat e0, hv]; cases x <;> exact h9)
              · cases h
            · cases h
          · cases h
        · cases h
      | iaload =>
        simp only [xop] at h
        split at h
        · rename_i i a st'
          split at h
          · rename_i t vs hph
            split at h
            · rename_i hk
              obtain ⟨hk1, hk0⟩ := hk
              split at h
              · rename_i x hv
                have hw1 := xwfs_cons.mp hws
                have hw2 := xwfs_cons.mp hw1.2
                have e0 : xin i := hw1.1
                have hlt : i < vs.length := by
                  have := (List.getElem?_eq_some_iff.mp hv).1
                  omega
                have h9 := nk _ _ _ _ h hlv hwl (xwfs_cons.mpr ⟨xRelH_wf hrel hph hv, hw2.2⟩)
                rcases hk1 with rfl | rfl
                · have hat := (xRelH_at hrel hph (by omega)).2
                  rw [xce_i] at hat
                  exact va_iald hx hb hK hP _ 0 hat rfl (xvp_in hk0 hlt e0) (hdg rfl) (by show W p l e R s m args below meth c H locs cells slots _ (F0 m (pc + 1) ls (.int (xmI vs[(Int32.ofInt i).toNatClampNeg]?) :: _)); rw [xi_nat e0, hv]; exact h9)
                · obtain ⟨ha0, hvs⟩ := xRelH_scr hrel hph
                  subst ha0
                  subst hvs
                  have hX := hfx.2.2.2.2.2.2.2.2.1
                  have hbB := hfx.2.2.2.2.2.2.2.2.2
                  exact va_sld hx hb hX (Nat.lt_of_le_of_lt hbB.1 hbB.2) (Nat.not_lt.mpr hbB.1) hS (xvp_in hk0 hlt e0) (hdg rfl) (by show W p l e R s m args below meth c H locs cells slots _ (F0 m (pc + 1) ls (.int (xmI vs[(Int32.ofInt i).toNatClampNeg]?) :: _)); rw [xi_nat e0, hv]; exact h9)
              · cases h
            · cases h
          · cases h
        · cases h
      | iastore =>
        simp only [xop] at h
        split at h
        · rename_i x i a st'
          split at h
          · rename_i t vs hph
            split at h
            · rename_i hk
              obtain ⟨rfl, hk0, hk1⟩ := hk
              have hw1 := xwfs_cons.mp hws
              have hw2 := xwfs_cons.mp hw1.2
              have hw3 := xwfs_cons.mp hw2.2
              have e0 : xin i := hw2.1
              have hat := (xRelH_at hrel hph (by omega)).2
              rw [xce_i] at hat
              refine xiastW hx hb hK hP hDd hS _ 0 hat rfl (xvp_in hk0 hk1 e0) (hdg rfl) (fun H1 locs1 q1 q2 q3 hz => ?_)
              rw [xi_nat e0, xupd_i vs (by omega)] at q1 q2
              exact nx _ _ _ _ H1 locs1 _ h hlv hwl hw3.2 (xRelH_set hrel hph (by omega) hz (xwfs_set (xwfs_at hrel hph) hw1.1) (by rw [xce_i, List.length_set]; exact q1) (by rw [xce_i, List.length_set]; exact q2)) q3 (by unfold xcc; rw [List.length_set]) (by unfold xcs; rw [xsl_set hph (by simp)])
            · cases h
          · cases h
        · cases h
      | lastore =>
        simp only [xop] at h
        split at h
        · rename_i x i a st'
          split at h
          · rename_i t vs hph
            split at h
            · rename_i hk
              obtain ⟨rfl, hk0, hk1⟩ := hk
              have hw1 := xwfs_cons.mp hws
              have hw2 := xwfs_cons.mp hw1.2
              have hw3 := xwfs_cons.mp hw2.2
              have e0 : xin i := hw2.1
              have hat := (xRelH_at hrel hph (by omega)).2
              rw [xce_l] at hat
              refine xlastW hx hb hK hP hDd hS _ 2 hat rfl (xvp_in hk0 hk1 e0) (hdg rfl) (fun H1 locs1 q1 q2 q3 hz => ?_)
              rw [xi_nat e0, xupd_l vs (by omega)] at q1 q2
              exact nx _ _ _ _ H1 locs1 _ h hlv hwl hw3.2 (xRelH_set hrel hph (by omega) hz (xwfs_set (xwfs_at hrel hph) hw1.1) (by rw [xce_l, List.length_set]; exact q1) (by rw [xce_l, List.length_set]; exact q2)) q3 (by unfold xcc; rw [List.length_set]) (by unfold xcs; rw [xsl_set hph (by simp)])
            · cases h
          · cases h
        · cases h
      | castore =>
        simp only [xop] at h
        split at h
        · rename_i x i a st'
          split at h
          · rename_i t vs hph
            split at h
            · rename_i hk
              obtain ⟨rfl, hk0, hk1, hk2, hk3⟩ := hk
              have hw1 := xwfs_cons.mp hws
              have hw2 := xwfs_cons.mp hw1.2
              have hw3 := xwfs_cons.mp hw2.2
              have e0 : xin i := hw2.1
              have hat := (xRelH_at hrel hph (by omega)).2
              rw [xce_c] at hat
              refine xcastW hx hb hK hP hDd hS _ 1 hat rfl (xvp_in hk0 hk1 e0) (hdg rfl) (fun H1 locs1 q1 q2 q3 hz => ?_)
              rw [xi_nat e0, xi_nar hk2 hk3, xupd_i vs (by omega)] at q1 q2
              exact nx _ _ _ _ H1 locs1 _ h hlv hwl hw3.2 (xRelH_set hrel hph (by omega) hz (xwfs_set (xwfs_at hrel hph) hw1.1) (by rw [xce_c, List.length_set]; exact q1) (by rw [xce_c, List.length_set]; exact q2)) q3 (by unfold xcc; rw [List.length_set]) (by unfold xcs; rw [xsl_set hph (by simp)])
            · cases h
          · cases h
        · cases h
      | aastore =>
        simp only [xop] at h
        split at h
        · rename_i v i a st'
          split at h
          · rename_i t vs hph
            split at h
            · rename_i tv vsv hpv
              split at h
              · rename_i hk
                obtain ⟨rfl, rfl, hk0, hk1⟩ := hk
                have hw1 := xwfs_cons.mp hws
                have hw2 := xwfs_cons.mp hw1.2
                have hw3 := xwfs_cons.mp hw2.2
                have e0 : xin i := hw2.1
                have hat := (xRelH_at hrel hph (by omega)).2
                have hav := (xRelH_at hrel hpv (by omega)).2
                rw [xce_q] at hat
                rw [xce_obj b B ca (by omega)] at hav
                refine xastqW hx hb hK hP hDd hS _ 3 _ 6 hat (r := xCl 6) rfl hav (xCall (by omega)).1 (xvp_in hk0 hk1 e0) (hdg rfl) (fun H1 locs1 q1 q2 q3 hz => ?_)
                rw [xi_nat e0, xupd_q b B vs (by omega)] at q1 q2
                exact nx _ _ _ _ H1 locs1 _ h hlv hwl hw3.2 (xRelH_set hrel hph (by omega) hz (xwfs_set (xwfs_at hrel hph) trivial) (by rw [xce_q, List.length_set]; exact q1) (by rw [xce_q, List.length_set]; exact q2)) q3 (by unfold xcc; rw [List.length_set]) (by unfold xcs; rw [xsl_set hph (by simp)])
              · cases h
            · cases h
          · cases h
        · cases h
      | arraylength =>
        simp only [xop] at h
        split at h
        · rename_i a st'
          split at h
          · rename_i t vs hph
            split at h
            · rename_i hk
              obtain ⟨hk0, hk1⟩ := hk
              have hw1 := xwfs_cons.mp hws
              have h9 := nk _ _ _ _ h hlv hwl (xwfs_cons.mpr ⟨⟨by omega, hk1⟩, hw1.2⟩)
              rcases xRelH_tag hrel hph with ⟨rfl, rfl, rfl⟩ | ⟨ha0, ht⟩
              · have hX := hfx.2.2.2.2.2.2.2.2.1
                have hbB := hfx.2.2.2.2.2.2.2.2.2
                exact va_slen hx hb hX (Nat.lt_of_le_of_lt hbB.1 hbB.2) (Nat.not_lt.mpr hbB.1) hS (hdg rfl) h9
              · have hat := (xRelH_at hrel hph (by omega)).2
                have h4 : t = 100 ∨ t = 101 ∨ t = 102 ∨ t = 103 := by omega
                rcases h4 with rfl | rfl | rfl | rfl
                · rw [xce_i] at hat
                  exact va_alen hx hb hK hP _ 0 hat rfl rfl (hdg rfl) h9
                · rw [xce_c] at hat
                  exact va_alen hx hb hK hP _ 1 hat rfl rfl (hdg rfl) h9
                · rw [xce_l] at hat
                  exact va_alen hx hb hK hP _ 2 hat rfl rfl (hdg rfl) h9
                · rw [xce_q] at hat
                  exact va_alen hx hb hK hP _ 3 hat rfl rfl (hdg rfl) h9
            · cases h
          · cases h
        · cases h
      | new i =>
        simp only [xop] at h
        split at h
        · rename_i E hth
          split at h
          · rename_i hst
            subst hst
            cases h
            exact xthrow hlf hx hb hown hts hfx hlocks htab hlsz (by omega) (by omega) hth hrel hS (by unfold xcc at hc1; simp only at hc1; omega) (by unfold xcs at hc2; simp only at hc2; omega) hm1 hm2
          · cases h
        · split at h
          · rename_i ci hcl
            split at h
            · rename_i hg
              subst hg
              have hk := xcls_ok hcl
              have hk1 : ci < 11 := hk.1
              have hC : xCok ci := xCall hk1
              have hg2 := xr_grow2 h
              have hcc : xcc (ph ++ [(ci, xdf ci)]) 0 = xcc ph 0 + 1 := by unfold xcc; simp
              have hcs : xcs (ph ++ [(ci, xdf ci)]) 0 = xcs ph 0 + (xCl ci).2.2 := by unfold xcs; rw [xsl_app]; show xsl ph + (xdf ci).length + _ = _; rw [hC.2.2.2.2.2.1]; omega
              have hH : H.size = B + ph.length := hrel.2.2.1 rfl
              have hfs : ∀ j, j < (xCl ci).2.2 → defaultValue (xtyF ci j) = vp_V ((xdf ci).map (xm b B)) j := fun j hj => by
                have h1 := hC.2.2.2.2.2.2.2.2.2 j hj
                cases hv : (xdf ci)[j]? with
                | none => rw [hv] at h1; cases h1
                | some v =>
                  have h2 := (xdf_ok (List.mem_of_getElem? hv)).2
                  rw [hv] at h1
                  simp only [Option.map_some, Option.some.injEq] at h1
                  rw [← h1, vp_V, List.getD_eq_getElem?_getD, List.getElem?_map, hv]
                  rcases v with x | x | x
                  · rfl
                  · cases x with
                    | none => rfl
                    | some z => exact absurd rfl (h2 z)
                  · cases x <;> rfl
              refine xnewW (t := ci) hx hb hts hown (hts _ hk.2) hC hK hP hDd hS hA0 hfs (by omega) (by omega) (hdg rfl) (fun H1 q1 q2 q3 hz => ?_)
              have e9 : Value.ref H.size = xm b B (.inr (.inl (some ph.length))) := by
                obtain ⟨-, -, -, -, ⟨r9, hr9, -⟩, -⟩ := hrel
                show Value.ref H.size = Value.ref (xad b B ph.length)
                unfold xad
                rw [if_neg (by rw [hr9]; simp), hH]
              rw [e9]
              exact ih d mi (pc + 3) lv _ _ 0 r h hmi CX hR H1 locs (cells + 1) (slots + (xCl ci).2.2) mc ms ls hlv hwl (xwfs_cons.mpr ⟨trivial, hws⟩) (xRelH_app hrel (by omega) hH hz (xdf_wf ci) (by rw [xce_obj b B ca (by omega)]; exact q1) (by rw [xce_obj b B ca (by omega)]; exact q2)) q3 (by omega) (by omega) hm1 hm2
            · cases h
          · cases h
      | newarray ty =>
        simp only [xop] at h
        split at h
        · rename_i n9 st'
          split at h
          · rename_i hk
            obtain ⟨rfl, hk0, hk1⟩ := hk
            have hw1 := xwfs_cons.mp hws
            have e0 : xin n9 := hw1.1
            have hH : H.size = B + ph.length := hrel.2.2.1 rfl
            have hn0 : ¬ Int32.ofInt n9 < 0 := fun q => by have := (xz_lt e0).mp q; omega
            have hn9 : n9.toNat ≤ 100000 := by omega
            have e9 : Value.ref H.size = xm b B (.inr (.inl (some ph.length))) := by
              obtain ⟨-, -, -, -, ⟨r9, hr9, -⟩, -⟩ := hrel
              show Value.ref H.size = Value.ref (xad b B ph.length)
              unfold xad
              rw [if_neg (by rw [hr9]; simp), hH]
            split at h
            · have hcc : xcc (ph ++ [(100, List.replicate n9.toNat (.inl 0))]) 0 = xcc ph 0 + 1 := by unfold xcc; simp
              have hcs : xcs (ph ++ [(100, List.replicate n9.toNat (.inl 0))]) 0 = xcs ph 0 + n9.toNat := by unfold xcs; rw [xsl_app]; simp
              have hg2 := xr_grow2 h
              refine xnewaW hx hb (atype := .int) (hts _ xarr_int) hK hP hDd hS hA0 (va_nm_int (hK.2 0 _ rfl).2) (N' := n9.toNat) (a0 := xca b B 100 (List.replicate n9.toNat (.inl 0))) (xrep_i b B) hn0 (xi_nat e0) (by show n9.toNat * 4 ≤ _; omega) (by omega) (by omega) (hdg rfl) (fun H1 q1 q2 q3 hz => ?_)
              rw [e9]
              exact ih d mi (pc + 2) lv _ _ 0 r h hmi CX hR H1 locs (cells + 1) (slots + n9.toNat) mc ms ls hlv hwl (xwfs_cons.mpr ⟨trivial, hw1.2⟩) (xRelH_app hrel (by omega) hH hz (xwfs_rep xin0) q1 q2) q3 (by omega) (by omega) hm1 hm2
            · have hcc : xcc (ph ++ [(101, List.replicate n9.toNat (.inl 0))]) 0 = xcc ph 0 + 1 := by unfold xcc; simp
              have hcs : xcs (ph ++ [(101, List.replicate n9.toNat (.inl 0))]) 0 = xcs ph 0 + n9.toNat := by unfold xcs; rw [xsl_app]; simp
              have hg2 := xr_grow2 h
              refine xnewaW hx hb (atype := .char) (hts _ xarr_char) hK hP hDd hS hA0 (va_nm_char (hK.2 1 _ rfl).2) (N' := n9.toNat) (a0 := xca b B 101 (List.replicate n9.toNat (.inl 0))) (xrep_c b B) hn0 (xi_nat e0) (by show n9.toNat * 2 ≤ _; omega) (by omega) (by omega) (hdg rfl) (fun H1 q1 q2 q3 hz => ?_)
              rw [e9]
              exact ih d mi (pc + 2) lv _ _ 0 r h hmi CX hR H1 locs (cells + 1) (slots + n9.toNat) mc ms ls hlv hwl (xwfs_cons.mpr ⟨trivial, hw1.2⟩) (xRelH_app hrel (by omega) hH hz (xwfs_rep xin0) q1 q2) q3 (by omega) (by omega) hm1 hm2
            · have hcc : xcc (ph ++ [(102, List.replicate n9.toNat (.inr (.inr (.inl 0))))]) 0 = xcc ph 0 + 1 := by unfold xcc; simp
              have hcs : xcs (ph ++ [(102, List.replicate n9.toNat (.inr (.inr (.inl 0))))]) 0 = xcs ph 0 + n9.toNat := by unfold xcs; rw [xsl_app]; simp
              have hg2 := xr_grow2 h
              refine xnewaW hx hb (atype := .long) (hts _ xarr_long) hK hP hDd hS hA0 (va_nm_long (hK.2 2 _ rfl).2) (N' := n9.toNat) (a0 := xca b B 102 (List.replicate n9.toNat (.inr (.inr (.inl 0))))) (xrep_l b B) hn0 (xi_nat e0) (by show n9.toNat * 8 ≤ _; omega) (by omega) (by omega) (hdg rfl) (fun H1 q1 q2 q3 hz => ?_)
              rw [e9]
              exact ih d mi (pc + 2) lv _ _ 0 r h hmi CX hR H1 locs (cells + 1) (slots + n9.toNat) mc ms ls hlv hwl (xwfs_cons.mpr ⟨trivial, hw1.2⟩) (xRelH_app hrel (by omega) hH hz (xwfs_rep trivial) q1 q2) q3 (by omega) (by omega) hm1 hm2
            · cases h
          · cases h
        · cases h
      | anewarray i =>
        simp only [xop] at h
        split at h
        · rename_i n9 st'
          split at h
          · rename_i hk
            obtain ⟨rfl, hk0, hk1, hk2⟩ := hk
            have hw1 := xwfs_cons.mp hws
            have e0 : xin n9 := hw1.1
            have hH : H.size = B + ph.length := hrel.2.2.1 rfl
            have hn0 : ¬ Int32.ofInt n9 < 0 := fun q => by have := (xz_lt e0).mp q; omega
            have hn9 : n9.toNat ≤ 100000 := by omega
            have e9 : Value.ref H.size = xm b B (.inr (.inl (some ph.length))) := by
              obtain ⟨-, -, -, -, ⟨r9, hr9, -⟩, -⟩ := hrel
              show Value.ref H.size = Value.ref (xad b B ph.length)
              unfold xad
              rw [if_neg (by rw [hr9]; simp), hH]
            have hcc : xcc (ph ++ [(103, List.replicate n9.toNat (.inr (.inl none)))]) 0 = xcc ph 0 + 1 := by unfold xcc; simp
            have hcs : xcs (ph ++ [(103, List.replicate n9.toNat (.inr (.inl none)))]) 0 = xcs ph 0 + n9.toNat := by unfold xcs; rw [xsl_app]; simp
            have hg2 := xr_grow2 h
            have hkk := xcls_ok hk2
            obtain ⟨kA, comp, -, -, -, hnm⟩ := (hK.2 3 _ rfl).2
            refine xnewqW hx hb hown (hts _ hkk.2) hfx.2.2.2.2.2.2.1 hK hP hDd hS hA0 hnm (N' := n9.toNat) (f := fun j => xmR b B (List.replicate n9.toNat (Sum.inr (Sum.inl none) : xV))[j]?) (fun j hj => by rw [List.getElem?_replicate, if_pos hj]; rfl) hn0 (xi_nat e0) (by omega) (by omega) (by omega) (hdg rfl) (fun H1 q1 q2 q3 hz => ?_)
            rw [e9]
            exact ih d mi (pc + 3) lv _ _ 0 r h hmi CX hR H1 locs (cells + 1) (slots + n9.toNat) mc ms ls hlv hwl (xwfs_cons.mpr ⟨trivial, hw1.2⟩) (xRelH_app hrel (by omega) hH hz (xwfs_rep trivial) (by rw [xce_q, List.length_replicate]; exact q1) (by rw [xce_q, List.length_replicate]; exact q2)) q3 (by omega) (by omega) hm1 hm2
          · cases h
        · cases h
      | invokevirtual i =>
        simp only [xop] at h
        split at h
        · rename_i mi' hcal
          split at h
          · rename_i as a rest hpop
            split at h
            · rename_i t vs hph
              split at h
              · rename_i hk
                obtain ⟨rfl, hsk, hrest, hsz⟩ := hk
                obtain ⟨est, elen⟩ := xpop_eq hpop
                have hL := xcal_ok hcal
                have hL1 : mi' < 262 := hL.1
                have hL2 : mi' ≠ 261 := hL.2.1
                have hM := xMall hL1 hL2
                have hob := xown_obj mi' hL1 (by omega)
                have hwst : xwfs (as ++ (.inr (.inl (some a)) :: rest)) := by
                  intro v hv
                  refine hws v ?_
                  rw [est]
                  rcases List.mem_append.mp hv with h1 | h1
                  · exact List.mem_append_left _ (List.mem_reverse.mpr h1)
                  · exact List.mem_append_right _ h1
                have hwr : xwfs rest := fun v hv => hwst v (List.mem_append_right _ (List.mem_cons_of_mem _ hv))
                have hwa : xwfs (.inr (.inl (some a)) :: as) := fun v hv => by
                  rcases List.mem_cons.mp hv with h1 | h1
                  · rw [h1]; trivial
                  · exact hwst v (List.mem_append_left _ h1)
                have hat := (xRelH_at hrel hph (by omega)).2
                rw [xce_obj b B ca (by omega)] at hat
                refine aft mi' _ rest (.ref (xad b B a) :: as.map (xm b B)).toArray hL1 hL2 hsz hwa hwr h (fun d' r1 hd hr1 hcon hf => ?_)
                subst hd
                have hstk : st.map (xm b B) = (as.map (xm b B)).reverse ++ .ref (xad b B a) :: rest.map (xm b B) := by rw [est]; simp [xm]
                have hpv : PreV s H (xy mi').cls (xad b B a) (xPc b B D ca xs (.inr (.inl (some a)) :: as) ph g) (as.map (xm b B)) := by
                  refine ⟨xPc_blind _ _ _ _ _ _ _ _, ?_, fun U hU hW => ⟨rfl, by rw [hU]; exact hrel, xFx_go hfx hW hU hS.1 hS.2.1⟩⟩
                  have := va_recv hK hP (xCall hob.1).1 hat
                  rw [hM.2.1.2.2.2.2, ← (xCall hob.1).2.1]
                  exact this
                have hcn : (as.map (xm b B)).length = xnp mi' := by rw [List.length_map]; exact elen
                have hinst : (Cond.instanceMethod (xy mi')).before args s = true ∧ (Cond.selects (xy mi').cls (xy mi') (xy mi')).before args s = true := by
                  rcases hM.2.2.2 with h1 | h1 | h1
                  · exact ⟨hts _ h1.2.1, hts _ h1.2.2⟩
                  · omega
                  · omega
                have hfix : CallFix p m c (xby mi) (xmaxL mi) s args (lw_tbl.filter goodWord) (xRn (xown mi)) := ⟨hx, hb, hml, hown, fun w hw => hts w (List.mem_filter.mp hw)⟩
                rcases hL.2.2 with hl | hl
                · exact vx_runV hfix hcon ⟨xCallB hM hL1 hts hob.2 ⟨by omega, by omega⟩ (hts _ hl), hinst⟩ hpv rfl hcn hlv.1 hstk (by have := xcats b B rest hrest; show 2 * 0 + _ ≤ 8; omega) (hdg rfl) hf
                · exact vx_runVN hfix hcon ⟨xCallCN hM hL1 hts hob.2 ⟨by omega, by omega⟩ (hfx.2.2.2.2.2.2.2.1.2 _ _ _ _ hl), hinst⟩ hpv rfl hcn hlv.1 hstk (by have := xcats b B rest hrest; show 2 * 0 + _ ≤ 8; omega) (hdg rfl) hf
              · cases h
            · cases h
          · cases h
        · cases h
      | invokespecial i =>
        simp only [xop] at h
        split at h
        · rename_i o9 hob
          split at h
          · rename_i a st'
            split at h
            · rename_i hk
              have hO := xobj_ok hob
              have h9 := nk _ _ _ _ h hlv hwl (xwfs_cons.mp hws).2
              exact W.objInit hx hb hown (hts _ hO) (hts _ xobj_w.1) (hts _ xobj_w.2) rfl hlsz rfl (hdg rfl) (by omega) (by have := xcats b B st' hk; show 2 * 0 + _ + 12 ≤ _; omega) h9
            · cases h
          · cases h
        · split at h
          · rename_i mi' hcal
            split at h
            · rename_i as a rest hpop
              split at h
              · rename_i hk
                obtain ⟨hsk, hrest, hsz⟩ := hk
                obtain ⟨est, elen⟩ := xpop_eq hpop
                have hL := xcal_ok hcal
                have hL1 : mi' < 262 := hL.1
                have hL2 : mi' ≠ 261 := hL.2.1
                have hM := xMall hL1 hL2
                have hob := xown_obj mi' hL1 (by omega)
                have hwst : xwfs (as ++ (.inr (.inl (some a)) :: rest)) := by
                  intro v hv
                  refine hws v ?_
                  rw [est]
                  rcases List.mem_append.mp hv with h1 | h1
                  · exact List.mem_append_left _ (List.mem_reverse.mpr h1)
                  · exact List.mem_append_right _ h1
                have hwr : xwfs rest := fun v hv => hwst v (List.mem_append_right _ (List.mem_cons_of_mem _ hv))
                have hwa : xwfs (.inr (.inl (some a)) :: as) := fun v hv => by
                  rcases List.mem_cons.mp hv with h1 | h1
                  · rw [h1]; trivial
                  · exact hwst v (List.mem_append_left _ h1)
                refine aft mi' _ rest (.ref (xad b B a) :: as.map (xm b B)).toArray hL1 hL2 hsz hwa hwr h (fun d' r1 hd hr1 hcon hf => ?_)
                subst hd
                have hstk : st.map (xm b B) = (as.map (xm b B)).reverse ++ .ref (xad b B a) :: rest.map (xm b B) := by rw [est]; simp [xm]
                have hps : PreS s H (xPc b B D ca xs (.inr (.inl (some a)) :: as) ph g) (.ref (xad b B a) :: as.map (xm b B)) :=
                  ⟨xPc_blind _ _ _ _ _ _ _ _, fun U hU hW => ⟨rfl, by rw [hU]; exact hrel, xFx_go hfx hW hU hS.1 hS.2.1⟩⟩
                have hcn : (as.map (xm b B)).length = xnp mi' := by rw [List.length_map]; exact elen
                have hfix : CallFix p m c (xby mi) (xmaxL mi) s args (lw_tbl.filter goodWord) (xRn (xown mi)) := ⟨hx, hb, hml, hown, fun w hw => hts w (List.mem_filter.mp hw)⟩
                have hl : xG (.methodLink (xRn (xown mi)) i (xy mi')) := xcal_in hcal (Or.inl hsk)
                rcases hM.2.2.2 with h1 | h1 | h1
                · omega
                · omega
                · have hcb := xCallB (mc := xmc r1 ph g) (ms := xms r1 ph g) hM hL1 hts hob.2 (R := R) (d' := d') ⟨by omega, by omega⟩ (hts _ hl)
                  rw [h1.2.2.2] at hcb
                  exact vx_runI hfix hcon ⟨hcb, h1.2.2.1, hts _ h1.2.1⟩ hps rfl hcn hlv.1 hstk (by have := xcats b B rest hrest; show 2 * 0 + _ ≤ 8; omega) (hdg rfl) hf
              · cases h
            · cases h
          · cases h
      | invokestatic i =>
        simp only [xop] at h
        split at h
        · rename_i w9 hmat
          split at h
          · rename_i y x st'
            split at h
            · rename_i hk
              have hJ : (w9 = 0 ∧ xG (.methodLink (xRn (xown mi)) i Lib.Math.max.name)) ∨ (w9 = 1 ∧ xG (.methodLink (xRn (xown mi)) i Lib.Math.min.name)) := xmat_ok hmat
              have hw1 := xwfs_cons.mp hws
              have hw2 := xwfs_cons.mp hw1.2
              have e1 : xin x := hw2.1
              have e2 : xin y := hw1.1
              have hloc : ((st'.map (xm b B)).map fun v => v.category).sum + 13 ≤ R.locals := by have := xcats b B st' hk; omega
              have hgr : xcc ph g ≤ xcc r.2.1 r.2.2 ∧ xcs ph g ≤ xcs r.2.1 r.2.2 := by split at h <;> exact xr_grow2 h
              have hcm : cells ≤ R.cells := by omega
              have hsm : slots ≤ R.slots := by omega
              rcases hJ with ⟨j1, j2⟩ | ⟨j1, j2⟩
              · rw [if_pos j1] at h
                have h9 := nk _ _ _ _ h hlv hwl (xwfs_cons.mpr ⟨by split <;> assumption, hw2.2⟩)
                refine va_mmax hx hb hlsz.symm hown (hts _ j2) (hts _ xmath_max.1) (hts _ xmath_ini) (hts _ xmath_max.2) (by omega) hloc hcm hsm (hdg rfl) ?_
                rw [xi_max e1 e2]
                exact h9
              · rw [if_neg (by omega)] at h
                have h9 := nk _ _ _ _ h hlv hwl (xwfs_cons.mpr ⟨by split <;> assumption, hw2.2⟩)
                refine va_mmin hx hb hlsz.symm hown (hts _ j2) (hts _ xmath_min.1) (hts _ xmath_ini) (hts _ xmath_min.2) (by omega) hloc hcm hsm (hdg rfl) ?_
                rw [xi_min e1 e2]
                exact h9
            · cases h
          · cases h
        · split at h
          · rename_i mi' hcal
            split at h
            · rename_i as rest hpop
              split at h
              · rename_i hk
                obtain ⟨hsk, hrest, hsz⟩ := hk
                obtain ⟨est, elen⟩ := xpop_eq hpop
                have hL := xcal_ok hcal
                have hL1 : mi' < 262 := hL.1
                have hL2 : mi' ≠ 261 := hL.2.1
                have hM := xMall hL1 hL2
                have hwr : xwfs rest := fun v hv => hws v (by rw [est]; exact List.mem_append_right _ hv)
                have hwa : xwfs as := fun v hv => hws v (by rw [est]; exact List.mem_append_left _ (List.mem_reverse.mpr hv))
                refine aft mi' _ rest (as.map (xm b B)).toArray hL1 hL2 hsz hwa hwr h (fun d' r1 hd hr1 hcon hf => ?_)
                subst hd
                have hstk : st.map (xm b B) = (as.map (xm b B)).reverse ++ rest.map (xm b B) := by rw [est]; simp
                have hps : PreS s H (xPc b B D ca xs as ph g) (as.map (xm b B)) :=
                  ⟨xPc_blind _ _ _ _ _ _ _ _, fun U hU hW => ⟨rfl, by rw [hU]; exact hrel, xFx_go hfx hW hU hS.1 hS.2.1⟩⟩
                have hcn : (as.map (xm b B)).length = xnp mi' := by rw [List.length_map]; exact elen
                have hfix : CallFix p m c (xby mi) (xmaxL mi) s args (lw_tbl.filter goodWord) (xRn (xown mi)) := ⟨hx, hb, hml, hown, fun w hw => hts w (List.mem_filter.mp hw)⟩
                have hst9 : (Cond.static (xy mi')).before args s = true := by
                  rcases hM.2.2.2 with h1 | h1 | h1
                  · omega
                  · exact hts _ h1.2
                  · omega
                by_cases hhe : xhh mi' = []
                · rcases hL.2.2 with hl | hl
                  · exact vx_runS hfix hcon ⟨xCallB hM hL1 hts hhe ⟨by omega, by omega⟩ (hts _ hl), hst9⟩ hps rfl hcn hlv.1 hstk (by have := xcats b B rest hrest; show 2 * 0 + _ ≤ 8; omega) (hdg rfl) hf
                  · exact vx_runSN hfix hcon ⟨xCallCN hM hL1 hts hhe ⟨by omega, by omega⟩ (hfx.2.2.2.2.2.2.2.1.2 _ _ _ _ hl), hst9, trivial⟩ hps rfl hcn hlv.1 hstk (by have := xcats b B rest hrest; show 2 * 0 + _ ≤ 8; omega) (hdg rfl) hf
                · exact vx_runSX hfix hcon (xCallSW hM hL1 hts hhe hsk ⟨by omega, by omega⟩ (hts _ (xcal_in hcal (Or.inr hhe)))) hps rfl hcn hlv.1 hstk (by have := xcats b B rest hrest; show 2 * 0 + _ ≤ 8; omega) (hdg rfl) hf
              · cases h
            · cases h
          · cases h
      | ireturn =>
        simp only [xop] at h
        split at h
        · rename_i x
          split at h
          · rename_i hk
            cases h
            have e1 : cells = mc := Nat.add_right_cancel hc1
            have e2 : slots = ms := Nat.add_right_cancel hc2
            subst e1; subst e2
            have hRk := xrk_all hmi
            have hqq : ∀ (t : State), t.heap = H → s.WarmedH t.vm → xQc b B D ca xs (.inl (some (.inl x)), ph, g) args s (.returned (some (.int (Int32.ofInt x)))) t := fun t ht hW => ⟨some (.inl x), ph, g, rfl, rfl, by rw [ht]; exact hrel, hS.F ht, fun w hw => by cases hw; exact (xwfs_cons.mp hws).1⟩
            rcases hk with hk | ⟨hk, hx01⟩
            · rw [hk] at hRk
              exact vx_ret (W.iret hx hb (hr.trans hRk) hqq (fun q hq => hS.2.2 q hq) (hdg rfl) hlocks)
            · rw [hk] at hRk
              exact vx_ret (W.zret hx hb (hr.trans hRk) (by rcases hx01 with rfl | rfl <;> rfl) hqq (fun q hq => hS.2.2 q hq) (hdg rfl) hlocks)
          · cases h
        · cases h
      | lreturn =>
        simp only [xop] at h
        split at h
        · rename_i x
          split at h
          · rename_i hk
            cases h
            have e1 : cells = mc := Nat.add_right_cancel hc1
            have e2 : slots = ms := Nat.add_right_cancel hc2
            subst e1; subst e2
            have hRk := xrk_all hmi
            rw [hk] at hRk
            have hqq : ∀ (t : State), t.heap = H → s.WarmedH t.vm → xQc b B D ca xs (.inl (some (.inr (.inr (.inl x)))), ph, g) args s (.returned (some (.long x))) t := fun t ht hW => ⟨some (.inr (.inr (.inl x))), ph, g, rfl, rfl, by rw [ht]; exact hrel, hS.F ht, fun w hw => by cases hw; trivial⟩
            exact vx_ret (W.lret hx hb (hr.trans hRk) hqq (fun q hq => hS.2.2 q hq) (hdg rfl) hlocks)
          · cases h
        · cases h
      | dreturn =>
        simp only [xop] at h
        split at h
        · rename_i x
          split at h
          · rename_i hk
            cases h
            have e1 : cells = mc := Nat.add_right_cancel hc1
            have e2 : slots = ms := Nat.add_right_cancel hc2
            subst e1; subst e2
            have hRk := xrk_all hmi
            rw [hk] at hRk
            have hqq : ∀ (t : State), t.heap = H → s.WarmedH t.vm → xQc b B D ca xs (.inl (some (.inr (.inr (.inr x)))), ph, g) args s (.returned (some (.double x))) t := fun t ht hW => ⟨some (.inr (.inr (.inr x))), ph, g, rfl, rfl, by rw [ht]; exact hrel, hS.F ht, fun w hw => by cases hw; trivial⟩
            exact vx_ret (W.dret hx hb (hr.trans hRk) hqq (fun q hq => hS.2.2 q hq) (hdg rfl) hlocks)
          · cases h
        · cases h
      | return_ =>
        simp only [xop] at h
        split at h
        · split at h
          · rename_i hk
            cases h
            have e1 : cells = mc := Nat.add_right_cancel hc1
            have e2 : slots = ms := Nat.add_right_cancel hc2
            subst e1; subst e2
            have hRk := xrk_all hmi
            rw [hk] at hRk
            have hqq : ∀ (t : State), t.heap = H → s.WarmedH t.vm → xQc b B D ca xs (.inl none, ph, g) args s (.returned none) t := fun t ht hW => ⟨none, ph, g, rfl, rfl, by rw [ht]; exact hrel, hS.F ht, fun w hw => by cases hw⟩
            exact vx_ret (W.vret hx hb (hr.trans hRk) hqq (fun q hq => hS.2.2 q hq) (hdg rfl) hlocks)
          · cases h
        · cases h
      | _ => exact absurd h (by simp [xop])
end
section
/-! ===== the shape of the heap behind the constructors ===== -/
def hTgT : List Nat := [200, 9, 8, 101, 100, 8, 101, 100, 7, 100, 100, 100, 100, 100, 100, 7, 100, 100, 100, 100, 100, 100, 7, 100, 100, 100, 100, 100, 100, 7, 100, 100, 100, 100, 100, 100, 7, 100, 100, 100, 100, 100, 100, 4, 3, 8, 101, 100, 100, 5, 8, 101, 100, 8, 101, 100, 0, 1, 7, 100, 100, 100, 100, 100, 100, 8, 101, 100, 100, 100, 100, 100, 100, 6, 8, 101, 100, 3, 8, 101, 100, 100, 6, 8, 101, 100, 3, 8, 101, 100, 100, 2, 103, 6, 8, 101, 100, 3, 8, 101, 100, 100, 6, 8, 101, 100, 3, 8, 101, 100, 100, 6, 8, 101, 100, 3, 8, 101, 100, 100, 6, 8, 101, 100, 3, 8, 101, 100, 100, 6, 8, 101, 100, 3, 8, 101, 100, 100, 6, 8, 101, 100, 3, 8, 101, 100, 100, 10, 100, 100, 100, 100, 100, 100, 100, 100, 100, 100, 100, 100, 100, 100, 100, 100, 100, 100, 100, 100, 102]
def hSzT : List Nat := [3, 10, 3, 60, 1, 3, 60, 1, 14, 60, 60, 60, 60, 60, 60, 14, 60, 60, 60, 60, 60, 60, 14, 60, 60, 60, 60, 60, 60, 14, 60, 60, 60, 60, 60, 60, 14, 60, 60, 60, 60, 60, 60, 4, 8, 3, 200, 1, 5, 2, 3, 9840, 410, 3, 960, 40, 3, 12, 14, 60, 60, 60, 60, 60, 60, 3, 300, 5, 40, 40, 40, 40, 40, 5, 3, 192, 8, 8, 3, 200, 1, 5, 5, 3, 192, 8, 8, 3, 200, 1, 5, 2, 6, 5, 3, 192, 8, 8, 3, 200, 1, 5, 5, 3, 192, 8, 8, 3, 200, 1, 5, 5, 3, 192, 8, 8, 3, 200, 1, 5, 5, 3, 192, 8, 8, 3, 200, 1, 5, 5, 3, 192, 8, 8, 3, 200, 1, 5, 5, 3, 192, 8, 8, 3, 200, 1, 5, 45, 416, 2496, 416, 60, 160, 200, 8, 16000, 64, 1536, 5, 5, 64, 64, 64, 64, 64, 64, 64, 1536, 1]
def hTg (a : Nat) : Nat := match hTgT[a]? with
  | some t => t
  | none => 999
def hSz (a : Nat) : Nat := match hSzT[a]? with
  | some t => t
  | none => 0
/-- what stands in a place of a cell: 0 a number, 2 a reference that stays, 3 a long, 4 a reference to a state, 5 a number that stays, 6 a sign -/
def hKdT : List (List Nat) := [[2, 2, 2], [2, 2, 2, 2, 0, 0, 2, 2, 2, 2, 2, 0], [2, 0], [2, 2, 0, 0, 0, 0, 0, 0], [2, 2, 2, 0], [2, 0], [2, 2, 0, 0, 0], [5, 2, 2, 2, 2, 2, 2, 2, 0, 0, 0, 0, 0, 0], [5, 2, 2], [2, 2, 2, 2, 2, 2, 2, 2, 2, 0], [0, 2, 2, 0, 2, 0, 2, 0, 2, 0, 0, 0, 0, 0, 0, 0, 0, 0, 2, 0, 0, 2, 0, 0, 0, 0, 0, 2, 0, 2, 2, 0, 2, 2, 0, 2, 2, 2, 2, 2, 2, 2, 2, 0, 3]]
def hKd (t k : Nat) : Nat := match t with
  | 100 => 0
  | 101 => 6
  | 102 => 3
  | 103 => 4
  | _ => match hKdT[t]? with
    | some l => match l[k]? with
      | some q => q
      | none => 9
    | none => 9
def hKi (t k : Nat) : Bool := Nat.beq (hKd t k) 0 || Nat.beq (hKd t k) 6
def hSc (t : Nat) : Nat := match hKdT[t]? with
  | some l => l.length
  | none => 0
def hRf (a k : Nat) : Option Nat := match hTg a, k with
  | 8, 1 => some (a + 1)
  | 8, 2 => some (a + 2)
  | 7, 1 => if a = 8 ∨ a = 58 then none else some (a - 7)
  | 7, 2 => some (a + 1)
  | 7, 3 => some (a + 2)
  | 7, 4 => some (a + 3)
  | 7, 5 => some (a + 4)
  | 7, 6 => some (a + 5)
  | 7, 7 => some (a + 6)
  | 3, 0 => some (a + 1)
  | 3, 1 => some (a + 4)
  | 6, 0 => some (a + 1)
  | 6, 1 => some (a + 4)
  | 0, 0 => some 43
  | 0, 1 => some 49
  | 0, 2 => some 44
  | 1, 0 => some 43
  | 1, 1 => some 49
  | 1, 2 => some 58
  | 1, 3 => some 65
  | 1, 6 => some 68
  | 1, 7 => some 69
  | 1, 8 => some 70
  | 1, 9 => some 71
  | 1, 10 => some 72
  | 2, 0 => some 92
  | 4, 0 => some 44
  | 4, 1 => some 49
  | 4, 2 => some 53
  | 5, 0 => some 50
  | 9, 0 => some 2
  | 9, 1 => some 5
  | 9, 2 => some 36
  | 9, 3 => some 43
  | 9, 4 => some 56
  | 9, 5 => some 57
  | 9, 6 => some 73
  | 9, 7 => some 82
  | 9, 8 => some 91
  | 10, 1 => some 148
  | 10, 2 => some 149
  | 10, 4 => some 150
  | 10, 6 => some 151
  | 10, 8 => some 152
  | 10, 18 => some 153
  | 10, 21 => some 154
  | 10, 27 => some 155
  | 10, 29 => some 156
  | 10, 30 => some 157
  | 10, 32 => some 158
  | 10, 33 => some 159
  | 10, 35 => some 160
  | 10, 36 => some 161
  | 10, 37 => some 162
  | 10, 38 => some 163
  | 10, 39 => some 164
  | 10, 40 => some 165
  | 10, 41 => some 166
  | 10, 42 => some 167
  | _, _ => none
def hWd (t : Nat) : Nat := hSz (t + 1) / hSz (t + 2)
def hRw (t : Nat) : Nat := hSz (t + 2)
def hLv (t : Nat) : Nat := if t = 58 then 0 else (36 - t) / 7
def hCs (a : Nat) : Int := if hTg a = 8 then (hWd a : Int) else (hLv a : Int)
def hOk (a k : Nat) (v : xV) : Prop := match hKd (hTg a) k with
  | 0 => ∃ x, v = .inl x
  | 2 => v = .inr (.inl (hRf a k))
  | 3 => ∃ l, v = .inr (.inr (.inl l))
  | 4 => ∃ s, v = .inr (.inl (some s)) ∧ hTg s = 6
  | 5 => v = .inl (hCs a)
  | 6 => ∃ x, v = .inl x ∧ 0 ≤ x ∧ x ≤ 65535
  | _ => False
def hSh (zs : List xV) (ph : xH) : Prop := ph.length = 169 ∧ ph[0]? = some (200, zs) ∧ ∀ a, a ≠ 0 → a < 169 → ∃ vs, ph[a]? = some (hTg a, vs) ∧ vs.length = hSz a ∧ ∀ k v, vs[k]? = some v → hOk a k v
theorem hTg_in {a : Nat} (h : hTg a < 104) : a ≠ 0 ∧ a < 169 := by
  constructor
  · rintro rfl
    exact absurd h (by decide)
  · by_cases h2 : a < 169
    · exact h2
    · exfalso
      have e : hTgT[a]? = none := List.getElem?_eq_none (by have : hTgT.length = 169 := by decide +kernel
                                                            omega)
      unfold hTg at h
      rw [e] at h
      exact absurd h (by decide)
theorem hSh_at {zs : List xV} {ph : xH} {a : Nat} (hs : hSh zs ph) (h : hTg a < 104) : ∃ vs, ph[a]? = some (hTg a, vs) ∧ vs.length = hSz a ∧ ∀ k v, vs[k]? = some v → hOk a k v :=
  hs.2.2 a (hTg_in h).1 (hTg_in h).2
theorem hTg_all (P : Nat → Bool) (h : (List.range 169).all P = true) {a : Nat} (ha : a < 169) : P a = true := List.all_eq_true.mp h a (List.mem_range.mpr ha)
theorem hSz_c {a t : Nat} (h : hTg a = t) (ht : t < 100) : hSz a = hSc t := by
  have h1 := hTg_all (fun a => decide (hTg a < 100 → hSz a = hSc (hTg a))) (by decide +kernel) (hTg_in (by omega : hTg a < 104)).2
  have h2 := of_decide_eq_true h1 (by omega)
  rw [h2, h]
/-! ===== reading and writing ===== -/
def hRd (ph : xH) (a k : Nat) : Int := match ph[a]? with
  | some c => match c.2[k]? with
    | some (.inl x) => x
    | _ => 0
  | none => 0
def hRl (ph : xH) (a k : Nat) : Int64 := match ph[a]? with
  | some c => match c.2[k]? with
    | some (.inr (.inr (.inl x))) => x
    | _ => 0
  | none => 0
def hRs (ph : xH) (a k : Nat) : Nat := match ph[a]? with
  | some c => match c.2[k]? with
    | some (.inr (.inl (some x))) => x
    | _ => 0
  | none => 0
def hPu (ph : xH) (a k : Nat) (v : xV) : xH := match ph[a]? with
  | some c => ph.set a (c.1, c.2.set k v)
  | none => ph
abbrev hUp (ph : xH) (a k : Nat) (x : Int) : xH := hPu ph a k (.inl x)
abbrev hUl (ph : xH) (a k : Nat) (x : Int64) : xH := hPu ph a k (.inr (.inr (.inl x)))
abbrev hUs (ph : xH) (a k : Nat) (x : Nat) : xH := hPu ph a k (.inr (.inl (some x)))
theorem hSh_pu {zs : List xV} {ph : xH} {a k : Nat} {v : xV} (hs : hSh zs ph) (ht : hTg a < 104) (hv : hOk a k v) : hSh zs (hPu ph a k v) := by
  obtain ⟨vs, h1, h2, h3⟩ := hSh_at hs ht
  have ha := hTg_in ht
  obtain ⟨q1, q2, q3⟩ := hs
  unfold hPu
  rw [h1]
  refine ⟨by simpa using q1, by rw [List.getElem?_set_ne ha.1]; exact q2, fun b hb hb2 => ?_⟩
  by_cases e : b = a
  · subst e
    refine ⟨vs.set k v, by rw [List.getElem?_set_self (by omega)], by simpa using h2, fun j w hw => ?_⟩
    by_cases e2 : k = j
    · subst e2
      have hl : k < vs.length := by
        have := (List.getElem?_eq_some_iff.mp hw).1
        simpa using this
      rw [List.getElem?_set_self hl] at hw
      cases hw
      exact hv
    · rw [List.getElem?_set_ne e2] at hw
      exact h3 j w hw
  · rw [List.getElem?_set_ne (Ne.symm e)]
    exact q3 b hb hb2
theorem hKd_lt {t k : Nat} (h : hKd t k ≠ 9) : t < 104 := by
  by_cases h2 : t < 104
  · exact h2
  · exfalso
    apply h
    have e : hKdT[t]? = none := List.getElem?_eq_none (by have : hKdT.length = 11 := by decide
                                                          omega)
    unfold hKd
    split <;> first | omega | rfl | (rw [e])
theorem hShI {zs : List xV} {ph : xH} {a k : Nat} (x : Int) (hs : hSh zs ph) (hk : hKd (hTg a) k = 0) : hSh zs (hUp ph a k x) :=
  hSh_pu hs (hKd_lt (by rw [hk]; decide)) (by unfold hOk; rw [hk]; exact ⟨x, rfl⟩)
theorem hShC {zs : List xV} {ph : xH} {a k : Nat} (x : Int) (hs : hSh zs ph) (hk : hKd (hTg a) k = 6) (hx : 0 ≤ x ∧ x ≤ 65535) : hSh zs (hUp ph a k x) :=
  hSh_pu hs (hKd_lt (by rw [hk]; decide)) (by unfold hOk; rw [hk]; exact ⟨x, rfl, hx⟩)
theorem hKi_ne {t k : Nat} (h : hKi t k = true) : hKd t k ≠ 9 := by
  unfold hKi at h
  rw [Bool.or_eq_true] at h
  rcases h with h | h <;> (have e := Nat.eq_of_beq_eq_true h; rw [e]; decide)
theorem hKi_ok {a k : Nat} {v : xV} (h : hKi (hTg a) k = true) (hv : hOk a k v) : ∃ x, v = .inl x := by
  unfold hKi at h
  rw [Bool.or_eq_true] at h
  unfold hOk at hv
  rcases h with h | h
  · rw [Nat.eq_of_beq_eq_true h] at hv
    exact hv
  · rw [Nat.eq_of_beq_eq_true h] at hv
    exact ⟨hv.choose, hv.choose_spec.1⟩
theorem hRd_ch {zs : List xV} {ph : xH} {a k : Nat} (hs : hSh zs ph) (ht : hTg a = 101) : 0 ≤ hRd ph a k ∧ hRd ph a k ≤ 65535 := by
  obtain ⟨vs, h1, h2, h3⟩ := hSh_at hs (show hTg a < 104 by omega)
  unfold hRd
  rw [h1]
  simp only
  cases hv : vs[k]? with
  | none => simp
  | some v =>
    have h4 := h3 k v hv
    unfold hOk at h4
    rw [ht] at h4
    obtain ⟨x, rfl, hx⟩ := h4
    exact hx
theorem hShL {zs : List xV} {ph : xH} {a k : Nat} (x : Int64) (hs : hSh zs ph) (hk : hKd (hTg a) k = 3) : hSh zs (hUl ph a k x) :=
  hSh_pu hs (hKd_lt (by rw [hk]; decide)) (by unfold hOk; rw [hk]; exact ⟨x, rfl⟩)
theorem hShS {zs : List xV} {ph : xH} {a k x : Nat} (hs : hSh zs ph) (hk : hKd (hTg a) k = 4) (hx : hTg x = 6) : hSh zs (hUs ph a k x) :=
  hSh_pu hs (hKd_lt (by rw [hk]; decide)) (by unfold hOk; rw [hk]; exact ⟨x, rfl, hx⟩)
theorem hPu_get {zs : List xV} {ph : xH} {a k : Nat} {v : xV} (hs : hSh zs ph) (ht : hTg a < 104) (b : Nat) : (hPu ph a k v)[b]? = if b = a then (ph[a]?).map (fun c => (c.1, c.2.set k v)) else ph[b]? := by
  obtain ⟨vs, h1, h2, h3⟩ := hSh_at hs ht
  unfold hPu
  rw [h1]
  have ha : a < ph.length := (List.getElem?_eq_some_iff.mp h1).1
  by_cases e : b = a
  · subst e
    rw [if_pos rfl]
    simp [ha]
  · rw [if_neg e]
    exact List.getElem?_set_ne (Ne.symm e)
theorem hRd_up {zs : List xV} {ph : xH} {a k : Nat} {x : Int} (hs : hSh zs ph) (hk : hKi (hTg a) k = true) (hz : k < hSz a) (b j : Nat) : hRd (hUp ph a k x) b j = if b = a ∧ j = k then x else hRd ph b j := by
  have ht := hKd_lt (hKi_ne hk)
  obtain ⟨vs, h1, h2, h3⟩ := hSh_at hs ht
  unfold hRd
  rw [hPu_get hs ht]
  by_cases e : b = a
  · subst e
    rw [if_pos rfl, h1]
    simp only [Option.map_some]
    by_cases e2 : j = k
    · subst e2
      rw [if_pos (by simp), List.getElem?_set_self (by omega)]
    · rw [if_neg (fun q => e2 q.2), List.getElem?_set_ne (Ne.symm e2)]
  · rw [if_neg e, if_neg (fun q => e q.1)]
theorem hRd_pu {zs : List xV} {ph : xH} {a k : Nat} {v : xV} (hs : hSh zs ph) (hk : hKd (hTg a) k = 3 ∨ hKd (hTg a) k = 4) (hv : ∀ x, v ≠ .inl x) (b j : Nat) : hRd (hPu ph a k v) b j = hRd ph b j := by
  have ht := hKd_lt (t := hTg a) (k := k) (by rcases hk with h | h <;> rw [h] <;> decide)
  obtain ⟨vs, h1, h2, h3⟩ := hSh_at hs ht
  unfold hRd
  rw [hPu_get hs ht]
  by_cases e : b = a
  · subst e
    rw [if_pos rfl, h1]
    simp only [Option.map_some]
    by_cases e2 : j = k
    · subst e2
      by_cases hl : j < vs.length
      · rw [List.getElem?_set_self hl]
        have h4 := h3 j vs[j] (List.getElem?_eq_getElem hl)
        rw [List.getElem?_eq_getElem hl]
        unfold hOk at h4
        rcases hk with hk | hk <;> rw [hk] at h4 <;> obtain ⟨s, hs4⟩ := h4
        · rw [hs4]
          rcases v with y | y
          · exact absurd rfl (hv y)
          · rfl
        · rw [hs4.1]
          rcases v with y | y
          · exact absurd rfl (hv y)
          · rfl
      · rw [List.getElem?_eq_none (by simpa using Nat.not_lt.mp hl), List.getElem?_eq_none (Nat.not_lt.mp hl)]
    · rw [List.getElem?_set_ne (Ne.symm e2)]
  · rw [if_neg e]
theorem hRl_up {zs : List xV} {ph : xH} {a k : Nat} {x : Int} (hs : hSh zs ph) (hk : hKi (hTg a) k = true) (b j : Nat) : hRl (hUp ph a k x) b j = hRl ph b j := by
  have ht := hKd_lt (hKi_ne hk)
  obtain ⟨vs, h1, h2, h3⟩ := hSh_at hs ht
  unfold hRl
  rw [hPu_get hs ht]
  by_cases e : b = a
  · subst e
    rw [if_pos rfl, h1]
    simp only [Option.map_some]
    by_cases e2 : j = k
    · subst e2
      by_cases hl : j < vs.length
      · rw [List.getElem?_set_self hl]
        have h4 := h3 j vs[j] (List.getElem?_eq_getElem hl)
        rw [List.getElem?_eq_getElem hl]
        obtain ⟨s, hs4⟩ := hKi_ok hk h4
        rw [hs4]
      · rw [List.getElem?_eq_none (by simpa using Nat.not_lt.mp hl), List.getElem?_eq_none (Nat.not_lt.mp hl)]
    · rw [List.getElem?_set_ne (Ne.symm e2)]
  · rw [if_neg e]
theorem hRs_up {zs : List xV} {ph : xH} {a k : Nat} {x : Int} (hs : hSh zs ph) (hk : hKi (hTg a) k = true) (b j : Nat) : hRs (hUp ph a k x) b j = hRs ph b j := by
  have ht := hKd_lt (hKi_ne hk)
  obtain ⟨vs, h1, h2, h3⟩ := hSh_at hs ht
  unfold hRs
  rw [hPu_get hs ht]
  by_cases e : b = a
  · subst e
    rw [if_pos rfl, h1]
    simp only [Option.map_some]
    by_cases e2 : j = k
    · subst e2
      by_cases hl : j < vs.length
      · rw [List.getElem?_set_self hl]
        have h4 := h3 j vs[j] (List.getElem?_eq_getElem hl)
        rw [List.getElem?_eq_getElem hl]
        obtain ⟨s, hs4⟩ := hKi_ok hk h4
        rw [hs4]
      · rw [List.getElem?_eq_none (by simpa using Nat.not_lt.mp hl), List.getElem?_eq_none (Nat.not_lt.mp hl)]
    · rw [List.getElem?_set_ne (Ne.symm e2)]
  · rw [if_neg e]
theorem hRl_pu {zs : List xV} {ph : xH} {a k : Nat} {x : Int64} (hs : hSh zs ph) (hk : hKd (hTg a) k = 3) (hz : k < hSz a) (b j : Nat) : hRl (hUl ph a k x) b j = if b = a ∧ j = k then x else hRl ph b j := by
  have ht := hKd_lt (t := hTg a) (k := k) (by rw [hk]; decide)
  obtain ⟨vs, h1, h2, h3⟩ := hSh_at hs ht
  unfold hRl
  rw [hPu_get hs ht]
  by_cases e : b = a
  · subst e
    rw [if_pos rfl, h1]
    simp only [Option.map_some]
    by_cases e2 : j = k
    · subst e2
      rw [if_pos (by simp), List.getElem?_set_self (by omega)]
    · rw [if_neg (fun q => e2 q.2), List.getElem?_set_ne (Ne.symm e2)]
  · rw [if_neg e, if_neg (fun q => e q.1)]
theorem hRs_pu {zs : List xV} {ph : xH} {a k x : Nat} (hs : hSh zs ph) (hk : hKd (hTg a) k = 4) (hz : k < hSz a) (b j : Nat) : hRs (hUs ph a k x) b j = if b = a ∧ j = k then x else hRs ph b j := by
  have ht := hKd_lt (t := hTg a) (k := k) (by rw [hk]; decide)
  obtain ⟨vs, h1, h2, h3⟩ := hSh_at hs ht
  unfold hRs
  rw [hPu_get hs ht]
  by_cases e : b = a
  · subst e
    rw [if_pos rfl, h1]
    simp only [Option.map_some]
    by_cases e2 : j = k
    · subst e2
      rw [if_pos (by simp), List.getElem?_set_self (by omega)]
    · rw [if_neg (fun q => e2 q.2), List.getElem?_set_ne (Ne.symm e2)]
  · rw [if_neg e, if_neg (fun q => e q.1)]
/-! ===== steps ===== -/
def xlo (l : List (Option xV)) : xL := fun k => match l[k]? with
  | some o => o
  | none => none
section HST
variable {d mi pc pc' : Nat} {lv lv' : xL} {st st' : List xV} {ph ph' : xH} {g : Nat} {Q : xR → Prop} {op : Instr} {l : List (Nat × Instr)}
theorem tK (hc : xcode[mi]? = some l) (hf : xfind l pc = some op) (he : ∀ (K : Nat → xL → List xV → xH → Prop) (C : Nat → List xV → List xV → Prop) (Rt : Option xV → Prop) (Th : Nat → Prop) (z : Prop), xop mi pc op lv st ph g K C Rt Th z = K pc' lv' st' ph') (h : xT d mi pc' lv' st' ph' g Q) : xT d mi pc lv st ph g Q := by
  have hf' : xfetch mi pc = some op := by unfold xfetch; rw [hc]; exact hf
  rw [xT_op hf', he]; exact h
theorem tIf {pc2 : Nat} {lv2 : xL} {st2 : List xV} {ph2 : xH} {c : Prop} {hd : Decidable c} (hc : xcode[mi]? = some l) (hf : xfind l pc = some op) (he : ∀ (K : Nat → xL → List xV → xH → Prop) (C : Nat → List xV → List xV → Prop) (Rt : Option xV → Prop) (Th : Nat → Prop) (z : Prop), xop mi pc op lv st ph g K C Rt Th z = if c then K pc' lv' st' ph' else K pc2 lv2 st2 ph2) (h1 : c → xT d mi pc' lv' st' ph' g Q) (h2 : ¬ c → xT d mi pc2 lv2 st2 ph2 g Q) : xT d mi pc lv st ph g Q := by
  have hf' : xfetch mi pc = some op := by unfold xfetch; rw [hc]; exact hf
  rw [xT_op hf', he]
  by_cases h : c
  · rw [if_pos h]; exact h1 h
  · rw [if_neg h]; exact h2 h
theorem tGd {c : Prop} {hd : Decidable c} (hc : xcode[mi]? = some l) (hf : xfind l pc = some op) (he : ∀ (K : Nat → xL → List xV → xH → Prop) (C : Nat → List xV → List xV → Prop) (Rt : Option xV → Prop) (Th : Nat → Prop) (z : Prop), xop mi pc op lv st ph g K C Rt Th z = if c then K pc' lv' st' ph' else z) (h1 : c) (h : xT d mi pc' lv' st' ph' g Q) : xT d mi pc lv st ph g Q := by
  have hf' : xfetch mi pc = some op := by unfold xfetch; rw [hc]; exact hf
  rw [xT_op hf', he, if_pos h1]; exact h
theorem tCa {mi' : Nat} {as rest : List xV} (hc : xcode[mi]? = some l) (hf : xfind l pc = some op) (he : ∀ (K : Nat → xL → List xV → xH → Prop) (C : Nat → List xV → List xV → Prop) (Rt : Option xV → Prop) (Th : Nat → Prop) (z : Prop), xop mi pc op lv st ph g K C Rt Th z = C mi' as rest) (h : xTC d mi' as ph g (xKc (d + 1) mi pc lv rest Q)) : xT (d + 1) mi pc lv st ph g Q := by
  have hf' : xfetch mi pc = some op := by unfold xfetch; rw [hc]; exact hf
  rw [xT_op hf', he]; exact h
theorem tRt {v : Option xV} (hc : xcode[mi]? = some l) (hf : xfind l pc = some op) (he : ∀ (K : Nat → xL → List xV → xH → Prop) (C : Nat → List xV → List xV → Prop) (Rt : Option xV → Prop) (Th : Nat → Prop) (z : Prop), xop mi pc op lv st ph g K C Rt Th z = Rt v) (h : Q (.inl v, ph, g)) : xT d mi pc lv st ph g Q := by
  have hf' : xfetch mi pc = some op := by unfold xfetch; rw [hc]; exact hf
  rw [xT_op hf', he]; exact h
theorem tTh {E : Nat} (hc : xcode[mi]? = some l) (hf : xfind l pc = some op) (he : ∀ (K : Nat → xL → List xV → xH → Prop) (C : Nat → List xV → List xV → Prop) (Rt : Option xV → Prop) (Th : Nat → Prop) (z : Prop), xop mi pc op lv st ph g K C Rt Th z = Th E) (h : Q (.inr E, ph, g + 1)) : xT d mi pc lv st ph g Q := by
  have hf' : xfetch mi pc = some op := by unfold xfetch; rw [hc]; exact hf
  rw [xT_op hf', he]; exact h
theorem tEn {as : List xV} {ls : List (Option xV)} (he : ∀ k, xent as k = xlo ls k) (h : xT d mi 0 (xlo ls) [] ph g Q) : xTC d mi as ph g Q := by
  have e : xent as = xlo ls := funext he
  unfold xTC
  rw [e]; exact h
/-! ===== what an instruction does to a heap of this shape ===== -/
variable {zs : List xV} {a i ci k kd fin : Nat} {x y : Int} {K : Nat → xL → List xV → xH → Prop} {C : Nat → List xV → List xV → Prop} {Rt : Option xV → Prop} {Th : Nat → Prop} {z : Prop}
theorem hGetI (hs : hSh zs ph) (hx : xfld (xown mi) i = some (ci, k, kd, fin)) (ht : hTg a = ci) (hk : hKd ci k = 0) (hz : k < hSc ci) (hc : ci < 100) (K : Nat → xL → List xV → xH → Prop) (C : Nat → List xV → List xV → Prop) (Rt : Option xV → Prop) (Th : Nat → Prop) (z : Prop) : xop mi pc (.getfield i) lv (.inr (.inl (some a)) :: st) ph g K C Rt Th z = K (pc + 3) lv (.inl (hRd ph a k) :: st) ph := by
  obtain ⟨vs, h1, h2, h3⟩ := hSh_at hs (show hTg a < 104 by omega)
  have hl : k < vs.length := by rw [h2, hSz_c ht hc]; exact hz
  have h4 := h3 k vs[k] (List.getElem?_eq_getElem hl)
  unfold hOk at h4
  rw [ht, hk] at h4
  obtain ⟨w, hw⟩ := h4
  have h5 : vs[k]? = some (.inl w) := by rw [List.getElem?_eq_getElem hl, hw]
  simp only [xop, hx, h1, ht, if_true, h5, hRd]
theorem hGetC (hs : hSh zs ph) (hx : xfld (xown mi) i = some (ci, k, kd, fin)) (ht : hTg a = ci) (hk : hKd ci k = 5) (hz : k < hSc ci) (hc : ci < 100) (hv : hCs a = x) (K : Nat → xL → List xV → xH → Prop) (C : Nat → List xV → List xV → Prop) (Rt : Option xV → Prop) (Th : Nat → Prop) (z : Prop) : xop mi pc (.getfield i) lv (.inr (.inl (some a)) :: st) ph g K C Rt Th z = K (pc + 3) lv (.inl x :: st) ph := by
  obtain ⟨vs, h1, h2, h3⟩ := hSh_at hs (show hTg a < 104 by omega)
  have hl : k < vs.length := by rw [h2, hSz_c ht hc]; exact hz
  have h4 := h3 k vs[k] (List.getElem?_eq_getElem hl)
  unfold hOk at h4
  rw [ht, hk] at h4
  have h5 : vs[k]? = some (.inl x) := by rw [List.getElem?_eq_getElem hl, h4, hv]
  simp only [xop, hx, h1, ht, if_true, h5]
theorem hGetR {o : Option Nat} (hs : hSh zs ph) (hx : xfld (xown mi) i = some (ci, k, kd, fin)) (ht : hTg a = ci) (hk : hKd ci k = 2) (hz : k < hSc ci) (hc : ci < 100) (hv : hRf a k = o) (K : Nat → xL → List xV → xH → Prop) (C : Nat → List xV → List xV → Prop) (Rt : Option xV → Prop) (Th : Nat → Prop) (z : Prop) : xop mi pc (.getfield i) lv (.inr (.inl (some a)) :: st) ph g K C Rt Th z = K (pc + 3) lv (.inr (.inl o) :: st) ph := by
  obtain ⟨vs, h1, h2, h3⟩ := hSh_at hs (show hTg a < 104 by omega)
  have hl : k < vs.length := by rw [h2, hSz_c ht hc]; exact hz
  have h4 := h3 k vs[k] (List.getElem?_eq_getElem hl)
  unfold hOk at h4
  rw [ht, hk] at h4
  have h5 : vs[k]? = some (.inr (.inl o)) := by rw [List.getElem?_eq_getElem hl, h4, hv]
  simp only [xop, hx, h1, ht, if_true, h5]
theorem hGetL (hs : hSh zs ph) (hx : xfld (xown mi) i = some (ci, k, kd, fin)) (ht : hTg a = ci) (hk : hKd ci k = 3) (hz : k < hSc ci) (hc : ci < 100) (K : Nat → xL → List xV → xH → Prop) (C : Nat → List xV → List xV → Prop) (Rt : Option xV → Prop) (Th : Nat → Prop) (z : Prop) : xop mi pc (.getfield i) lv (.inr (.inl (some a)) :: st) ph g K C Rt Th z = K (pc + 3) lv (.inr (.inr (.inl (hRl ph a k))) :: st) ph := by
  obtain ⟨vs, h1, h2, h3⟩ := hSh_at hs (show hTg a < 104 by omega)
  have hl : k < vs.length := by rw [h2, hSz_c ht hc]; exact hz
  have h4 := h3 k vs[k] (List.getElem?_eq_getElem hl)
  unfold hOk at h4
  rw [ht, hk] at h4
  obtain ⟨w, hw⟩ := h4
  have h5 : vs[k]? = some (.inr (.inr (.inl w))) := by rw [List.getElem?_eq_getElem hl, hw]
  simp only [xop, hx, h1, ht, if_true, h5, hRl]
theorem hPutV {v : xV} (hs : hSh zs ph) (hx : xfld (xown mi) i = some (ci, k, kd, 0)) (ht : hTg a = ci) (hz : k < hSc ci) (hc : ci < 100) (hv : xkd kd v = true) (K : Nat → xL → List xV → xH → Prop) (C : Nat → List xV → List xV → Prop) (Rt : Option xV → Prop) (Th : Nat → Prop) (z : Prop) : xop mi pc (.putfield i) lv (v :: .inr (.inl (some a)) :: st) ph g K C Rt Th z = K (pc + 3) lv st (hPu ph a k v) := by
  obtain ⟨vs, h1, h2, h3⟩ := hSh_at hs (show hTg a < 104 by omega)
  have hl : k < vs.length := by rw [h2, hSz_c ht hc]; exact hz
  have e : hPu ph a k v = ph.set a (hTg a, vs.set k v) := by unfold hPu; rw [h1]
  rw [e]
  simp only [xop, hx, h1]
  rw [if_pos ⟨ht, hl, hv, Or.inl trivial⟩]
theorem hIald (hs : hSh zs ph) (ht : hTg a = 100) (h0 : 0 ≤ x) (h1 : x < hSz a) (K : Nat → xL → List xV → xH → Prop) (C : Nat → List xV → List xV → Prop) (Rt : Option xV → Prop) (Th : Nat → Prop) (z : Prop) : xop mi pc .iaload lv (.inl x :: .inr (.inl (some a)) :: st) ph g K C Rt Th z = K (pc + 1) lv (.inl (hRd ph a x.toNat) :: st) ph := by
  obtain ⟨vs, q1, q2, q3⟩ := hSh_at hs (show hTg a < 104 by omega)
  have hl : x.toNat < vs.length := by omega
  have h4 := q3 x.toNat vs[x.toNat] (List.getElem?_eq_getElem hl)
  unfold hOk at h4
  rw [ht] at h4
  obtain ⟨w, hw⟩ := h4
  have h5 : vs[x.toNat]? = some (.inl w) := by rw [List.getElem?_eq_getElem hl, hw]
  simp only [xop, q1, ht]
  rw [if_pos ⟨Or.inl trivial, h0⟩]
  simp only [h5, hRd, q1]
theorem hCald (hs : hSh zs ph) (ht : hTg a = 101) (h0 : 0 ≤ x) (h1 : x < hSz a) (K : Nat → xL → List xV → xH → Prop) (C : Nat → List xV → List xV → Prop) (Rt : Option xV → Prop) (Th : Nat → Prop) (z : Prop) : xop mi pc .caload lv (.inl x :: .inr (.inl (some a)) :: st) ph g K C Rt Th z = K (pc + 1) lv (.inl (hRd ph a x.toNat) :: st) ph := by
  obtain ⟨vs, q1, q2, q3⟩ := hSh_at hs (show hTg a < 104 by omega)
  have hl : x.toNat < vs.length := by omega
  have h4 := q3 x.toNat vs[x.toNat] (List.getElem?_eq_getElem hl)
  unfold hOk at h4
  rw [ht] at h4
  obtain ⟨w, hw, -⟩ := h4
  have h5 : vs[x.toNat]? = some (.inl w) := by rw [List.getElem?_eq_getElem hl, hw]
  simp only [xop, q1, ht]
  rw [if_pos ⟨trivial, h0⟩]
  simp only [h5, hRd, q1]
theorem hLald (hs : hSh zs ph) (ht : hTg a = 102) (h0 : 0 ≤ x) (h1 : x < hSz a) (K : Nat → xL → List xV → xH → Prop) (C : Nat → List xV → List xV → Prop) (Rt : Option xV → Prop) (Th : Nat → Prop) (z : Prop) : xop mi pc .laload lv (.inl x :: .inr (.inl (some a)) :: st) ph g K C Rt Th z = K (pc + 1) lv (.inr (.inr (.inl (hRl ph a x.toNat))) :: st) ph := by
  obtain ⟨vs, q1, q2, q3⟩ := hSh_at hs (show hTg a < 104 by omega)
  have hl : x.toNat < vs.length := by omega
  have h4 := q3 x.toNat vs[x.toNat] (List.getElem?_eq_getElem hl)
  unfold hOk at h4
  rw [ht] at h4
  obtain ⟨w, hw⟩ := h4
  have h5 : vs[x.toNat]? = some (.inr (.inr (.inl w))) := by rw [List.getElem?_eq_getElem hl, hw]
  simp only [xop, q1, ht]
  rw [if_pos ⟨trivial, h0⟩]
  simp only [h5, hRl, q1]
theorem hAald (hs : hSh zs ph) (ht : hTg a = 103) (h0 : 0 ≤ x) (h1 : x < hSz a) (K : Nat → xL → List xV → xH → Prop) (C : Nat → List xV → List xV → Prop) (Rt : Option xV → Prop) (Th : Nat → Prop) (z : Prop) : xop mi pc .aaload lv (.inl x :: .inr (.inl (some a)) :: st) ph g K C Rt Th z = K (pc + 1) lv (.inr (.inl (some (hRs ph a x.toNat))) :: st) ph := by
  obtain ⟨vs, q1, q2, q3⟩ := hSh_at hs (show hTg a < 104 by omega)
  have hl : x.toNat < vs.length := by omega
  have h4 := q3 x.toNat vs[x.toNat] (List.getElem?_eq_getElem hl)
  unfold hOk at h4
  rw [ht] at h4
  obtain ⟨w, hw, -⟩ := h4
  have h5 : vs[x.toNat]? = some (.inr (.inl (some w))) := by rw [List.getElem?_eq_getElem hl, hw]
  simp only [xop, q1, ht]
  rw [if_pos ⟨trivial, h0⟩]
  simp only [h5, hRs, q1]
theorem hRs_tg (hs : hSh zs ph) (ht : hTg a = 103) (hk : k < hSz a) : hTg (hRs ph a k) = 6 := by
  obtain ⟨vs, q1, q2, q3⟩ := hSh_at hs (show hTg a < 104 by omega)
  have hl : k < vs.length := by omega
  have h4 := q3 k vs[k] (List.getElem?_eq_getElem hl)
  unfold hOk at h4
  rw [ht] at h4
  obtain ⟨w, hw, h6⟩ := h4
  have h5 : vs[k]? = some (.inr (.inl (some w))) := by rw [List.getElem?_eq_getElem hl, hw]
  simp only [hRs, q1, h5]
  exact h6
theorem hIast (hs : hSh zs ph) (ht : hTg a = 100) (h0 : 0 ≤ x) (h1 : x < hSz a) (K : Nat → xL → List xV → xH → Prop) (C : Nat → List xV → List xV → Prop) (Rt : Option xV → Prop) (Th : Nat → Prop) (z : Prop) : xop mi pc .iastore lv (.inl y :: .inl x :: .inr (.inl (some a)) :: st) ph g K C Rt Th z = K (pc + 1) lv st (hUp ph a x.toNat y) := by
  obtain ⟨vs, q1, q2, q3⟩ := hSh_at hs (show hTg a < 104 by omega)
  have e : hUp ph a x.toNat y = ph.set a (hTg a, vs.set x.toNat (.inl y)) := by unfold hUp hPu; rw [q1]
  rw [e]
  simp only [xop, q1, ht]
  rw [if_pos ⟨trivial, h0, by omega⟩]
theorem hCast (hs : hSh zs ph) (ht : hTg a = 101) (h0 : 0 ≤ x) (h1 : x < hSz a) (hy : 0 ≤ y ∧ y ≤ 65535) (K : Nat → xL → List xV → xH → Prop) (C : Nat → List xV → List xV → Prop) (Rt : Option xV → Prop) (Th : Nat → Prop) (z : Prop) : xop mi pc .castore lv (.inl y :: .inl x :: .inr (.inl (some a)) :: st) ph g K C Rt Th z = K (pc + 1) lv st (hUp ph a x.toNat y) := by
  obtain ⟨vs, q1, q2, q3⟩ := hSh_at hs (show hTg a < 104 by omega)
  have e : hUp ph a x.toNat y = ph.set a (hTg a, vs.set x.toNat (.inl y)) := by unfold hUp hPu; rw [q1]
  rw [e]
  simp only [xop, q1, ht]
  rw [if_pos ⟨trivial, h0, by omega, hy.1, hy.2⟩]
theorem hLast {w : Int64} (hs : hSh zs ph) (ht : hTg a = 102) (h0 : 0 ≤ x) (h1 : x < hSz a) (K : Nat → xL → List xV → xH → Prop) (C : Nat → List xV → List xV → Prop) (Rt : Option xV → Prop) (Th : Nat → Prop) (z : Prop) : xop mi pc .lastore lv (.inr (.inr (.inl w)) :: .inl x :: .inr (.inl (some a)) :: st) ph g K C Rt Th z = K (pc + 1) lv st (hUl ph a x.toNat w) := by
  obtain ⟨vs, q1, q2, q3⟩ := hSh_at hs (show hTg a < 104 by omega)
  have e : hUl ph a x.toNat w = ph.set a (hTg a, vs.set x.toNat (.inr (.inr (.inl w)))) := by unfold hUl hPu; rw [q1]
  rw [e]
  simp only [xop, q1, ht]
  rw [if_pos ⟨trivial, h0, by omega⟩]
theorem hAast {v : Nat} (hs : hSh zs ph) (ht : hTg a = 103) (hv : hTg v = 6) (h0 : 0 ≤ x) (h1 : x < hSz a) (K : Nat → xL → List xV → xH → Prop) (C : Nat → List xV → List xV → Prop) (Rt : Option xV → Prop) (Th : Nat → Prop) (z : Prop) : xop mi pc .aastore lv (.inr (.inl (some v)) :: .inl x :: .inr (.inl (some a)) :: st) ph g K C Rt Th z = K (pc + 1) lv st (hUs ph a x.toNat v) := by
  obtain ⟨vs, q1, q2, q3⟩ := hSh_at hs (show hTg a < 104 by omega)
  obtain ⟨ws, w1, -⟩ := hSh_at hs (show hTg v < 104 by omega)
  have e : hUs ph a x.toNat v = ph.set a (hTg a, vs.set x.toNat (.inr (.inl (some v)))) := by unfold hUs hPu; rw [q1]
  rw [e]
  simp only [xop, q1, w1, ht, hv]
  rw [if_pos ⟨trivial, trivial, h0, by omega⟩]
theorem hSz_small {a : Nat} (h : hTg a < 104) : hSz a ≤ 16000 := by
  have h1 := hTg_all (fun a => decide (a = 0 ∨ hSz a ≤ 16000)) (by decide +kernel) (hTg_in h).2
  rcases of_decide_eq_true h1 with h2 | h2
  · exact absurd h2 (hTg_in h).1
  · exact h2
theorem hAlen (hs : hSh zs ph) (h1 : 100 ≤ hTg a) (h2 : hTg a < 104) (K : Nat → xL → List xV → xH → Prop) (C : Nat → List xV → List xV → Prop) (Rt : Option xV → Prop) (Th : Nat → Prop) (z : Prop) : xop mi pc .arraylength lv (.inr (.inl (some a)) :: st) ph g K C Rt Th z = K (pc + 1) lv (.inl (hSz a : Int) :: st) ph := by
  obtain ⟨vs, q1, q2, q3⟩ := hSh_at hs h2
  have h3 := hSz_small h2
  simp only [xop, q1]
  rw [if_pos ⟨h1, by omega⟩, q2]
theorem hSlen (hs : hSh zs ph) (hz : (zs.length : Int) ≤ 2147483647) (K : Nat → xL → List xV → xH → Prop) (C : Nat → List xV → List xV → Prop) (Rt : Option xV → Prop) (Th : Nat → Prop) (z : Prop) : xop mi pc .arraylength lv (.inr (.inl (some 0)) :: st) ph g K C Rt Th z = K (pc + 1) lv (.inl (zs.length : Int) :: st) ph := by
  simp only [xop, hs.2.1]
  rw [if_pos ⟨by decide, hz⟩]
theorem hSald {w : Int} (hs : hSh zs ph) (h0 : 0 ≤ x) (hw : zs[x.toNat]? = some (.inl w)) (K : Nat → xL → List xV → xH → Prop) (C : Nat → List xV → List xV → Prop) (Rt : Option xV → Prop) (Th : Nat → Prop) (z : Prop) : xop mi pc .iaload lv (.inl x :: .inr (.inl (some 0)) :: st) ph g K C Rt Th z = K (pc + 1) lv (.inl w :: st) ph := by
  simp only [xop, hs.2.1]
  rw [if_pos ⟨Or.inr trivial, h0⟩]
  simp only [hw]
theorem hAdd (h : xin (x + y)) (K : Nat → xL → List xV → xH → Prop) (C : Nat → List xV → List xV → Prop) (Rt : Option xV → Prop) (Th : Nat → Prop) (z : Prop) : xop mi pc .iadd lv (.inl y :: .inl x :: st) ph g K C Rt Th z = K (pc + 1) lv (.inl (x + y) :: st) ph := by
  simp only [xop]; rw [if_pos h]
theorem hSub (h : xin (x - y)) (K : Nat → xL → List xV → xH → Prop) (C : Nat → List xV → List xV → Prop) (Rt : Option xV → Prop) (Th : Nat → Prop) (z : Prop) : xop mi pc .isub lv (.inl y :: .inl x :: st) ph g K C Rt Th z = K (pc + 1) lv (.inl (x - y) :: st) ph := by
  simp only [xop]; rw [if_pos h]
theorem hMul (h : xin (x * y)) (K : Nat → xL → List xV → xH → Prop) (C : Nat → List xV → List xV → Prop) (Rt : Option xV → Prop) (Th : Nat → Prop) (z : Prop) : xop mi pc .imul lv (.inl y :: .inl x :: st) ph g K C Rt Th z = K (pc + 1) lv (.inl (x * y) :: st) ph := by
  simp only [xop]; rw [if_pos h]
theorem hDiv (h : 0 ≤ x ∧ 0 < y) (K : Nat → xL → List xV → xH → Prop) (C : Nat → List xV → List xV → Prop) (Rt : Option xV → Prop) (Th : Nat → Prop) (z : Prop) : xop mi pc .idiv lv (.inl y :: .inl x :: st) ph g K C Rt Th z = K (pc + 1) lv (.inl (x / y) :: st) ph := by
  simp only [xop]; rw [if_pos h]
theorem hRem (h : 0 ≤ x ∧ 0 < y) (K : Nat → xL → List xV → xH → Prop) (C : Nat → List xV → List xV → Prop) (Rt : Option xV → Prop) (Th : Nat → Prop) (z : Prop) : xop mi pc .irem lv (.inl y :: .inl x :: st) ph g K C Rt Th z = K (pc + 1) lv (.inl (x % y) :: st) ph := by
  simp only [xop]; rw [if_pos h]
theorem hI2c (h : 0 ≤ x ∧ x ≤ 65535) (K : Nat → xL → List xV → xH → Prop) (C : Nat → List xV → List xV → Prop) (Rt : Option xV → Prop) (Th : Nat → Prop) (z : Prop) : xop mi pc .i2c lv (.inl x :: st) ph g K C Rt Th z = K (pc + 1) lv (.inl x :: st) ph := by
  simp only [xop]; rw [if_pos h]
theorem hIinc {n : Int} (hl : lv k = some (.inl x)) (hm : k < xmaxL mi) (h : xin (x + n)) (K : Nat → xL → List xV → xH → Prop) (C : Nat → List xV → List xV → Prop) (Rt : Option xV → Prop) (Th : Nat → Prop) (z : Prop) : xop mi pc (.iinc k n) lv st ph g K C Rt Th z = K (pc + 3) (xset lv k (.inl (x + n))) st ph := by
  simp only [xop, hl]; rw [if_pos ⟨h, hm⟩]
theorem hStI {kf : Fin 4} {ls ls' : List (Option xV)} {v : xV} (hm : (kf : Nat) < xmaxL mi) (hl : ∀ j, xset (xlo ls) kf v j = xlo ls' j) : xset (xlo ls) kf v = xlo ls' := funext hl
end HST
end
section
/-! ===== more steps: locals, calls ===== -/
def hLs : List (Option xV) → Nat → xV → List (Option xV)
  | [], _, _ => []
  | _ :: t, 0, v => some v :: t
  | o :: t, 1, v => xno2 o :: (match t with
    | [] => []
    | _ :: t' => some v :: t')
  | o :: t, k + 2, v => o :: hLs t (k + 1) v
def hLs2 : List (Option xV) → Nat → xV → List (Option xV)
  | [], _, _ => []
  | _ :: t, 0, v => some v :: (match t with
    | [] => []
    | _ :: t' => none :: t')
  | o :: t, 1, v => xno2 o :: (match t with
    | [] => []
    | _ :: t' => some v :: (match t' with
      | [] => []
      | _ :: t'' => none :: t''))
  | o :: t, k + 2, v => o :: hLs2 t (k + 1) v
theorem xlo_0 (o : Option xV) (t : List (Option xV)) : xlo (o :: t) 0 = o := rfl
theorem xlo_s (o : Option xV) (t : List (Option xV)) (k : Nat) : xlo (o :: t) (k + 1) = xlo t k := rfl
theorem xno2_n (o : Option xV) : (match o with
  | some (.inr (.inr _)) => none
  | o => o) = xno2 o := by
  unfold xno2
  rfl
theorem hLs_ok : ∀ (ls : List (Option xV)) (k : Nat) (v : xV), k < ls.length → xset (xlo ls) k v = xlo (hLs ls k v) := by
  intro ls
  induction ls with
  | nil => intro k v h; simp at h
  | cons o t ih =>
    intro k v h
    match k, h with
    | 0, _ =>
      funext j
      cases j with
      | zero => rfl
      | succ j =>
        show (if j + 1 = 0 then some v else if j + 1 + 1 = 0 then xno2 (xlo (o :: t) (j + 1)) else xlo (o :: t) (j + 1)) = xlo t j
        rw [if_neg (by omega), if_neg (by omega)]
        rfl
    | 1, h =>
      cases t with
      | nil => simp at h
      | cons o2 t2 =>
        funext j
        match j with
        | 0 => rfl
        | 1 => rfl
        | j + 2 =>
          show (if j + 2 = 1 then some v else if j + 2 + 1 = 1 then xno2 (xlo (o :: o2 :: t2) (j + 2)) else xlo (o :: o2 :: t2) (j + 2)) = xlo t2 j
          rw [if_neg (by omega), if_neg (by omega)]
          rfl
    | k + 2, h =>
      have h2 := ih (k + 1) v (by simp only [List.length_cons] at h; omega)
      funext j
      cases j with
      | zero =>
        show (if 0 = k + 2 then some v else if 0 + 1 = k + 2 then xno2 (xlo (o :: t) 0) else xlo (o :: t) 0) = o
        rw [if_neg (by omega), if_neg (by omega)]
        rfl
      | succ j =>
        have h3 := congrFun h2 j
        show (if j + 1 = k + 2 then some v else if j + 1 + 1 = k + 2 then xno2 (xlo (o :: t) (j + 1)) else xlo (o :: t) (j + 1)) = xlo (hLs t (k + 1) v) j
        rw [← h3]
        show _ = (if j = k + 1 then some v else if j + 1 = k + 1 then xno2 (xlo t j) else xlo t j)
        rw [xlo_s]
        by_cases e1 : j = k + 1
        · rw [if_pos (by omega), if_pos e1]
        · rw [if_neg (by omega), if_neg e1]
          by_cases e2 : j + 1 = k + 1
          · rw [if_pos (by omega), if_pos e2]
          · rw [if_neg (by omega), if_neg e2]
theorem hLs2_ok : ∀ (ls : List (Option xV)) (k : Nat) (v : xV), k + 1 < ls.length → xset2 (xlo ls) k v = xlo (hLs2 ls k v) := by
  intro ls
  induction ls with
  | nil => intro k v h; simp at h
  | cons o t ih =>
    intro k v h
    match k, h with
    | 0, h =>
      cases t with
      | nil => simp at h
      | cons o2 t2 =>
        funext j
        match j with
        | 0 => rfl
        | 1 => rfl
        | j + 2 =>
          show (if j + 2 = 0 then some v else if j + 2 = 0 + 1 then none else if j + 2 + 1 = 0 then xno2 (xlo (o :: o2 :: t2) (j + 2)) else xlo (o :: o2 :: t2) (j + 2)) = xlo t2 j
          rw [if_neg (by omega), if_neg (by omega), if_neg (by omega)]
          rfl
    | 1, h =>
      match t, h with
      | [], h => simp at h
      | [_], h => simp at h
      | o2 :: o3 :: t3, h =>
        funext j
        match j with
        | 0 => rfl
        | 1 => rfl
        | 2 => rfl
        | j + 3 =>
          show (if j + 3 = 1 then some v else if j + 3 = 1 + 1 then none else if j + 3 + 1 = 1 then xno2 (xlo (o :: o2 :: o3 :: t3) (j + 3)) else xlo (o :: o2 :: o3 :: t3) (j + 3)) = xlo t3 j
          rw [if_neg (by omega), if_neg (by omega), if_neg (by omega)]
          rfl
    | k + 2, h =>
      have h2 := ih (k + 1) v (by simp only [List.length_cons] at h; omega)
      funext j
      cases j with
      | zero =>
        show (if 0 = k + 2 then some v else if 0 = k + 2 + 1 then none else if 0 + 1 = k + 2 then xno2 (xlo (o :: t) 0) else xlo (o :: t) 0) = o
        rw [if_neg (by omega), if_neg (by omega), if_neg (by omega)]
        rfl
      | succ j =>
        have h3 := congrFun h2 j
        show (if j + 1 = k + 2 then some v else if j + 1 = k + 2 + 1 then none else if j + 1 + 1 = k + 2 then xno2 (xlo (o :: t) (j + 1)) else xlo (o :: t) (j + 1)) = xlo (hLs2 t (k + 1) v) j
        rw [← h3]
        show _ = (if j = k + 1 then some v else if j = k + 1 + 1 then none else if j + 1 = k + 1 then xno2 (xlo t j) else xlo t j)
        rw [xlo_s]
        by_cases e1 : j = k + 1
        · rw [if_pos (by omega), if_pos e1]
        · rw [if_neg (by omega), if_neg e1]
          by_cases e3 : j = k + 1 + 1
          · rw [if_pos (by omega), if_pos e3]
          · rw [if_neg (by omega), if_neg e3]
            by_cases e2 : j + 1 = k + 1
            · rw [if_pos (by omega), if_pos e2]
            · rw [if_neg (by omega), if_neg e2]
section HST2
variable {d mi pc pc' : Nat} {lv lv' : xL} {st st' : List xV} {ph ph' : xH} {g : Nat} {Q : xR → Prop} {op : Instr} {l : List (Nat × Instr)}
theorem tSt {ls : List (Option xV)} {k : Nat} {v : xV} (hc : xcode[mi]? = some l) (hf : xfind l pc = some op) (he : ∀ (K : Nat → xL → List xV → xH → Prop) (C : Nat → List xV → List xV → Prop) (Rt : Option xV → Prop) (Th : Nat → Prop) (z : Prop), xop mi pc op (xlo ls) st ph g K C Rt Th z = K pc' (xset (xlo ls) k v) st' ph') (hk : k + 1 ≤ ls.length) (h : xT d mi pc' (xlo (hLs ls k v)) st' ph' g Q) : xT d mi pc (xlo ls) st ph g Q :=
  tK hc hf he (by rw [hLs_ok ls k v hk]; exact h)
theorem tSt2 {ls : List (Option xV)} {k : Nat} {v : xV} (hc : xcode[mi]? = some l) (hf : xfind l pc = some op) (he : ∀ (K : Nat → xL → List xV → xH → Prop) (C : Nat → List xV → List xV → Prop) (Rt : Option xV → Prop) (Th : Nat → Prop) (z : Prop), xop mi pc op (xlo ls) st ph g K C Rt Th z = K pc' (xset2 (xlo ls) k v) st' ph') (hk : k + 2 ≤ ls.length) (h : xT d mi pc' (xlo (hLs2 ls k v)) st' ph' g Q) : xT d mi pc (xlo ls) st ph g Q :=
  tK hc hf he (by rw [hLs2_ok ls k v hk]; exact h)
theorem tKv {v : xV} {rest : List xV} (h : xT d mi (pc + 3) lv (v :: rest) ph g Q) : xKc d mi pc lv rest Q (.inl (some v), ph, g) := h
theorem tKn {rest : List xV} (h : xT d mi (pc + 3) lv rest ph g Q) : xKc d mi pc lv rest Q (.inl none, ph, g) := h
theorem tKx {E : Nat} {rest : List xV} (hh : xhh mi = []) (h : Q (.inr E, ph, g)) : xKc d mi pc lv rest Q (.inr E, ph, g) := by
  have e : xhan mi pc E = none := by unfold xhan; rw [hh]; rfl
  show (match xhan mi pc E with
    | some (pc', k) => xT d mi pc' (xclr lv k) [] ph g Q
    | none => Q (.inr E, ph, g))
  rw [e]; exact h
variable {zs : List xV} {a i c mi' : Nat} {as rest st0 : List xV}
theorem hInvV (hs : hSh zs ph) (hcal : xcal (xown mi) i = some mi') (hpop : xpop (xnp mi') st0 = some (as, .inr (.inl (some a)) :: rest)) (ho : xown mi' = c) (ht : hTg a = c) (hk : xsk mi' = 0) (hr : rest.length ≤ 4) (hz : xasz (.inr (.inl (some a)) :: as) ≤ xmaxL mi') (K : Nat → xL → List xV → xH → Prop) (C : Nat → List xV → List xV → Prop) (Rt : Option xV → Prop) (Th : Nat → Prop) (z : Prop) : xop mi pc (.invokevirtual i) lv st0 ph g K C Rt Th z = C mi' (.inr (.inl (some a)) :: as) rest := by
  have h104 : hTg a < 104 := by
    have h9 : ∀ mi, mi < 262 → xown mi < 104 := by decide +kernel
    by_cases hm : mi' < 262
    · have := h9 mi' hm; omega
    · exfalso
      have e : xmt[mi']? = none := List.getElem?_eq_none (by have : xmt.length = 262 := by decide +kernel
                                                             omega)
      unfold xsk at hk
      rw [e] at hk
      cases hk
  obtain ⟨vs, q1, -⟩ := hSh_at hs h104
  simp only [xop, hcal, hpop, q1]
  rw [if_pos ⟨by rw [ht, ho], hk, hr, hz⟩]
theorem hInvS (hm : xmat (xown mi) i = none) (hcal : xcal (xown mi) i = some mi') (hpop : xpop (xnp mi') st0 = some (as, rest)) (hk : xsk mi' = 1) (hr : rest.length ≤ 4) (hz : xasz as ≤ xmaxL mi') (K : Nat → xL → List xV → xH → Prop) (C : Nat → List xV → List xV → Prop) (Rt : Option xV → Prop) (Th : Nat → Prop) (z : Prop) : xop mi pc (.invokestatic i) lv st0 ph g K C Rt Th z = C mi' as rest := by
  simp only [xop, hm, hcal, hpop]
  rw [if_pos ⟨hk, hr, hz⟩]
end HST2
section HNN
variable {mi pc g n a v : Nat} {lv : xL} {st : List xV} {ph : xH} {zs : List xV} {x y : Int} {w : Int64}
theorem hIaldN (hs : hSh zs ph) (ht : hTg a = 100) (hx : x = (n : Int)) (h1 : n < hSz a) (K : Nat → xL → List xV → xH → Prop) (C : Nat → List xV → List xV → Prop) (Rt : Option xV → Prop) (Th : Nat → Prop) (z : Prop) : xop mi pc .iaload lv (.inl x :: .inr (.inl (some a)) :: st) ph g K C Rt Th z = K (pc + 1) lv (.inl (hRd ph a n) :: st) ph := by
  subst hx; exact hIald hs ht (by omega) (by omega) K C Rt Th z
theorem hCaldN (hs : hSh zs ph) (ht : hTg a = 101) (hx : x = (n : Int)) (h1 : n < hSz a) (K : Nat → xL → List xV → xH → Prop) (C : Nat → List xV → List xV → Prop) (Rt : Option xV → Prop) (Th : Nat → Prop) (z : Prop) : xop mi pc .caload lv (.inl x :: .inr (.inl (some a)) :: st) ph g K C Rt Th z = K (pc + 1) lv (.inl (hRd ph a n) :: st) ph := by
  subst hx; exact hCald hs ht (by omega) (by omega) K C Rt Th z
theorem hLaldN (hs : hSh zs ph) (ht : hTg a = 102) (hx : x = (n : Int)) (h1 : n < hSz a) (K : Nat → xL → List xV → xH → Prop) (C : Nat → List xV → List xV → Prop) (Rt : Option xV → Prop) (Th : Nat → Prop) (z : Prop) : xop mi pc .laload lv (.inl x :: .inr (.inl (some a)) :: st) ph g K C Rt Th z = K (pc + 1) lv (.inr (.inr (.inl (hRl ph a n))) :: st) ph := by
  subst hx; exact hLald hs ht (by omega) (by omega) K C Rt Th z
theorem hAaldN (hs : hSh zs ph) (ht : hTg a = 103) (hx : x = (n : Int)) (h1 : n < hSz a) (K : Nat → xL → List xV → xH → Prop) (C : Nat → List xV → List xV → Prop) (Rt : Option xV → Prop) (Th : Nat → Prop) (z : Prop) : xop mi pc .aaload lv (.inl x :: .inr (.inl (some a)) :: st) ph g K C Rt Th z = K (pc + 1) lv (.inr (.inl (some (hRs ph a n))) :: st) ph := by
  subst hx; exact hAald hs ht (by omega) (by omega) K C Rt Th z
theorem hIastN (hs : hSh zs ph) (ht : hTg a = 100) (hx : x = (n : Int)) (h1 : n < hSz a) (K : Nat → xL → List xV → xH → Prop) (C : Nat → List xV → List xV → Prop) (Rt : Option xV → Prop) (Th : Nat → Prop) (z : Prop) : xop mi pc .iastore lv (.inl y :: .inl x :: .inr (.inl (some a)) :: st) ph g K C Rt Th z = K (pc + 1) lv st (hUp ph a n y) := by
  subst hx; exact hIast hs ht (by omega) (by omega) K C Rt Th z
theorem hCastN (hs : hSh zs ph) (ht : hTg a = 101) (hx : x = (n : Int)) (h1 : n < hSz a) (hy : 0 ≤ y ∧ y ≤ 65535) (K : Nat → xL → List xV → xH → Prop) (C : Nat → List xV → List xV → Prop) (Rt : Option xV → Prop) (Th : Nat → Prop) (z : Prop) : xop mi pc .castore lv (.inl y :: .inl x :: .inr (.inl (some a)) :: st) ph g K C Rt Th z = K (pc + 1) lv st (hUp ph a n y) := by
  subst hx; exact hCast hs ht (by omega) (by omega) hy K C Rt Th z
theorem hLastN (hs : hSh zs ph) (ht : hTg a = 102) (hx : x = (n : Int)) (h1 : n < hSz a) (K : Nat → xL → List xV → xH → Prop) (C : Nat → List xV → List xV → Prop) (Rt : Option xV → Prop) (Th : Nat → Prop) (z : Prop) : xop mi pc .lastore lv (.inr (.inr (.inl w)) :: .inl x :: .inr (.inl (some a)) :: st) ph g K C Rt Th z = K (pc + 1) lv st (hUl ph a n w) := by
  subst hx; exact hLast hs ht (by omega) (by omega) K C Rt Th z
theorem hAastN (hs : hSh zs ph) (ht : hTg a = 103) (hv : hTg v = 6) (hx : x = (n : Int)) (h1 : n < hSz a) (K : Nat → xL → List xV → xH → Prop) (C : Nat → List xV → List xV → Prop) (Rt : Option xV → Prop) (Th : Nat → Prop) (z : Prop) : xop mi pc .aastore lv (.inr (.inl (some v)) :: .inl x :: .inr (.inl (some a)) :: st) ph g K C Rt Th z = K (pc + 1) lv st (hUs ph a n v) := by
  subst hx; exact hAast hs ht hv (by omega) (by omega) K C Rt Th z
end HNN
theorem hShI1 {zs : List xV} {ph : xH} {a k t : Nat} (x : Int) (hs : hSh zs ph) (ht : hTg a = t) (hk : hKd t k = 0) : hSh zs (hUp ph a k x) := hShI x hs (by rw [ht]; exact hk)
theorem hShC1 {zs : List xV} {ph : xH} {a k t : Nat} (x : Int) (hs : hSh zs ph) (ht : hTg a = t) (hk : hKd t k = 6) (hx : 0 ≤ x ∧ x ≤ 65535) : hSh zs (hUp ph a k x) := hShC x hs (by rw [ht]; exact hk) hx
theorem hShL1 {zs : List xV} {ph : xH} {a k t : Nat} (x : Int64) (hs : hSh zs ph) (ht : hTg a = t) (hk : hKd t k = 3) : hSh zs (hUl ph a k x) := hShL x hs (by rw [ht]; exact hk)
theorem hShS1 {zs : List xV} {ph : xH} {a k t : Nat} (x : Nat) (hs : hSh zs ph) (ht : hTg a = t) (hk : hKd t k = 4) (hx : hTg x = 6) : hSh zs (hUs ph a k x) := hShS hs (by rw [ht]; exact hk) hx
theorem hAlen1 {mi pc g : Nat} {lv : xL} {st : List xV} {ph : xH} {zs : List xV} {a t : Nat} (hs : hSh zs ph) (ht : hTg a = t) (h1 : 100 ≤ t) (h2 : t < 104) (K : Nat → xL → List xV → xH → Prop) (C : Nat → List xV → List xV → Prop) (Rt : Option xV → Prop) (Th : Nat → Prop) (z : Prop) : xop mi pc .arraylength lv (.inr (.inl (some a)) :: st) ph g K C Rt Th z = K (pc + 1) lv (.inl (hSz a : Int) :: st) ph := hAlen hs (by omega) (by omega) K C Rt Th z
/-! ===== what stands beside what ===== -/
theorem hrf_8_1 {a : Nat} (h : hTg a = 8) : hRf a 1 = some (a + 1) := by unfold hRf; rw [h]; rfl
theorem htg_8_1 {a : Nat} (h : hTg a = 8) : hTg (a + 1) = 101 := of_decide_eq_true (hTg_all (fun a => decide (hTg a = 8 → hTg (a + 1) = 101)) (by decide +kernel) (hTg_in (by omega : hTg a < 104)).2) h
theorem hrf_8_2 {a : Nat} (h : hTg a = 8) : hRf a 2 = some (a + 2) := by unfold hRf; rw [h]; rfl
theorem htg_8_2 {a : Nat} (h : hTg a = 8) : hTg (a + 2) = 100 := of_decide_eq_true (hTg_all (fun a => decide (hTg a = 8 → hTg (a + 2) = 100)) (by decide +kernel) (hTg_in (by omega : hTg a < 104)).2) h
theorem hrf_7_2 {a : Nat} (h : hTg a = 7) : hRf a 2 = some (a + 1) := by unfold hRf; rw [h]; rfl
theorem htg_7_2 {a : Nat} (h : hTg a = 7) : hTg (a + 1) = 100 := of_decide_eq_true (hTg_all (fun a => decide (hTg a = 7 → hTg (a + 1) = 100)) (by decide +kernel) (hTg_in (by omega : hTg a < 104)).2) h
theorem hrf_7_3 {a : Nat} (h : hTg a = 7) : hRf a 3 = some (a + 2) := by unfold hRf; rw [h]; rfl
theorem htg_7_3 {a : Nat} (h : hTg a = 7) : hTg (a + 2) = 100 := of_decide_eq_true (hTg_all (fun a => decide (hTg a = 7 → hTg (a + 2) = 100)) (by decide +kernel) (hTg_in (by omega : hTg a < 104)).2) h
theorem hrf_7_4 {a : Nat} (h : hTg a = 7) : hRf a 4 = some (a + 3) := by unfold hRf; rw [h]; rfl
theorem htg_7_4 {a : Nat} (h : hTg a = 7) : hTg (a + 3) = 100 := of_decide_eq_true (hTg_all (fun a => decide (hTg a = 7 → hTg (a + 3) = 100)) (by decide +kernel) (hTg_in (by omega : hTg a < 104)).2) h
theorem hrf_7_5 {a : Nat} (h : hTg a = 7) : hRf a 5 = some (a + 4) := by unfold hRf; rw [h]; rfl
theorem htg_7_5 {a : Nat} (h : hTg a = 7) : hTg (a + 4) = 100 := of_decide_eq_true (hTg_all (fun a => decide (hTg a = 7 → hTg (a + 4) = 100)) (by decide +kernel) (hTg_in (by omega : hTg a < 104)).2) h
theorem hrf_7_6 {a : Nat} (h : hTg a = 7) : hRf a 6 = some (a + 5) := by unfold hRf; rw [h]; rfl
theorem htg_7_6 {a : Nat} (h : hTg a = 7) : hTg (a + 5) = 100 := of_decide_eq_true (hTg_all (fun a => decide (hTg a = 7 → hTg (a + 5) = 100)) (by decide +kernel) (hTg_in (by omega : hTg a < 104)).2) h
theorem hrf_7_7 {a : Nat} (h : hTg a = 7) : hRf a 7 = some (a + 6) := by unfold hRf; rw [h]; rfl
theorem htg_7_7 {a : Nat} (h : hTg a = 7) : hTg (a + 6) = 100 := of_decide_eq_true (hTg_all (fun a => decide (hTg a = 7 → hTg (a + 6) = 100)) (by decide +kernel) (hTg_in (by omega : hTg a < 104)).2) h
theorem hrf_3_0 {a : Nat} (h : hTg a = 3) : hRf a 0 = some (a + 1) := by unfold hRf; rw [h]; rfl
theorem htg_3_0 {a : Nat} (h : hTg a = 3) : hTg (a + 1) = 8 := of_decide_eq_true (hTg_all (fun a => decide (hTg a = 3 → hTg (a + 1) = 8)) (by decide +kernel) (hTg_in (by omega : hTg a < 104)).2) h
theorem hrf_3_1 {a : Nat} (h : hTg a = 3) : hRf a 1 = some (a + 4) := by unfold hRf; rw [h]; rfl
theorem htg_3_1 {a : Nat} (h : hTg a = 3) : hTg (a + 4) = 100 := of_decide_eq_true (hTg_all (fun a => decide (hTg a = 3 → hTg (a + 4) = 100)) (by decide +kernel) (hTg_in (by omega : hTg a < 104)).2) h
theorem hrf_6_0 {a : Nat} (h : hTg a = 6) : hRf a 0 = some (a + 1) := by unfold hRf; rw [h]; rfl
theorem htg_6_0 {a : Nat} (h : hTg a = 6) : hTg (a + 1) = 8 := of_decide_eq_true (hTg_all (fun a => decide (hTg a = 6 → hTg (a + 1) = 8)) (by decide +kernel) (hTg_in (by omega : hTg a < 104)).2) h
theorem hrf_6_1 {a : Nat} (h : hTg a = 6) : hRf a 1 = some (a + 4) := by unfold hRf; rw [h]; rfl
theorem htg_6_1 {a : Nat} (h : hTg a = 6) : hTg (a + 4) = 3 := of_decide_eq_true (hTg_all (fun a => decide (hTg a = 6 → hTg (a + 4) = 3)) (by decide +kernel) (hTg_in (by omega : hTg a < 104)).2) h
theorem hTx_sz {a : Nat} (h : hTg a = 8) : hSz (a + 1) = hRw a * hWd a ∧ hSz (a + 2) = hRw a ∧ hRw a ≤ 410 ∧ 0 < hRw a ∧ hWd a ≤ 200 ∧ 0 < hWd a ∧ hRw a * hWd a ≤ 9840 := of_decide_eq_true (hTg_all (fun a => decide (hTg a = 8 → hSz (a + 1) = hRw a * hWd a ∧ hSz (a + 2) = hRw a ∧ hRw a ≤ 410 ∧ 0 < hRw a ∧ hWd a ≤ 200 ∧ 0 < hWd a ∧ hRw a * hWd a ≤ 9840)) (by decide +kernel) (hTg_in (by omega : hTg a < 104)).2) h
theorem hCs_8 {a : Nat} (h : hTg a = 8) : hCs a = (hWd a : Int) := by unfold hCs; rw [if_pos h]
theorem hTp_sz {a : Nat} (h : hTg a = 7) : hSz (a + 1) = 60 ∧ hSz (a + 2) = 60 ∧ hSz (a + 3) = 60 ∧ hSz (a + 4) = 60 ∧ hSz (a + 5) = 60 ∧ hSz (a + 6) = 60 := of_decide_eq_true (hTg_all (fun a => decide (hTg a = 7 → hSz (a + 1) = 60 ∧ hSz (a + 2) = 60 ∧ hSz (a + 3) = 60 ∧ hSz (a + 4) = 60 ∧ hSz (a + 5) = 60 ∧ hSz (a + 6) = 60)) (by decide +kernel) (hTg_in (by omega : hTg a < 104)).2) h
theorem hCs_7 {a : Nat} (h : hTg a = 7) : hCs a = (hLv a : Int) := by unfold hCs; rw [if_neg (by omega)]
theorem hOc_sz {a : Nat} (h : hTg a = 3) : hSz (a + 4) = 5 ∧ hWd (a + 1) = 200 ∧ hRw (a + 1) = 1 := of_decide_eq_true (hTg_all (fun a => decide (hTg a = 3 → hSz (a + 4) = 5 ∧ hWd (a + 1) = 200 ∧ hRw (a + 1) = 1)) (by decide +kernel) (hTg_in (by omega : hTg a < 104)).2) h
theorem hSt_sz {a : Nat} (h : hTg a = 6) : hWd (a + 1) = 24 ∧ hRw (a + 1) = 8 := of_decide_eq_true (hTg_all (fun a => decide (hTg a = 6 → hWd (a + 1) = 24 ∧ hRw (a + 1) = 8)) (by decide +kernel) (hTg_in (by omega : hTg a < 104)).2) h
section HBR
variable {d mi pc pc' : Nat} {lv : xL} {st : List xV} {ph : xH} {g : Nat} {Q : xR → Prop} {l : List (Nat × Instr)} {x y off : Int}
theorem tIf_eq (hc : xcode[mi]? = some l) (hf : xfind l pc = some (.ifCond .eq off)) (hp : xpc pc off = pc') (h1 : x = 0 → xT d mi pc' lv st ph g Q) (h2 : ¬ x = 0 → xT d mi (pc + 3) lv st ph g Q) : xT d mi pc lv (.inl x :: st) ph g Q := by
  have hf' : xfetch mi pc = some (.ifCond .eq off) := by unfold xfetch; rw [hc]; exact hf
  rw [xT_op hf']
  simp only [xop, xcmp, hp]
  by_cases h : x = 0
  · rw [if_pos h]; exact h1 h
  · rw [if_neg h]; exact h2 h
theorem tIc_eq (hc : xcode[mi]? = some l) (hf : xfind l pc = some (.if_icmp .eq off)) (hp : xpc pc off = pc') (h1 : x = y → xT d mi pc' lv st ph g Q) (h2 : ¬ x = y → xT d mi (pc + 3) lv st ph g Q) : xT d mi pc lv (.inl y :: .inl x :: st) ph g Q := by
  have hf' : xfetch mi pc = some (.if_icmp .eq off) := by unfold xfetch; rw [hc]; exact hf
  rw [xT_op hf']
  simp only [xop, xcmp, hp]
  by_cases h : x = y
  · rw [if_pos h]; exact h1 h
  · rw [if_neg h]; exact h2 h
theorem tIf_ne (hc : xcode[mi]? = some l) (hf : xfind l pc = some (.ifCond .ne off)) (hp : xpc pc off = pc') (h1 : x = 0 → xT d mi (pc + 3) lv st ph g Q) (h2 : ¬ x = 0 → xT d mi pc' lv st ph g Q) : xT d mi pc lv (.inl x :: st) ph g Q := by
  have hf' : xfetch mi pc = some (.ifCond .ne off) := by unfold xfetch; rw [hc]; exact hf
  rw [xT_op hf']
  simp only [xop, xcmp, hp]
  by_cases h : x = 0
  · rw [if_pos h]; exact h1 h
  · rw [if_neg h]; exact h2 h
theorem tIc_ne (hc : xcode[mi]? = some l) (hf : xfind l pc = some (.if_icmp .ne off)) (hp : xpc pc off = pc') (h1 : x = y → xT d mi (pc + 3) lv st ph g Q) (h2 : ¬ x = y → xT d mi pc' lv st ph g Q) : xT d mi pc lv (.inl y :: .inl x :: st) ph g Q := by
  have hf' : xfetch mi pc = some (.if_icmp .ne off) := by unfold xfetch; rw [hc]; exact hf
  rw [xT_op hf']
  simp only [xop, xcmp, hp]
  by_cases h : x = y
  · rw [if_pos h]; exact h1 h
  · rw [if_neg h]; exact h2 h
theorem tIf_lt (hc : xcode[mi]? = some l) (hf : xfind l pc = some (.ifCond .lt off)) (hp : xpc pc off = pc') (h1 : x < 0 → xT d mi pc' lv st ph g Q) (h2 : ¬ x < 0 → xT d mi (pc + 3) lv st ph g Q) : xT d mi pc lv (.inl x :: st) ph g Q := by
  have hf' : xfetch mi pc = some (.ifCond .lt off) := by unfold xfetch; rw [hc]; exact hf
  rw [xT_op hf']
  simp only [xop, xcmp, hp]
  by_cases h : x < 0
  · rw [if_pos h]; exact h1 h
  · rw [if_neg h]; exact h2 h
theorem tIc_lt (hc : xcode[mi]? = some l) (hf : xfind l pc = some (.if_icmp .lt off)) (hp : xpc pc off = pc') (h1 : x < y → xT d mi pc' lv st ph g Q) (h2 : ¬ x < y → xT d mi (pc + 3) lv st ph g Q) : xT d mi pc lv (.inl y :: .inl x :: st) ph g Q := by
  have hf' : xfetch mi pc = some (.if_icmp .lt off) := by unfold xfetch; rw [hc]; exact hf
  rw [xT_op hf']
  simp only [xop, xcmp, hp]
  by_cases h : x < y
  · rw [if_pos h]; exact h1 h
  · rw [if_neg h]; exact h2 h
theorem tIf_ge (hc : xcode[mi]? = some l) (hf : xfind l pc = some (.ifCond .ge off)) (hp : xpc pc off = pc') (h1 : x < 0 → xT d mi (pc + 3) lv st ph g Q) (h2 : ¬ x < 0 → xT d mi pc' lv st ph g Q) : xT d mi pc lv (.inl x :: st) ph g Q := by
  have hf' : xfetch mi pc = some (.ifCond .ge off) := by unfold xfetch; rw [hc]; exact hf
  rw [xT_op hf']
  simp only [xop, xcmp, hp]
  by_cases h : x < 0
  · rw [if_pos h]; exact h1 h
  · rw [if_neg h]; exact h2 h
theorem tIc_ge (hc : xcode[mi]? = some l) (hf : xfind l pc = some (.if_icmp .ge off)) (hp : xpc pc off = pc') (h1 : x < y → xT d mi (pc + 3) lv st ph g Q) (h2 : ¬ x < y → xT d mi pc' lv st ph g Q) : xT d mi pc lv (.inl y :: .inl x :: st) ph g Q := by
  have hf' : xfetch mi pc = some (.if_icmp .ge off) := by unfold xfetch; rw [hc]; exact hf
  rw [xT_op hf']
  simp only [xop, xcmp, hp]
  by_cases h : x < y
  · rw [if_pos h]; exact h1 h
  · rw [if_neg h]; exact h2 h
theorem tIf_gt (hc : xcode[mi]? = some l) (hf : xfind l pc = some (.ifCond .gt off)) (hp : xpc pc off = pc') (h1 : 0 < x → xT d mi pc' lv st ph g Q) (h2 : ¬ 0 < x → xT d mi (pc + 3) lv st ph g Q) : xT d mi pc lv (.inl x :: st) ph g Q := by
  have hf' : xfetch mi pc = some (.ifCond .gt off) := by unfold xfetch; rw [hc]; exact hf
  rw [xT_op hf']
  simp only [xop, xcmp, hp]
  by_cases h : 0 < x
  · rw [if_pos h]; exact h1 h
  · rw [if_neg h]; exact h2 h
theorem tIc_gt (hc : xcode[mi]? = some l) (hf : xfind l pc = some (.if_icmp .gt off)) (hp : xpc pc off = pc') (h1 : y < x → xT d mi pc' lv st ph g Q) (h2 : ¬ y < x → xT d mi (pc + 3) lv st ph g Q) : xT d mi pc lv (.inl y :: .inl x :: st) ph g Q := by
  have hf' : xfetch mi pc = some (.if_icmp .gt off) := by unfold xfetch; rw [hc]; exact hf
  rw [xT_op hf']
  simp only [xop, xcmp, hp]
  by_cases h : y < x
  · rw [if_pos h]; exact h1 h
  · rw [if_neg h]; exact h2 h
theorem tIf_le (hc : xcode[mi]? = some l) (hf : xfind l pc = some (.ifCond .le off)) (hp : xpc pc off = pc') (h1 : 0 < x → xT d mi (pc + 3) lv st ph g Q) (h2 : ¬ 0 < x → xT d mi pc' lv st ph g Q) : xT d mi pc lv (.inl x :: st) ph g Q := by
  have hf' : xfetch mi pc = some (.ifCond .le off) := by unfold xfetch; rw [hc]; exact hf
  rw [xT_op hf']
  simp only [xop, xcmp, hp]
  by_cases h : 0 < x
  · rw [if_pos h]; exact h1 h
  · rw [if_neg h]; exact h2 h
theorem tIc_le (hc : xcode[mi]? = some l) (hf : xfind l pc = some (.if_icmp .le off)) (hp : xpc pc off = pc') (h1 : y < x → xT d mi (pc + 3) lv st ph g Q) (h2 : ¬ y < x → xT d mi pc' lv st ph g Q) : xT d mi pc lv (.inl y :: .inl x :: st) ph g Q := by
  have hf' : xfetch mi pc = some (.if_icmp .le off) := by unfold xfetch; rw [hc]; exact hf
  rw [xT_op hf']
  simp only [xop, xcmp, hp]
  by_cases h : y < x
  · rw [if_pos h]; exact h1 h
  · rw [if_neg h]; exact h2 h
end HBR
end
section
/-! ===== rows of texts ===== -/
def hTW (ph : xH) (t : Nat) : Prop := ∀ r, r < hRw t → -1 ≤ hRd ph (t + 2) r ∧ hRd ph (t + 2) r ≤ hWd t
def hCd (ph : xH) (t r k : Nat) : Int := hRd ph (t + 1) (r * hWd t + k)
def hTx (ph : xH) (t r : Nat) : List Int := (List.range (hRd ph (t + 2) r).toNat).map (fun k => hCd ph t r k)
def hTo (ph : xH) (t r : Nat) : Option (List Int) := if hRd ph (t + 2) r < 0 then none else some (hTx ph t r)
theorem hRW {t r : Nat} (h : r < hRw t) : r * hWd t + hWd t ≤ hRw t * hWd t := by
  have h1 := Nat.mul_le_mul_right (hWd t) h
  rw [Nat.succ_mul] at h1
  exact h1
theorem hRWI {t r : Nat} (ht : hTg t = 8) (h : r < hRw t) : 0 ≤ (r : Int) * (hWd t : Int) ∧ (r : Int) * (hWd t : Int) + hWd t ≤ (hSz (t + 1) : Int) ∧ (hSz (t + 1) : Int) ≤ 9840 := by
  have h1 := hRW h
  have h2 := hTx_sz ht
  refine ⟨Int.mul_nonneg (Int.natCast_nonneg _) (Int.natCast_nonneg _), ?_, by omega⟩
  rw [h2.1, ← Int.natCast_mul]
  omega
theorem hIx {r w k : Nat} : ((r : Int) * (w : Int) + (k : Int)).toNat = r * w + k := by
  have e : (r : Int) * (w : Int) + (k : Int) = ((r * w + k : Nat) : Int) := by push_cast; rfl
  rw [e]; rfl
section TXS
variable {d : Nat} {ph : xH} {zs : List xV} {g : Nat} {Q : xR → Prop} {t : Nat}
theorem s75 (hs : hSh zs ph) (ht : hTg t = 8) {r : Nat} (hr : r < hRw t) (hQ : Q (.inl (some (.inl (hRd ph (t + 2) r))), ph, g)) : xTC d 75 [.inr (.inl (some t)), .inl (r : Int)] ph g Q := by
  have hz := hTx_sz ht
  refine tEn (ls := [some (.inr (.inl (some t))), some (.inl (r : Int))]) (fun k => by match k with | 0 => rfl | 1 => rfl | k + 2 => rfl) ?_
  refine tK (l := xk_75) rfl rfl (fun _ _ _ _ _ => rfl) ?_
  refine tIf_lt (l := xk_75) (pc' := 13) rfl rfl rfl (fun hc => ?_) (fun hc => ?_)
  · refine tK (l := xk_75) rfl rfl (fun _ _ _ _ _ => rfl) ?_
    refine tK (l := xk_75) rfl rfl (fun _ _ _ _ _ => rfl) ?_
    refine tRt (l := xk_75) rfl rfl (fun _ _ _ _ _ => rfl) ?_
    exfalso; omega
  · refine tK (l := xk_75) rfl rfl (fun _ _ _ _ _ => rfl) ?_
    refine tK (l := xk_75) rfl rfl (fun _ _ _ _ _ => rfl) ?_
    refine tK (l := xk_75) rfl rfl (hGetR (o := some (t + 2)) hs rfl ht rfl (by decide) (by decide) (hrf_8_2 ht)) ?_
    refine tK (l := xk_75) rfl rfl (hAlen1 hs (htg_8_2 ht) (by decide) (by decide)) ?_
    refine tIc_lt (l := xk_75) (pc' := 17) rfl rfl rfl (fun hc => ?_) (fun hc => ?_)
    · refine tK (l := xk_75) rfl rfl (fun _ _ _ _ _ => rfl) ?_
      refine tK (l := xk_75) rfl rfl (hGetR (o := some (t + 2)) hs rfl ht rfl (by decide) (by decide) (hrf_8_2 ht)) ?_
      refine tK (l := xk_75) rfl rfl (fun _ _ _ _ _ => rfl) ?_
      first | refine tK (l := xk_75) rfl rfl (hIaldN hs (htg_8_2 ht) rfl (by omega)) ?_ | refine tK (l := xk_75) rfl rfl (hIald hs (htg_8_2 ht) (by omega) (by omega)) ?_
      refine tRt (l := xk_75) rfl rfl (fun _ _ _ _ _ => rfl) ?_
      exact hQ
    · refine tK (l := xk_75) rfl rfl (fun _ _ _ _ _ => rfl) ?_
      refine tK (l := xk_75) rfl rfl (fun _ _ _ _ _ => rfl) ?_
      refine tRt (l := xk_75) rfl rfl (fun _ _ _ _ _ => rfl) ?_
      exfalso; omega
theorem s75n (hs : hSh zs ph) (ht : hTg t = 8) (hQ : Q (.inl (some (.inl (-1))), ph, g)) : xTC d 75 [.inr (.inl (some t)), .inl (-1)] ph g Q := by
  have hz := hTx_sz ht
  refine tEn (ls := [some (.inr (.inl (some t))), some (.inl (-1))]) (fun k => by match k with | 0 => rfl | 1 => rfl | k + 2 => rfl) ?_
  refine tK (l := xk_75) rfl rfl (fun _ _ _ _ _ => rfl) ?_
  refine tIf_lt (l := xk_75) (pc' := 13) rfl rfl rfl (fun hc => ?_) (fun hc => ?_)
  · refine tK (l := xk_75) rfl rfl (fun _ _ _ _ _ => rfl) ?_
    refine tK (l := xk_75) rfl rfl (fun _ _ _ _ _ => rfl) ?_
    refine tRt (l := xk_75) rfl rfl (fun _ _ _ _ _ => rfl) ?_
    exact hQ
  · refine tK (l := xk_75) rfl rfl (fun _ _ _ _ _ => rfl) ?_
    refine tK (l := xk_75) rfl rfl (fun _ _ _ _ _ => rfl) ?_
    refine tK (l := xk_75) rfl rfl (hGetR (o := some (t + 2)) hs rfl ht rfl (by decide) (by decide) (hrf_8_2 ht)) ?_
    refine tK (l := xk_75) rfl rfl (hAlen1 hs (htg_8_2 ht) (by decide) (by decide)) ?_
    refine tIc_lt (l := xk_75) (pc' := 17) rfl rfl rfl (fun hc => ?_) (fun hc => ?_)
    · refine tK (l := xk_75) rfl rfl (fun _ _ _ _ _ => rfl) ?_
      refine tK (l := xk_75) rfl rfl (hGetR (o := some (t + 2)) hs rfl ht rfl (by decide) (by decide) (hrf_8_2 ht)) ?_
      refine tK (l := xk_75) rfl rfl (fun _ _ _ _ _ => rfl) ?_
      first | refine tK (l := xk_75) rfl rfl (hIaldN hs (htg_8_2 ht) rfl (by omega)) ?_ | refine tK (l := xk_75) rfl rfl (hIald hs (htg_8_2 ht) (by omega) (by omega)) ?_
      refine tRt (l := xk_75) rfl rfl (fun _ _ _ _ _ => rfl) ?_
      exfalso; omega
    · refine tK (l := xk_75) rfl rfl (fun _ _ _ _ _ => rfl) ?_
      refine tK (l := xk_75) rfl rfl (fun _ _ _ _ _ => rfl) ?_
      refine tRt (l := xk_75) rfl rfl (fun _ _ _ _ _ => rfl) ?_
      exfalso; omega
theorem s74 (hs : hSh zs ph) (ht : hTg t = 8) {r : Nat} (hr : r < hRw t) (hQ : Q (.inl none, hUp ph (t + 2) r 0, g)) : xTC d 74 [.inr (.inl (some t)), .inl (r : Int)] ph g Q := by
  have hz := hTx_sz ht
  refine tEn (ls := [some (.inr (.inl (some t))), some (.inl (r : Int))]) (fun k => by match k with | 0 => rfl | 1 => rfl | k + 2 => rfl) ?_
  refine tK (l := xk_74) rfl rfl (fun _ _ _ _ _ => rfl) ?_
  refine tIf_lt (l := xk_74) (pc' := 20) rfl rfl rfl (fun hc => ?_) (fun hc => ?_)
  · refine tRt (l := xk_74) rfl rfl (fun _ _ _ _ _ => rfl) ?_
    first | exact hQ | (exfalso; omega)
  · refine tK (l := xk_74) rfl rfl (fun _ _ _ _ _ => rfl) ?_
    refine tK (l := xk_74) rfl rfl (fun _ _ _ _ _ => rfl) ?_
    refine tK (l := xk_74) rfl rfl (hGetR (o := some (t + 2)) hs rfl ht rfl (by decide) (by decide) (hrf_8_2 ht)) ?_
    refine tK (l := xk_74) rfl rfl (hAlen1 hs (htg_8_2 ht) (by decide) (by decide)) ?_
    refine tIc_ge (l := xk_74) (pc' := 20) rfl rfl rfl (fun hc => ?_) (fun hc => ?_)
    · refine tK (l := xk_74) rfl rfl (fun _ _ _ _ _ => rfl) ?_
      refine tK (l := xk_74) rfl rfl (hGetR (o := some (t + 2)) hs rfl ht rfl (by decide) (by decide) (hrf_8_2 ht)) ?_
      refine tK (l := xk_74) rfl rfl (fun _ _ _ _ _ => rfl) ?_
      refine tK (l := xk_74) rfl rfl (fun _ _ _ _ _ => rfl) ?_
      first | refine tK (l := xk_74) rfl rfl (hIastN hs (htg_8_2 ht) rfl (by omega)) ?_ | refine tK (l := xk_74) rfl rfl (hIast hs (htg_8_2 ht) (by omega) (by omega)) ?_
      refine tRt (l := xk_74) rfl rfl (fun _ _ _ _ _ => rfl) ?_
      first | exact hQ | (exfalso; omega)
    · refine tRt (l := xk_74) rfl rfl (fun _ _ _ _ _ => rfl) ?_
      first | exact hQ | (exfalso; omega)
theorem s80 (hs : hSh zs ph) (ht : hTg t = 8) {r : Nat} (hr : r < hRw t) (hQ : Q (.inl none, hUp ph (t + 2) r (-1), g)) : xTC d 80 [.inr (.inl (some t)), .inl (r : Int)] ph g Q := by
  have hz := hTx_sz ht
  refine tEn (ls := [some (.inr (.inl (some t))), some (.inl (r : Int))]) (fun k => by match k with | 0 => rfl | 1 => rfl | k + 2 => rfl) ?_
  refine tK (l := xk_80) rfl rfl (fun _ _ _ _ _ => rfl) ?_
  refine tIf_lt (l := xk_80) (pc' := 20) rfl rfl rfl (fun hc => ?_) (fun hc => ?_)
  · refine tRt (l := xk_80) rfl rfl (fun _ _ _ _ _ => rfl) ?_
    first | exact hQ | (exfalso; omega)
  · refine tK (l := xk_80) rfl rfl (fun _ _ _ _ _ => rfl) ?_
    refine tK (l := xk_80) rfl rfl (fun _ _ _ _ _ => rfl) ?_
    refine tK (l := xk_80) rfl rfl (hGetR (o := some (t + 2)) hs rfl ht rfl (by decide) (by decide) (hrf_8_2 ht)) ?_
    refine tK (l := xk_80) rfl rfl (hAlen1 hs (htg_8_2 ht) (by decide) (by decide)) ?_
    refine tIc_ge (l := xk_80) (pc' := 20) rfl rfl rfl (fun hc => ?_) (fun hc => ?_)
    · refine tK (l := xk_80) rfl rfl (fun _ _ _ _ _ => rfl) ?_
      refine tK (l := xk_80) rfl rfl (hGetR (o := some (t + 2)) hs rfl ht rfl (by decide) (by decide) (hrf_8_2 ht)) ?_
      refine tK (l := xk_80) rfl rfl (fun _ _ _ _ _ => rfl) ?_
      refine tK (l := xk_80) rfl rfl (fun _ _ _ _ _ => rfl) ?_
      first | refine tK (l := xk_80) rfl rfl (hIastN hs (htg_8_2 ht) rfl (by omega)) ?_ | refine tK (l := xk_80) rfl rfl (hIast hs (htg_8_2 ht) (by omega) (by omega)) ?_
      refine tRt (l := xk_80) rfl rfl (fun _ _ _ _ _ => rfl) ?_
      first | exact hQ | (exfalso; omega)
    · refine tRt (l := xk_80) rfl rfl (fun _ _ _ _ _ => rfl) ?_
      first | exact hQ | (exfalso; omega)
theorem s76 (hs : hSh zs ph) (ht : hTg t = 8) (hw : hTW ph t) {r k : Nat} (hr : r < hRw t) (hk : (k : Int) < hRd ph (t + 2) r) (hQ : Q (.inl (some (.inl (hCd ph t r k))), ph, g)) : xTC d 76 [.inr (.inl (some t)), .inl (r : Int), .inl (k : Int)] ph g Q := by
  have hz := hTx_sz ht
  have hwr := hw r hr
  have hm := hRWI ht hr
  refine tEn (ls := [some (.inr (.inl (some t))), some (.inl (r : Int)), some (.inl (k : Int)), none]) (fun k => by match k with | 0 => rfl | 1 => rfl | 2 => rfl | 3 => rfl | k + 4 => rfl) ?_
  refine tK (l := xk_76) rfl rfl (fun _ _ _ _ _ => rfl) ?_
  refine tIf_lt (l := xk_76) (pc' := 27) rfl rfl rfl (fun hc => ?_) (fun hc => ?_)
  · refine tK (l := xk_76) rfl rfl (fun _ _ _ _ _ => rfl) ?_
    refine tRt (l := xk_76) rfl rfl (fun _ _ _ _ _ => rfl) ?_
    first | exact hQ | (exfalso; omega)
  · refine tK (l := xk_76) rfl rfl (fun _ _ _ _ _ => rfl) ?_
    refine tK (l := xk_76) rfl rfl (fun _ _ _ _ _ => rfl) ?_
    refine tK (l := xk_76) rfl rfl (hGetR (o := some (t + 2)) hs rfl ht rfl (by decide) (by decide) (hrf_8_2 ht)) ?_
    refine tK (l := xk_76) rfl rfl (hAlen1 hs (htg_8_2 ht) (by decide) (by decide)) ?_
    refine tIc_ge (l := xk_76) (pc' := 27) rfl rfl rfl (fun hc => ?_) (fun hc => ?_)
    · refine tK (l := xk_76) rfl rfl (fun _ _ _ _ _ => rfl) ?_
      refine tIf_lt (l := xk_76) (pc' := 27) rfl rfl rfl (fun hc => ?_) (fun hc => ?_)
      · refine tK (l := xk_76) rfl rfl (fun _ _ _ _ _ => rfl) ?_
        refine tRt (l := xk_76) rfl rfl (fun _ _ _ _ _ => rfl) ?_
        first | exact hQ | (exfalso; omega)
      · refine tK (l := xk_76) rfl rfl (fun _ _ _ _ _ => rfl) ?_
        refine tK (l := xk_76) rfl rfl (fun _ _ _ _ _ => rfl) ?_
        refine tK (l := xk_76) rfl rfl (hGetR (o := some (t + 2)) hs rfl ht rfl (by decide) (by decide) (hrf_8_2 ht)) ?_
        refine tK (l := xk_76) rfl rfl (fun _ _ _ _ _ => rfl) ?_
        first | refine tK (l := xk_76) rfl rfl (hIaldN hs (htg_8_2 ht) rfl (by omega)) ?_ | refine tK (l := xk_76) rfl rfl (hIald hs (htg_8_2 ht) (by omega) (by omega)) ?_
        refine tIc_lt (l := xk_76) (pc' := 29) rfl rfl rfl (fun hc => ?_) (fun hc => ?_)
        · refine tK (l := xk_76) rfl rfl (fun _ _ _ _ _ => rfl) ?_
          refine tK (l := xk_76) rfl rfl (fun _ _ _ _ _ => rfl) ?_
          refine tK (l := xk_76) rfl rfl (hGetC hs rfl ht rfl (by decide) (by decide) (hCs_8 ht)) ?_
          refine tK (l := xk_76) rfl rfl (hMul ⟨by omega, by omega⟩) ?_
          refine tK (l := xk_76) rfl rfl (fun _ _ _ _ _ => rfl) ?_
          refine tK (l := xk_76) rfl rfl (hAdd ⟨by omega, by omega⟩) ?_
          refine tSt (l := xk_76) rfl rfl (fun _ _ _ _ _ => rfl) (Nat.le_of_ble_eq_true rfl) ?_
          refine tK (l := xk_76) rfl rfl (fun _ _ _ _ _ => rfl) ?_
          refine tIf_lt (l := xk_76) (pc' := 60) rfl rfl rfl (fun hc => ?_) (fun hc => ?_)
          · refine tK (l := xk_76) rfl rfl (fun _ _ _ _ _ => rfl) ?_
            refine tRt (l := xk_76) rfl rfl (fun _ _ _ _ _ => rfl) ?_
            first | exact hQ | (exfalso; omega)
          · refine tK (l := xk_76) rfl rfl (fun _ _ _ _ _ => rfl) ?_
            refine tK (l := xk_76) rfl rfl (fun _ _ _ _ _ => rfl) ?_
            refine tK (l := xk_76) rfl rfl (hGetR (o := some (t + 1)) hs rfl ht rfl (by decide) (by decide) (hrf_8_1 ht)) ?_
            refine tK (l := xk_76) rfl rfl (hAlen1 hs (htg_8_1 ht) (by decide) (by decide)) ?_
            refine tIc_ge (l := xk_76) (pc' := 60) rfl rfl rfl (fun hc => ?_) (fun hc => ?_)
            · refine tK (l := xk_76) rfl rfl (fun _ _ _ _ _ => rfl) ?_
              refine tK (l := xk_76) rfl rfl (hGetR (o := some (t + 1)) hs rfl ht rfl (by decide) (by decide) (hrf_8_1 ht)) ?_
              refine tK (l := xk_76) rfl rfl (fun _ _ _ _ _ => rfl) ?_
              first | refine tK (l := xk_76) rfl rfl (hCaldN hs (htg_8_1 ht) rfl (by omega)) ?_ | refine tK (l := xk_76) rfl rfl (hCald hs (htg_8_1 ht) (by omega) (by omega)) ?_
              refine tK (l := xk_76) rfl rfl (fun _ _ _ _ _ => rfl) ?_
              refine tRt (l := xk_76) rfl rfl (fun _ _ _ _ _ => rfl) ?_
              first | exact hQ | (exfalso; omega)
            · refine tK (l := xk_76) rfl rfl (fun _ _ _ _ _ => rfl) ?_
              refine tRt (l := xk_76) rfl rfl (fun _ _ _ _ _ => rfl) ?_
              first | exact hQ | (exfalso; omega)
        · refine tK (l := xk_76) rfl rfl (fun _ _ _ _ _ => rfl) ?_
          refine tRt (l := xk_76) rfl rfl (fun _ _ _ _ _ => rfl) ?_
          first | exact hQ | (exfalso; omega)
    · refine tK (l := xk_76) rfl rfl (fun _ _ _ _ _ => rfl) ?_
      refine tRt (l := xk_76) rfl rfl (fun _ _ _ _ _ => rfl) ?_
      first | exact hQ | (exfalso; omega)
theorem s79 (hs : hSh zs ph) (ht : hTg t = 8) (hw : hTW ph t) {r : Nat} {x : Int} (hr : r < hRw t) (h0 : 0 ≤ hRd ph (t + 2) r) (hk : hRd ph (t + 2) r < hWd t) (hx : 0 ≤ x ∧ x ≤ 65535) (hQ : Q (.inl (some (.inl 1)), hUp (hUp ph (t + 1) (r * hWd t + (hRd ph (t + 2) r).toNat) x) (t + 2) r (hRd ph (t + 2) r + 1), g)) : xTC d 79 [.inr (.inl (some t)), .inl (r : Int), .inl x] ph g Q := by
  have hz := hTx_sz ht
  have hwr := hw r hr
  have hm := hRWI ht hr
  obtain ⟨n, hn⟩ := Int.eq_ofNat_of_zero_le h0
  rw [hn] at hk hQ
  refine tEn (ls := [some (.inr (.inl (some t))), some (.inl (r : Int)), some (.inl x), none, none]) (fun k => by match k with | 0 => rfl | 1 => rfl | 2 => rfl | 3 => rfl | 4 => rfl | k + 5 => rfl) ?_
  refine tK (l := xk_79) rfl rfl (fun _ _ _ _ _ => rfl) ?_
  refine tIf_lt (l := xk_79) (pc' := 13) rfl rfl rfl (fun hc => ?_) (fun hc => ?_)
  · refine tK (l := xk_79) rfl rfl (fun _ _ _ _ _ => rfl) ?_
    refine tRt (l := xk_79) rfl rfl (fun _ _ _ _ _ => rfl) ?_
    first | (exfalso; omega) | (rw [hn, hIx]; exact hQ)
  · refine tK (l := xk_79) rfl rfl (fun _ _ _ _ _ => rfl) ?_
    refine tK (l := xk_79) rfl rfl (fun _ _ _ _ _ => rfl) ?_
    refine tK (l := xk_79) rfl rfl (hGetR (o := some (t + 2)) hs rfl ht rfl (by decide) (by decide) (hrf_8_2 ht)) ?_
    refine tK (l := xk_79) rfl rfl (hAlen1 hs (htg_8_2 ht) (by decide) (by decide)) ?_
    refine tIc_lt (l := xk_79) (pc' := 15) rfl rfl rfl (fun hc => ?_) (fun hc => ?_)
    · refine tK (l := xk_79) rfl rfl (fun _ _ _ _ _ => rfl) ?_
      refine tK (l := xk_79) rfl rfl (hGetR (o := some (t + 2)) hs rfl ht rfl (by decide) (by decide) (hrf_8_2 ht)) ?_
      refine tK (l := xk_79) rfl rfl (fun _ _ _ _ _ => rfl) ?_
      first | refine tK (l := xk_79) rfl rfl (hIaldN hs (htg_8_2 ht) rfl (by omega)) ?_ | refine tK (l := xk_79) rfl rfl (hIald hs (htg_8_2 ht) (by omega) (by omega)) ?_
      refine tSt (l := xk_79) rfl rfl (fun _ _ _ _ _ => rfl) (Nat.le_of_ble_eq_true rfl) ?_
      refine tK (l := xk_79) rfl rfl (fun _ _ _ _ _ => rfl) ?_
      refine tK (l := xk_79) rfl rfl (fun _ _ _ _ _ => rfl) ?_
      refine tK (l := xk_79) rfl rfl (hGetC hs rfl ht rfl (by decide) (by decide) (hCs_8 ht)) ?_
      refine tK (l := xk_79) rfl rfl (hMul ⟨by omega, by omega⟩) ?_
      refine tK (l := xk_79) rfl rfl (fun _ _ _ _ _ => rfl) ?_
      refine tK (l := xk_79) rfl rfl (hAdd ⟨by omega, by omega⟩) ?_
      refine tSt (l := xk_79) rfl rfl (fun _ _ _ _ _ => rfl) (Nat.le_of_ble_eq_true rfl) ?_
      refine tK (l := xk_79) rfl rfl (fun _ _ _ _ _ => rfl) ?_
      refine tIf_lt (l := xk_79) (pc' := 59) rfl rfl rfl (fun hc => ?_) (fun hc => ?_)
      · refine tK (l := xk_79) rfl rfl (fun _ _ _ _ _ => rfl) ?_
        refine tRt (l := xk_79) rfl rfl (fun _ _ _ _ _ => rfl) ?_
        first | (exfalso; omega) | (rw [hn, hIx]; exact hQ)
      · refine tK (l := xk_79) rfl rfl (fun _ _ _ _ _ => rfl) ?_
        refine tK (l := xk_79) rfl rfl (fun _ _ _ _ _ => rfl) ?_
        refine tK (l := xk_79) rfl rfl (hGetC hs rfl ht rfl (by decide) (by decide) (hCs_8 ht)) ?_
        refine tIc_ge (l := xk_79) (pc' := 59) rfl rfl rfl (fun hc => ?_) (fun hc => ?_)
        · refine tK (l := xk_79) rfl rfl (fun _ _ _ _ _ => rfl) ?_
          refine tIf_lt (l := xk_79) (pc' := 59) rfl rfl rfl (fun hc => ?_) (fun hc => ?_)
          · refine tK (l := xk_79) rfl rfl (fun _ _ _ _ _ => rfl) ?_
            refine tRt (l := xk_79) rfl rfl (fun _ _ _ _ _ => rfl) ?_
            first | (exfalso; omega) | (rw [hn, hIx]; exact hQ)
          · refine tK (l := xk_79) rfl rfl (fun _ _ _ _ _ => rfl) ?_
            refine tK (l := xk_79) rfl rfl (fun _ _ _ _ _ => rfl) ?_
            refine tK (l := xk_79) rfl rfl (hGetR (o := some (t + 1)) hs rfl ht rfl (by decide) (by decide) (hrf_8_1 ht)) ?_
            refine tK (l := xk_79) rfl rfl (hAlen1 hs (htg_8_1 ht) (by decide) (by decide)) ?_
            refine tIc_lt (l := xk_79) (pc' := 61) rfl rfl rfl (fun hc => ?_) (fun hc => ?_)
            · refine tK (l := xk_79) rfl rfl (fun _ _ _ _ _ => rfl) ?_
              refine tK (l := xk_79) rfl rfl (hGetR (o := some (t + 1)) hs rfl ht rfl (by decide) (by decide) (hrf_8_1 ht)) ?_
              refine tK (l := xk_79) rfl rfl (fun _ _ _ _ _ => rfl) ?_
              refine tK (l := xk_79) rfl rfl (fun _ _ _ _ _ => rfl) ?_
              refine tK (l := xk_79) rfl rfl (hI2c ⟨by omega, by omega⟩) ?_
              first | refine tK (l := xk_79) rfl rfl (hCastN hs (htg_8_1 ht) rfl (by omega) ⟨by omega, by omega⟩) ?_ | refine tK (l := xk_79) rfl rfl (hCast hs (htg_8_1 ht) (by omega) (by omega) ⟨by omega, by omega⟩) ?_
              refine tK (l := xk_79) rfl rfl (fun _ _ _ _ _ => rfl) ?_
              refine tK (l := xk_79) rfl rfl (hGetR (o := some (t + 2)) (hShC1 _ hs (htg_8_1 ht) rfl ⟨by omega, by omega⟩) rfl ht rfl (by decide) (by decide) (hrf_8_2 ht)) ?_
              refine tK (l := xk_79) rfl rfl (fun _ _ _ _ _ => rfl) ?_
              refine tK (l := xk_79) rfl rfl (fun _ _ _ _ _ => rfl) ?_
              refine tK (l := xk_79) rfl rfl (fun _ _ _ _ _ => rfl) ?_
              refine tK (l := xk_79) rfl rfl (hAdd ⟨by omega, by omega⟩) ?_
              first | refine tK (l := xk_79) rfl rfl (hIastN (hShC1 _ hs (htg_8_1 ht) rfl ⟨by omega, by omega⟩) (htg_8_2 ht) rfl (by omega)) ?_ | refine tK (l := xk_79) rfl rfl (hIast (hShC1 _ hs (htg_8_1 ht) rfl ⟨by omega, by omega⟩) (htg_8_2 ht) (by omega) (by omega)) ?_
              refine tK (l := xk_79) rfl rfl (fun _ _ _ _ _ => rfl) ?_
              refine tRt (l := xk_79) rfl rfl (fun _ _ _ _ _ => rfl) ?_
              first | (exfalso; omega) | (rw [hn, hIx]; exact hQ)
            · refine tK (l := xk_79) rfl rfl (fun _ _ _ _ _ => rfl) ?_
              refine tRt (l := xk_79) rfl rfl (fun _ _ _ _ _ => rfl) ?_
              first | (exfalso; omega) | (rw [hn, hIx]; exact hQ)
        · refine tK (l := xk_79) rfl rfl (fun _ _ _ _ _ => rfl) ?_
          refine tRt (l := xk_79) rfl rfl (fun _ _ _ _ _ => rfl) ?_
          first | (exfalso; omega) | (rw [hn, hIx]; exact hQ)
    · refine tK (l := xk_79) rfl rfl (fun _ _ _ _ _ => rfl) ?_
      refine tRt (l := xk_79) rfl rfl (fun _ _ _ _ _ => rfl) ?_
      first | (exfalso; omega) | (rw [hn, hIx]; exact hQ)
end TXS
/-! ===== rows of texts, told by their texts ===== -/
/-- ph2 is ph but that the row r of the texts t has the text v -/
def hTs (zs : List xV) (ph ph2 : xH) (t r : Nat) (v : Option (List Int)) : Prop :=
  hSh zs ph2 ∧ (∀ a k, a ≠ t + 1 → a ≠ t + 2 → hRd ph2 a k = hRd ph a k) ∧ (∀ a k, hRl ph2 a k = hRl ph a k) ∧ (∀ a k, hRs ph2 a k = hRs ph a k) ∧ hTo ph2 t r = v ∧ (∀ j, j < hRw t → j ≠ r → hTo ph2 t j = hTo ph t j) ∧ hTW ph2 t
def hLo : Option (List Int) → Int
  | none => -1
  | some s => (s.length : Int)
theorem hTx_len {ph : xH} {t r : Nat} : (hTx ph t r).length = (hRd ph (t + 2) r).toNat := by simp [hTx]
theorem hTx_get {ph : xH} {t r k : Nat} (h : k < (hRd ph (t + 2) r).toNat) : (hTx ph t r)[k]? = some (hCd ph t r k) := by
  simp [hTx, h]
theorem hTo_none {ph : xH} {t r : Nat} (hw : hTW ph t) (hr : r < hRw t) : hTo ph t r = none ↔ hRd ph (t + 2) r = -1 := by
  have := hw r hr
  unfold hTo
  split
  · simp; omega
  · simp; omega
theorem hTo_some {ph : xH} {t r : Nat} {s : List Int} (h : hTo ph t r = some s) : hRd ph (t + 2) r = (s.length : Int) ∧ s = hTx ph t r := by
  unfold hTo at h
  split at h
  · cases h
  · cases h
    refine ⟨?_, rfl⟩
    rw [hTx_len]; omega
theorem hTo_lo {ph : xH} {t r : Nat} {v : Option (List Int)} (hw : hTW ph t) (hr : r < hRw t) (h : hTo ph t r = v) : hRd ph (t + 2) r = hLo v := by
  cases v with
  | none => exact (hTo_none hw hr).mp h
  | some s => exact (hTo_some h).1
theorem hTo_get {ph : xH} {t r k : Nat} {s : List Int} {x : Int} (h : hTo ph t r = some s) (hk : s[k]? = some x) : (k : Int) < hRd ph (t + 2) r ∧ hCd ph t r k = x := by
  obtain ⟨h1, h2⟩ := hTo_some h
  have hl : k < s.length := (List.getElem?_eq_some_iff.mp hk).1
  refine ⟨by omega, ?_⟩
  rw [h2, hTx_get (by omega)] at hk
  exact Option.some.inj hk
theorem hTo_len {ph : xH} {t r : Nat} {s : List Int} (hw : hTW ph t) (hr : r < hRw t) (h : hTo ph t r = some s) : s.length ≤ hWd t := by
  have h1 := (hTo_some h).1
  have := hw r hr
  omega
theorem hTo_ch {zs : List xV} {ph : xH} {t r : Nat} {s : List Int} (hs : hSh zs ph) (ht : hTg t = 8) (h : hTo ph t r = some s) : ∀ x ∈ s, 0 ≤ x ∧ x ≤ 65535 := by
  intro x hx
  obtain ⟨k, hk⟩ := List.getElem?_of_mem hx
  rw [← (hTo_get h hk).2]
  exact hRd_ch hs (htg_8_1 ht)
theorem hTo_eq {ph ph2 : xH} {t r : Nat} (h1 : ∀ k, hRd ph2 (t + 1) k = hRd ph (t + 1) k) (h2 : hRd ph2 (t + 2) r = hRd ph (t + 2) r) : hTo ph2 t r = hTo ph t r := by
  unfold hTo hTx hCd
  simp only [h1, h2]
theorem hTo_of {ph : xH} {t r : Nat} {s : List Int} (h1 : hRd ph (t + 2) r = (s.length : Int)) (h2 : ∀ k x, s[k]? = some x → hCd ph t r k = x) : hTo ph t r = some s := by
  unfold hTo
  rw [if_neg (by omega)]
  congr 1
  apply List.ext_getElem?
  intro k
  by_cases hk : k < s.length
  · rw [hTx_get (by omega), List.getElem?_eq_getElem hk, h2 k s[k] (List.getElem?_eq_getElem hk)]
  · rw [List.getElem?_eq_none (by rw [hTx_len]; omega), List.getElem?_eq_none (by omega)]
theorem hTg_apart {t u : Nat} (ht : hTg t = 8) (hu : hTg u = 8) (h : t ≠ u) : u + 1 ≠ t + 1 ∧ u + 1 ≠ t + 2 ∧ u + 2 ≠ t + 1 ∧ u + 2 ≠ t + 2 := by
  have a1 := htg_8_1 ht
  have a2 := htg_8_2 ht
  have b1 := htg_8_1 hu
  have b2 := htg_8_2 hu
  refine ⟨by omega, fun e => ?_, fun e => ?_, by omega⟩
  · rw [e] at b1; omega
  · rw [e] at b2; omega
theorem hTs.other {zs : List xV} {ph ph2 : xH} {t r u j : Nat} {v : Option (List Int)} (h : hTs zs ph ph2 t r v) (ht : hTg t = 8) (hu : hTg u = 8) (hn : u ≠ t) : hTo ph2 u j = hTo ph u j := by
  obtain ⟨q1, q2, q3, q4⟩ := hTg_apart ht hu (Ne.symm hn)
  exact hTo_eq (fun k => h.2.1 _ _ q1 q2) (h.2.1 _ _ q3 q4)
theorem hTs.otherW {zs : List xV} {ph ph2 : xH} {t r u : Nat} {v : Option (List Int)} (h : hTs zs ph ph2 t r v) (ht : hTg t = 8) (hu : hTg u = 8) (hw : hTW ph u) : hTW ph2 u := by
  by_cases hn : u = t
  · subst hn; exact h.2.2.2.2.2.2
  · obtain ⟨q1, q2, q3, q4⟩ := hTg_apart ht hu (Ne.symm hn)
    intro r hr
    rw [h.2.1 _ _ q3 q4]
    exact hw r hr
theorem hTs_of {zs : List xV} {ph ph2 : xH} {t r : Nat} {v : Option (List Int)} (hs2 : hSh zs ph2) (hw : hTW ph t) (hr : r < hRw t) (h1 : ∀ a k, a ≠ t + 1 → a ≠ t + 2 → hRd ph2 a k = hRd ph a k) (h2 : ∀ a k, hRl ph2 a k = hRl ph a k) (h3 : ∀ a k, hRs ph2 a k = hRs ph a k)
    (h4 : ∀ j, j ≠ r → hRd ph2 (t + 2) j = hRd ph (t + 2) j) (h5 : ∀ i, i < r * hWd t ∨ r * hWd t + hWd t ≤ i → hRd ph2 (t + 1) i = hRd ph (t + 1) i) (h6 : -1 ≤ hRd ph2 (t + 2) r ∧ hRd ph2 (t + 2) r ≤ hWd t) (h7 : hTo ph2 t r = v) : hTs zs ph ph2 t r v := by
  refine ⟨hs2, h1, h2, h3, h7, fun j hj hn => ?_, fun j hj => ?_⟩
  · have hlj := hw j hj
    unfold hTo hTx hCd
    rw [h4 j hn]
    split
    · rfl
    · congr 1
      apply List.map_congr_left
      intro k hk
      rw [List.mem_range] at hk
      apply h5
      rcases Nat.lt_or_gt_of_ne hn with h | h
      · have := Nat.mul_le_mul_right (hWd t) (show j + 1 ≤ r from h)
        rw [Nat.succ_mul] at this
        omega
      · have := Nat.mul_le_mul_right (hWd t) (show r + 1 ≤ j from h)
        rw [Nat.succ_mul] at this
        omega
  · by_cases hn : j = r
    · rw [hn]; exact h6
    · rw [h4 j hn]; exact hw j hj
theorem hTs_len {zs : List xV} {ph : xH} {t r : Nat} {x : Int} (hs : hSh zs ph) (ht : hTg t = 8) (hw : hTW ph t) (hr : r < hRw t) (hx : x = -1 ∨ x = 0) : hTs zs ph (hUp ph (t + 2) r x) t r (if x < 0 then none else some []) := by
  have h2 := htg_8_2 ht
  have hz := hTx_sz ht
  have hk : hKi (hTg (t + 2)) r = true := by rw [h2]; rfl
  have hrd := hRd_up (x := x) hs hk (by omega)
  have e : hRd (hUp ph (t + 2) r x) (t + 2) r = x := by rw [hrd, if_pos ⟨rfl, rfl⟩]
  refine hTs_of (hShI1 x hs h2 rfl) hw hr (fun a k _ ha => ?_) (fun a k => hRl_up hs hk a k) (fun a k => hRs_up hs hk a k) (fun j hj => ?_) (fun i _ => ?_) (by rw [e]; omega) ?_
  · rw [hrd, if_neg (fun q => ha q.1)]
  · rw [hrd, if_neg (fun q => hj q.2)]
  · rw [hrd, if_neg (by omega)]
  · unfold hTo hTx
    rw [e]
    rcases hx with rfl | rfl
    · rfl
    · rfl
section TXA
variable {d : Nat} {ph : xH} {zs : List xV} {g : Nat} {Q : xR → Prop} {t : Nat}
theorem a75 (hs : hSh zs ph) (ht : hTg t = 8) (hw : hTW ph t) {r : Nat} {v : Option (List Int)} (hr : r < hRw t) (hv : hTo ph t r = v) (hQ : Q (.inl (some (.inl (hLo v))), ph, g)) : xTC d 75 [.inr (.inl (some t)), .inl (r : Int)] ph g Q :=
  s75 hs ht hr (by rw [hTo_lo hw hr hv]; exact hQ)
theorem a76 (hs : hSh zs ph) (ht : hTg t = 8) (hw : hTW ph t) {r k : Nat} {s : List Int} {x : Int} (hr : r < hRw t) (hv : hTo ph t r = some s) (hk : s[k]? = some x) (hQ : Q (.inl (some (.inl x)), ph, g)) : xTC d 76 [.inr (.inl (some t)), .inl (r : Int), .inl (k : Int)] ph g Q := by
  obtain ⟨h1, h2⟩ := hTo_get hv hk
  exact s76 hs ht hw hr h1 (by rw [h2]; exact hQ)
theorem a74 (hs : hSh zs ph) (ht : hTg t = 8) (hw : hTW ph t) {r : Nat} (hr : r < hRw t) (hQ : ∀ ph2, hTs zs ph ph2 t r (some []) → Q (.inl none, ph2, g)) : xTC d 74 [.inr (.inl (some t)), .inl (r : Int)] ph g Q :=
  s74 hs ht hr (hQ _ (hTs_len hs ht hw hr (Or.inr rfl)))
theorem a80 (hs : hSh zs ph) (ht : hTg t = 8) (hw : hTW ph t) {r : Nat} (hr : r < hRw t) (hQ : ∀ ph2, hTs zs ph ph2 t r none → Q (.inl none, ph2, g)) : xTC d 80 [.inr (.inl (some t)), .inl (r : Int)] ph g Q :=
  s80 hs ht hr (hQ _ (hTs_len hs ht hw hr (Or.inl rfl)))
theorem a79 (hs : hSh zs ph) (ht : hTg t = 8) (hw : hTW ph t) {r : Nat} {s : List Int} {x : Int} (hr : r < hRw t) (hv : hTo ph t r = some s) (hl : s.length < hWd t) (hx : 0 ≤ x ∧ x ≤ 65535) (hQ : ∀ ph2, hTs zs ph ph2 t r (some (s ++ [x])) → Q (.inl (some (.inl 1)), ph2, g)) : xTC d 79 [.inr (.inl (some t)), .inl (r : Int), .inl x] ph g Q := by
  obtain ⟨h1, h2⟩ := hTo_some hv
  refine s79 hs ht hw hr (by omega) (by omega) hx (hQ _ ?_)
  have k1 := htg_8_1 ht
  have k2 := htg_8_2 ht
  have hz := hTx_sz ht
  have hm := hRW hr
  have e : (hRd ph (t + 2) r).toNat = s.length := by omega
  rw [e]
  have hs1 : hSh zs (hUp ph (t + 1) (r * hWd t + s.length) x) := hShC1 x hs k1 rfl hx
  have hk1 : hKi (hTg (t + 1)) (r * hWd t + s.length) = true := by rw [k1]; rfl
  have hk2 : hKi (hTg (t + 2)) r = true := by rw [k2]; rfl
  have rd1 := hRd_up (x := x) hs hk1 (by omega)
  have rd2 := hRd_up (x := hRd ph (t + 2) r + 1) hs1 hk2 (by omega)
  have rd : ∀ a k, hRd (hUp (hUp ph (t + 1) (r * hWd t + s.length) x) (t + 2) r (hRd ph (t + 2) r + 1)) a k = if a = t + 2 ∧ k = r then hRd ph (t + 2) r + 1 else if a = t + 1 ∧ k = r * hWd t + s.length then x else hRd ph a k := fun a k => by rw [rd2, rd1]
  have e2 : hRd (hUp (hUp ph (t + 1) (r * hWd t + s.length) x) (t + 2) r (hRd ph (t + 2) r + 1)) (t + 2) r = hRd ph (t + 2) r + 1 := by rw [rd, if_pos ⟨rfl, rfl⟩]
  refine hTs_of (hShI1 _ hs1 k2 rfl) hw hr (fun a k h1 h2 => ?_) (fun a k => by rw [hRl_up hs1 hk2, hRl_up hs hk1]) (fun a k => by rw [hRs_up hs1 hk2, hRs_up hs hk1]) (fun j hn => ?_) (fun i hi => ?_) (by rw [e2]; omega) ?_
  · rw [rd, if_neg (fun q => h2 q.1), if_neg (fun q => h1 q.1)]
  · rw [rd, if_neg (fun q => hn q.2), if_neg (by omega)]
  · rw [rd, if_neg (by omega), if_neg (by omega)]
  · refine hTo_of ?_ (fun k y hk => ?_)
    · rw [e2, h1]; simp
    · unfold hCd
      rw [rd, if_neg (by omega)]
      by_cases hk2 : k < s.length
      · rw [if_neg (by omega)]
        rw [List.getElem?_append_left hk2] at hk
        exact (hTo_get hv hk).2
      · rw [List.getElem?_append_right (by omega)] at hk
        have hk3 : k - s.length < 1 := (List.getElem?_eq_some_iff.mp hk).1
        rw [show k - s.length = 0 by omega] at hk
        rw [if_pos ⟨rfl, by omega⟩]
        exact Option.some.inj hk

theorem a79f (hs : hSh zs ph) (ht : hTg t = 8) (hw : hTW ph t) {r : Nat} {s : List Int} {x : Int} (hr : r < hRw t) (hv : hTo ph t r = some s) (hl : s.length = hWd t) (hQ : Q (.inl (some (.inl 0)), ph, g)) : xTC d 79 [.inr (.inl (some t)), .inl (r : Int), .inl x] ph g Q := by
  have hz := hTx_sz ht
  have hwr := hw r hr
  have hm := hRWI ht hr
  have hv1 := (hTo_some hv).1
  refine tEn (ls := [some (.inr (.inl (some t))), some (.inl (r : Int)), some (.inl x), none, none]) (fun k => by match k with | 0 => rfl | 1 => rfl | 2 => rfl | 3 => rfl | 4 => rfl | k + 5 => rfl) ?_
  refine tK (l := xk_79) rfl rfl (fun _ _ _ _ _ => rfl) ?_
  refine tIf_lt (l := xk_79) (pc' := 13) rfl rfl rfl (fun hc => ?_) (fun hc => ?_)
  · refine tK (l := xk_79) rfl rfl (fun _ _ _ _ _ => rfl) ?_
    refine tRt (l := xk_79) rfl rfl (fun _ _ _ _ _ => rfl) ?_
    first | exact hQ | (exfalso; omega)
  · refine tK (l := xk_79) rfl rfl (fun _ _ _ _ _ => rfl) ?_
    refine tK (l := xk_79) rfl rfl (fun _ _ _ _ _ => rfl) ?_
    refine tK (l := xk_79) rfl rfl (hGetR (o := some (t + 2)) hs rfl ht rfl (by decide) (by decide) (hrf_8_2 ht)) ?_
    refine tK (l := xk_79) rfl rfl (hAlen1 hs (htg_8_2 ht) (by decide) (by decide)) ?_
    refine tIc_lt (l := xk_79) (pc' := 15) rfl rfl rfl (fun hc => ?_) (fun hc => ?_)
    · refine tK (l := xk_79) rfl rfl (fun _ _ _ _ _ => rfl) ?_
      refine tK (l := xk_79) rfl rfl (hGetR (o := some (t + 2)) hs rfl ht rfl (by decide) (by decide) (hrf_8_2 ht)) ?_
      refine tK (l := xk_79) rfl rfl (fun _ _ _ _ _ => rfl) ?_
      first | refine tK (l := xk_79) rfl rfl (hIaldN hs (htg_8_2 ht) rfl (by omega)) ?_ | refine tK (l := xk_79) rfl rfl (hIald hs (htg_8_2 ht) (by omega) (by omega)) ?_
      refine tSt (l := xk_79) rfl rfl (fun _ _ _ _ _ => rfl) (Nat.le_of_ble_eq_true rfl) ?_
      refine tK (l := xk_79) rfl rfl (fun _ _ _ _ _ => rfl) ?_
      refine tK (l := xk_79) rfl rfl (fun _ _ _ _ _ => rfl) ?_
      refine tK (l := xk_79) rfl rfl (hGetC hs rfl ht rfl (by decide) (by decide) (hCs_8 ht)) ?_
      refine tK (l := xk_79) rfl rfl (hMul ⟨by omega, by omega⟩) ?_
      refine tK (l := xk_79) rfl rfl (fun _ _ _ _ _ => rfl) ?_
      refine tK (l := xk_79) rfl rfl (hAdd ⟨by omega, by omega⟩) ?_
      refine tSt (l := xk_79) rfl rfl (fun _ _ _ _ _ => rfl) (Nat.le_of_ble_eq_true rfl) ?_
      refine tK (l := xk_79) rfl rfl (fun _ _ _ _ _ => rfl) ?_
      refine tIf_lt (l := xk_79) (pc' := 59) rfl rfl rfl (fun hc => ?_) (fun hc => ?_)
      · refine tK (l := xk_79) rfl rfl (fun _ _ _ _ _ => rfl) ?_
        refine tRt (l := xk_79) rfl rfl (fun _ _ _ _ _ => rfl) ?_
        first | exact hQ | (exfalso; omega)
      · refine tK (l := xk_79) rfl rfl (fun _ _ _ _ _ => rfl) ?_
        refine tK (l := xk_79) rfl rfl (fun _ _ _ _ _ => rfl) ?_
        refine tK (l := xk_79) rfl rfl (hGetC hs rfl ht rfl (by decide) (by decide) (hCs_8 ht)) ?_
        refine tIc_ge (l := xk_79) (pc' := 59) rfl rfl rfl (fun hc => ?_) (fun hc => ?_)
        · refine tK (l := xk_79) rfl rfl (fun _ _ _ _ _ => rfl) ?_
          refine tIf_lt (l := xk_79) (pc' := 59) rfl rfl rfl (fun hc => ?_) (fun hc => ?_)
          · refine tK (l := xk_79) rfl rfl (fun _ _ _ _ _ => rfl) ?_
            refine tRt (l := xk_79) rfl rfl (fun _ _ _ _ _ => rfl) ?_
            first | exact hQ | (exfalso; omega)
          · refine tK (l := xk_79) rfl rfl (fun _ _ _ _ _ => rfl) ?_
            refine tK (l := xk_79) rfl rfl (fun _ _ _ _ _ => rfl) ?_
            refine tK (l := xk_79) rfl rfl (hGetR (o := some (t + 1)) hs rfl ht rfl (by decide) (by decide) (hrf_8_1 ht)) ?_
            refine tK (l := xk_79) rfl rfl (hAlen1 hs (htg_8_1 ht) (by decide) (by decide)) ?_
            refine tIc_lt (l := xk_79) (pc' := 61) rfl rfl rfl (fun hc => ?_) (fun hc => ?_)
            · refine tK (l := xk_79) rfl rfl (fun _ _ _ _ _ => rfl) ?_
              refine tK (l := xk_79) rfl rfl (hGetR (o := some (t + 1)) hs rfl ht rfl (by decide) (by decide) (hrf_8_1 ht)) ?_
              refine tK (l := xk_79) rfl rfl (fun _ _ _ _ _ => rfl) ?_
              refine tK (l := xk_79) rfl rfl (fun _ _ _ _ _ => rfl) ?_
              refine tK (l := xk_79) rfl rfl (hI2c ⟨by omega, by omega⟩) ?_
              first | refine tK (l := xk_79) rfl rfl (hCastN hs (htg_8_1 ht) rfl (by omega) ⟨by omega, by omega⟩) ?_ | refine tK (l := xk_79) rfl rfl (hCast hs (htg_8_1 ht) (by omega) (by omega) ⟨by omega, by omega⟩) ?_
              refine tK (l := xk_79) rfl rfl (fun _ _ _ _ _ => rfl) ?_
              refine tK (l := xk_79) rfl rfl (hGetR (o := some (t + 2)) (hShC1 _ hs (htg_8_1 ht) rfl ⟨by omega, by omega⟩) rfl ht rfl (by decide) (by decide) (hrf_8_2 ht)) ?_
              refine tK (l := xk_79) rfl rfl (fun _ _ _ _ _ => rfl) ?_
              refine tK (l := xk_79) rfl rfl (fun _ _ _ _ _ => rfl) ?_
              refine tK (l := xk_79) rfl rfl (fun _ _ _ _ _ => rfl) ?_
              refine tK (l := xk_79) rfl rfl (hAdd ⟨by omega, by omega⟩) ?_
              first | refine tK (l := xk_79) rfl rfl (hIastN (hShC1 _ hs (htg_8_1 ht) rfl ⟨by omega, by omega⟩) (htg_8_2 ht) rfl (by omega)) ?_ | refine tK (l := xk_79) rfl rfl (hIast (hShC1 _ hs (htg_8_1 ht) rfl ⟨by omega, by omega⟩) (htg_8_2 ht) (by omega) (by omega)) ?_
              refine tK (l := xk_79) rfl rfl (fun _ _ _ _ _ => rfl) ?_
              refine tRt (l := xk_79) rfl rfl (fun _ _ _ _ _ => rfl) ?_
              first | exact hQ | (exfalso; omega)
            · refine tK (l := xk_79) rfl rfl (fun _ _ _ _ _ => rfl) ?_
              refine tRt (l := xk_79) rfl rfl (fun _ _ _ _ _ => rfl) ?_
              first | exact hQ | (exfalso; omega)
        · refine tK (l := xk_79) rfl rfl (fun _ _ _ _ _ => rfl) ?_
          refine tRt (l := xk_79) rfl rfl (fun _ _ _ _ _ => rfl) ?_
          first | exact hQ | (exfalso; omega)
    · refine tK (l := xk_79) rfl rfl (fun _ _ _ _ _ => rfl) ?_
      refine tRt (l := xk_79) rfl rfl (fun _ _ _ _ _ => rfl) ?_
      first | exact hQ | (exfalso; omega)
end TXA
end
section
/-! ===== texts copied ===== -/
def hCpI (zs : List xV) (ph phi : xH) (t r f q i : Nat) : Prop := hSh zs phi ∧ (∀ a k, ¬ (a = t + 1 ∧ r * hWd t ≤ k ∧ k < r * hWd t + i) → hRd phi a k = hRd ph a k) ∧ (∀ j, j < i → hRd phi (t + 1) (r * hWd t + j) = hCd ph f q j) ∧ (∀ a k, hRl phi a k = hRl ph a k) ∧ (∀ a k, hRs phi a k = hRs ph a k)
theorem mul_uniq {w q r i j : Nat} (hi : i < w) (hj : j < w) (h : q * w + i = r * w + j) : q = r ∧ i = j := by
  rcases Nat.lt_trichotomy q r with h1 | h1 | h1
  · have := Nat.mul_le_mul_right w (show q + 1 ≤ r from h1)
    rw [Nat.succ_mul] at this
    omega
  · subst h1; exact ⟨rfl, by omega⟩
  · have := Nat.mul_le_mul_right w (show r + 1 ≤ q from h1)
    rw [Nat.succ_mul] at this
    omega
theorem hCp_step {zs : List xV} {ph phi : xH} {t r f q i : Nat} (hs : hSh zs phi) (hk : hTg (t + 1) = 101) (hrd : ∀ a k, ¬ (a = t + 1 ∧ r * hWd t ≤ k ∧ k < r * hWd t + i) → hRd phi a k = hRd ph a k) (hcp : ∀ j, j < i → hRd phi (t + 1) (r * hWd t + j) = hCd ph f q j) (hrl : ∀ a k, hRl phi a k = hRl ph a k) (hrs : ∀ a k, hRs phi a k = hRs ph a k) (hch : 0 ≤ hCd phi f q i ∧ hCd phi f q i ≤ 65535) (hsrc : hCd phi f q i = hCd ph f q i) (hz : r * hWd t + i < hSz (t + 1)) :
    (∀ a k, ¬ (a = t + 1 ∧ r * hWd t ≤ k ∧ k < r * hWd t + (i + 1)) → hRd (hUp phi (t + 1) (r * hWd t + i) (hCd phi f q i)) a k = hRd ph a k) ∧ (∀ j, j < i + 1 → hRd (hUp phi (t + 1) (r * hWd t + i) (hCd phi f q i)) (t + 1) (r * hWd t + j) = hCd ph f q j) ∧ (∀ a k, hRl (hUp phi (t + 1) (r * hWd t + i) (hCd phi f q i)) a k = hRl ph a k) ∧ (∀ a k, hRs (hUp phi (t + 1) (r * hWd t + i) (hCd phi f q i)) a k = hRs ph a k) := by
  have hki : hKi (hTg (t + 1)) (r * hWd t + i) = true := by rw [hk]; rfl
  have hr := hRd_up (x := hCd phi f q i) hs hki hz
  refine ⟨fun a k h => ?_, fun j hj => ?_, fun a k => by rw [hRl_up hs hki, hrl], fun a k => by rw [hRs_up hs hki, hrs]⟩
  · rw [hr, if_neg (fun e => h ⟨e.1, by omega⟩)]
    exact hrd a k (fun e => h ⟨e.1, by omega⟩)
  · rw [hr]
    by_cases e : j = i
    · subst e; rw [if_pos ⟨rfl, rfl⟩, hsrc]
    · rw [if_neg (by omega)]; exact hcp j (by omega)
section CPY
variable {d : Nat} {ph : xH} {zs : List xV} {g : Nat} {Q : xR → Prop} {t f r q n : Nat}
theorem s78loop (ht : hTg t = 8) (hf : hTg f = 8) (hw : hTW ph t) (hwf : hTW ph f) (hr : r < hRw t) (hq : q < hRw f) (hn : hRd ph (f + 2) q = (n : Int)) (hnw : n ≤ hWd t)
    (hEnd : ∀ (phi : xH) (o6 : Option xV), hCpI zs ph phi t r f q n → xT (d + 1) 78 85 (xlo [some (.inr (.inl (some t))), some (.inl (r : Int)), some (.inr (.inl (some f))), some (.inl (q : Int)), some (.inl (n : Int)), some (.inl (n : Int)), o6]) [] phi g Q) :
    ∀ (m i : Nat) (phi : xH) (o6 : Option xV), i + m = n → hCpI zs ph phi t r f q i → xT (d + 1) 78 31 (xlo [some (.inr (.inl (some t))), some (.inl (r : Int)), some (.inr (.inl (some f))), some (.inl (q : Int)), some (.inl (n : Int)), some (.inl (i : Int)), o6]) [] phi g Q := by
  intro m
  induction m with
  | zero =>
    intro i phi o6 him hI
    have e : i = n := by omega
    subst e
    obtain ⟨hs, -⟩ := id hI
    have hz := hTx_sz ht
    have hm := hRWI ht hr
    refine tK (l := xk_78) rfl rfl (fun _ _ _ _ _ => rfl) ?_
    refine tK (l := xk_78) rfl rfl (fun _ _ _ _ _ => rfl) ?_
    refine tIc_ge (l := xk_78) (pc' := 85) rfl rfl rfl (fun hc => ?_) (fun hc => ?_)
    · exfalso; omega
    · exact hEnd phi o6 hI
  | succ m ih =>
    intro i phi o6 him hI
    obtain ⟨hs, hrd, hcp, hrl, hrs⟩ := id hI
    have hz := hTx_sz ht
    have hm := hRWI ht hr
    have hwr := hw r hr
    have hwq := hwf q hq
    have hk1 := htg_8_1 ht
    have hfz := hTx_sz hf
    have hlen : ∀ j, hRd phi (f + 2) j = hRd ph (f + 2) j := fun j => hrd _ _ (fun h => by have := htg_8_2 hf; rw [h.1, hk1] at this; omega)
    have hwf2 : hTW phi f := fun j hj => by rw [hlen]; exact hwf j hj
    have hrw : f = t → hWd f = hWd t := fun h => by rw [h]
    have hsrc : hCd phi f q i = hCd ph f q i := by
      unfold hCd
      refine hrd _ _ (fun h => ?_)
      have e : f = t := by omega
      subst e
      obtain ⟨j, hj⟩ : ∃ j, q * hWd f + i = r * hWd f + j := ⟨q * hWd f + i - r * hWd f, by omega⟩
      have := mul_uniq (by omega) (by omega) hj
      omega
    have hch : 0 ≤ hCd phi f q i ∧ hCd phi f q i ≤ 65535 := hRd_ch hs (htg_8_1 hf)
    refine tK (l := xk_78) rfl rfl (fun _ _ _ _ _ => rfl) ?_
    refine tK (l := xk_78) rfl rfl (fun _ _ _ _ _ => rfl) ?_
    refine tIc_ge (l := xk_78) (pc' := 85) rfl rfl rfl (fun hc => ?_) (fun hc => ?_)
    · refine tK (l := xk_78) rfl rfl (fun _ _ _ _ _ => rfl) ?_
      refine tK (l := xk_78) rfl rfl (fun _ _ _ _ _ => rfl) ?_
      refine tK (l := xk_78) rfl rfl (hGetC hs rfl ht rfl (by decide) (by decide) (hCs_8 ht)) ?_
      refine tK (l := xk_78) rfl rfl (hMul ⟨by omega, by omega⟩) ?_
      refine tK (l := xk_78) rfl rfl (fun _ _ _ _ _ => rfl) ?_
      refine tK (l := xk_78) rfl rfl (hAdd ⟨by omega, by omega⟩) ?_
      refine tSt (l := xk_78) rfl rfl (fun _ _ _ _ _ => rfl) (Nat.le_of_ble_eq_true rfl) ?_
      refine tK (l := xk_78) rfl rfl (fun _ _ _ _ _ => rfl) ?_
      refine tIf_lt (l := xk_78) (pc' := 79) rfl rfl rfl (fun hc => ?_) (fun hc => ?_)
      · refine tSt (l := xk_78) rfl rfl (hIinc rfl (Nat.le_of_ble_eq_true rfl) ⟨by omega, by omega⟩) (Nat.le_of_ble_eq_true rfl) ?_
        refine tK (l := xk_78) rfl rfl (fun _ _ _ _ _ => rfl) ?_
        first | (exfalso; omega) | exact ih (i + 1) _ _ (by omega) ⟨hs, hCp_step hs hk1 hrd hcp hrl hrs hch hsrc (by have := hRW hr; omega)⟩
      · refine tK (l := xk_78) rfl rfl (fun _ _ _ _ _ => rfl) ?_
        refine tK (l := xk_78) rfl rfl (fun _ _ _ _ _ => rfl) ?_
        refine tK (l := xk_78) rfl rfl (hGetR (o := some (t + 1)) hs rfl ht rfl (by decide) (by decide) (hrf_8_1 ht)) ?_
        refine tK (l := xk_78) rfl rfl (hAlen1 hs (htg_8_1 ht) (by decide) (by decide)) ?_
        refine tIc_ge (l := xk_78) (pc' := 79) rfl rfl rfl (fun hc => ?_) (fun hc => ?_)
        · refine tK (l := xk_78) rfl rfl (fun _ _ _ _ _ => rfl) ?_
          refine tK (l := xk_78) rfl rfl (hGetR (o := some (t + 1)) hs rfl ht rfl (by decide) (by decide) (hrf_8_1 ht)) ?_
          refine tK (l := xk_78) rfl rfl (fun _ _ _ _ _ => rfl) ?_
          refine tK (l := xk_78) rfl rfl (fun _ _ _ _ _ => rfl) ?_
          refine tK (l := xk_78) rfl rfl (fun _ _ _ _ _ => rfl) ?_
          refine tK (l := xk_78) rfl rfl (fun _ _ _ _ _ => rfl) ?_
          refine tCa (l := xk_78) rfl rfl (hInvV (c := 8) hs rfl rfl rfl hf rfl (Nat.le_of_ble_eq_true rfl) (Nat.le_of_ble_eq_true rfl)) ?_
          refine s76 hs hf hwf2 hq (by rw [hlen, hn]; omega) ?_
          refine tKv ?_
          refine tK (l := xk_78) rfl rfl (hI2c ⟨by omega, by omega⟩) ?_
          first | refine tK (l := xk_78) rfl rfl (hCastN hs (htg_8_1 ht) rfl (by omega) ⟨by omega, by omega⟩) ?_ | refine tK (l := xk_78) rfl rfl (hCast hs (htg_8_1 ht) (by omega) (by omega) ⟨by omega, by omega⟩) ?_
          refine tSt (l := xk_78) rfl rfl (hIinc rfl (Nat.le_of_ble_eq_true rfl) ⟨by omega, by omega⟩) (Nat.le_of_ble_eq_true rfl) ?_
          refine tK (l := xk_78) rfl rfl (fun _ _ _ _ _ => rfl) ?_
          first | (exfalso; omega) | exact ih (i + 1) _ _ (by omega) ⟨(hShC1 _ hs (htg_8_1 ht) rfl ⟨by omega, by omega⟩), hCp_step hs hk1 hrd hcp hrl hrs hch hsrc (by have := hRW hr; omega)⟩
        · refine tSt (l := xk_78) rfl rfl (hIinc rfl (Nat.le_of_ble_eq_true rfl) ⟨by omega, by omega⟩) (Nat.le_of_ble_eq_true rfl) ?_
          refine tK (l := xk_78) rfl rfl (fun _ _ _ _ _ => rfl) ?_
          first | (exfalso; omega) | exact ih (i + 1) _ _ (by omega) ⟨hs, hCp_step hs hk1 hrd hcp hrl hrs hch hsrc (by have := hRW hr; omega)⟩
    · exfalso; omega
theorem a78 (hs : hSh zs ph) (ht : hTg t = 8) (hf : hTg f = 8) (hw : hTW ph t) (hwf : hTW ph f) (hr : r < hRw t) (hq : q < hRw f) {v : Option (List Int)} (hv : hTo ph f q = v) (hl : ∀ s, v = some s → s.length ≤ hWd t) (hQ : ∀ ph2, hTs zs ph ph2 t r v → Q (.inl none, ph2, g)) : xTC (d + 1) 78 [.inr (.inl (some t)), .inl (r : Int), .inr (.inl (some f)), .inl (q : Int)] ph g Q := by
  have hz := hTx_sz ht
  have hm := hRWI ht hr
  have hlo := hTo_lo hwf hq hv
  have hwq := hwf q hq
  have hlv : hLo v ≤ hWd t := by
    cases v with
    | none => show (-1 : Int) ≤ _; omega
    | some s => have := hl s rfl; show (s.length : Int) ≤ _; omega
  refine tEn (ls := [some (.inr (.inl (some t))), some (.inl (r : Int)), some (.inr (.inl (some f))), some (.inl (q : Int)), none, none, none]) (fun k => by match k with | 0 => rfl | 1 => rfl | 2 => rfl | 3 => rfl | 4 => rfl | 5 => rfl | 6 => rfl | k + 7 => rfl) ?_
  have hMain : ∀ (o6 : Option xV) (x : Int), x = hLo v → xT (d + 1) 78 31 (xlo [some (.inr (.inl (some t))), some (.inl (r : Int)), some (.inr (.inl (some f))), some (.inl (q : Int)), some (.inl x), some (.inl 0), o6]) [] ph g Q := by
    intro o6 x hx
    subst hx
    have hwr := hw r hr
    have hk2 := htg_8_2 ht
    cases v with
    | none =>
      refine tK (l := xk_78) rfl rfl (fun _ _ _ _ _ => rfl) ?_
      refine tK (l := xk_78) rfl rfl (fun _ _ _ _ _ => rfl) ?_
      refine tIc_ge (l := xk_78) (pc' := 85) rfl rfl rfl (fun hc => ?_) (fun hc => ?_)
      · exfalso
        have : (0 : Int) < -1 := hc
        omega
      refine tK (l := xk_78) rfl rfl (fun _ _ _ _ _ => rfl) ?_
      · refine tK (l := xk_78) rfl rfl (hGetR (o := some (t + 2)) hs rfl ht rfl (by decide) (by decide) (hrf_8_2 ht)) ?_
        refine tK (l := xk_78) rfl rfl (fun _ _ _ _ _ => rfl) ?_
        refine tK (l := xk_78) rfl rfl (fun _ _ _ _ _ => rfl) ?_
        first | refine tK (l := xk_78) rfl rfl (hIastN hs (htg_8_2 ht) rfl (by omega)) ?_ | refine tK (l := xk_78) rfl rfl (hIast hs (htg_8_2 ht) (by omega) (by omega)) ?_
        refine tRt (l := xk_78) rfl rfl (fun _ _ _ _ _ => rfl) ?_
        exact hQ _ (hTs_len hs ht hw hr (Or.inl rfl))
    | some s =>
      have hn : hRd ph (f + 2) q = (s.length : Int) := hlo
      have hls : s.length ≤ hWd t := hl s rfl
      refine s78loop ht hf hw hwf hr hq hn hls (fun phi o6 hI => ?_) s.length 0 ph o6 (by omega) ⟨hs, fun a k _ => rfl, fun j hj => by omega, fun _ _ => rfl, fun _ _ => rfl⟩
      obtain ⟨hs9, hrd, hcp, hrl, hrs⟩ := hI
      refine tK (l := xk_78) rfl rfl (fun _ _ _ _ _ => rfl) ?_
      refine tK (l := xk_78) rfl rfl (hGetR (o := some (t + 2)) hs9 rfl ht rfl (by decide) (by decide) (hrf_8_2 ht)) ?_
      refine tK (l := xk_78) rfl rfl (fun _ _ _ _ _ => rfl) ?_
      refine tK (l := xk_78) rfl rfl (fun _ _ _ _ _ => rfl) ?_
      first | refine tK (l := xk_78) rfl rfl (hIastN hs9 (htg_8_2 ht) rfl (by omega)) ?_ | refine tK (l := xk_78) rfl rfl (hIast hs9 (htg_8_2 ht) (by omega) (by omega)) ?_
      refine tRt (l := xk_78) rfl rfl (fun _ _ _ _ _ => rfl) ?_
      have hki : hKi (hTg (t + 2)) r = true := by rw [hk2]; rfl
      have hru := hRd_up (x := (s.length : Int)) hs9 hki (by omega)
      have hk1 := htg_8_1 ht
      have e2 : hRd (hUp phi (t + 2) r (s.length : Int)) (t + 2) r = (s.length : Int) := by rw [hru, if_pos ⟨rfl, rfl⟩]
      refine hQ _ (hTs_of (hShI1 _ hs9 hk2 rfl) hw hr (fun a k h1 h2 => ?_) (fun a k => by rw [hRl_up hs9 hki, hrl]) (fun a k => by rw [hRs_up hs9 hki, hrs]) (fun j hj => ?_) (fun i hi => ?_) (by rw [e2]; omega) ?_)
      · rw [hru, if_neg (fun q => h2 q.1)]; exact hrd a k (fun q => h1 q.1)
      · rw [hru, if_neg (fun q => hj q.2)]; exact hrd _ _ (fun q => by omega)
      · rw [hru, if_neg (by omega)]; exact hrd _ _ (fun q => by omega)
      · refine hTo_of e2 (fun k x hk => ?_)
        have hkl : k < s.length := (List.getElem?_eq_some_iff.mp hk).1
        unfold hCd
        rw [hru, if_neg (by omega), hcp k hkl]
        exact (hTo_get hv hk).2
  refine tK (l := xk_78) rfl rfl (fun _ _ _ _ _ => rfl) ?_
  refine tIf_lt (l := xk_78) (pc' := 13) rfl rfl rfl (fun hc => ?_) (fun hc => ?_)
  · refine tRt (l := xk_78) rfl rfl (fun _ _ _ _ _ => rfl) ?_
    exfalso; omega
  · refine tK (l := xk_78) rfl rfl (fun _ _ _ _ _ => rfl) ?_
    refine tK (l := xk_78) rfl rfl (fun _ _ _ _ _ => rfl) ?_
    refine tK (l := xk_78) rfl rfl (hGetR (o := some (t + 2)) hs rfl ht rfl (by decide) (by decide) (hrf_8_2 ht)) ?_
    refine tK (l := xk_78) rfl rfl (hAlen1 hs (htg_8_2 ht) (by decide) (by decide)) ?_
    refine tIc_lt (l := xk_78) (pc' := 14) rfl rfl rfl (fun hc => ?_) (fun hc => ?_)
    · refine tK (l := xk_78) rfl rfl (fun _ _ _ _ _ => rfl) ?_
      refine tK (l := xk_78) rfl rfl (fun _ _ _ _ _ => rfl) ?_
      refine tCa (l := xk_78) rfl rfl (hInvV (c := 8) hs rfl rfl rfl hf rfl (Nat.le_of_ble_eq_true rfl) (Nat.le_of_ble_eq_true rfl)) ?_
      refine s75 hs hf hq ?_
      refine tKv ?_
      rw [hlo]
      refine tK (l := xk_78) rfl rfl (fun _ _ _ _ _ => rfl) ?_
      refine tK (l := xk_78) rfl rfl (hGetC hs rfl ht rfl (by decide) (by decide) (hCs_8 ht)) ?_
      refine tK (l := xk_78) rfl rfl (fun _ _ _ _ _ => rfl) ?_
      refine tSt (l := xk_78) rfl rfl (fun _ _ _ _ _ => rfl) (Nat.le_of_ble_eq_true rfl) ?_
      refine tK (l := xk_78) rfl rfl (fun _ _ _ _ _ => rfl) ?_
      refine tSt (l := xk_78) rfl rfl (fun _ _ _ _ _ => rfl) (Nat.le_of_ble_eq_true rfl) ?_
      exact hMain _ _ (by first | rfl | (split <;> omega))
    · refine tRt (l := xk_78) rfl rfl (fun _ _ _ _ _ => rfl) ?_
      exfalso; omega
end CPY
end
section
/-! ===== what stays ===== -/
def hFr (S : List Nat) (ph ph2 : xH) : Prop := (∀ a k, a ∉ S → hRd ph2 a k = hRd ph a k) ∧ (∀ a k, hRl ph2 a k = hRl ph a k) ∧ (∀ a k, hRs ph2 a k = hRs ph a k)
theorem hFr.refl {S : List Nat} {ph : xH} : hFr S ph ph := ⟨fun _ _ _ => rfl, fun _ _ => rfl, fun _ _ => rfl⟩
theorem hFr.trans {S : List Nat} {a b c : xH} (h1 : hFr S a b) (h2 : hFr S b c) : hFr S a c := ⟨fun x k h => (h2.1 x k h).trans (h1.1 x k h), fun x k => (h2.2.1 x k).trans (h1.2.1 x k), fun x k => (h2.2.2 x k).trans (h1.2.2 x k)⟩
theorem hFr.mono {S T : List Nat} {a b : xH} (h : hFr S a b) (hST : ∀ x ∈ S, x ∈ T) : hFr T a b := ⟨fun x k hx => h.1 x k (fun q => hx (hST x q)), h.2.1, h.2.2⟩
theorem hFr.to {S : List Nat} {ph ph2 : xH} {t r : Nat} (h : hFr S ph ph2) (h1 : t + 1 ∉ S) (h2 : t + 2 ∉ S) : hTo ph2 t r = hTo ph t r := hTo_eq (fun k => h.1 _ k h1) (h.1 _ r h2)
theorem hFr.tw {S : List Nat} {ph ph2 : xH} {t : Nat} (h : hFr S ph ph2) (h2 : t + 2 ∉ S) (hw : hTW ph t) : hTW ph2 t := fun r hr => by rw [h.1 _ r h2]; exact hw r hr
theorem hTs.fr {zs : List xV} {ph ph2 : xH} {t r : Nat} {v : Option (List Int)} {S : List Nat} (h : hTs zs ph ph2 t r v) (h1 : t + 1 ∈ S) (h2 : t + 2 ∈ S) : hFr S ph ph2 := ⟨fun a k ha => h.2.1 a k (fun e => ha (e ▸ h1)) (fun e => ha (e ▸ h2)), h.2.2.1, h.2.2.2.1⟩
theorem hUp_fr {zs : List xV} {ph : xH} {a k : Nat} {x : Int} {S : List Nat} (hs : hSh zs ph) (hk : hKi (hTg a) k = true) (hz : k < hSz a) (h : a ∈ S) : hFr S ph (hUp ph a k x) :=
  ⟨fun b j hb => by rw [hRd_up hs hk hz]; exact if_neg (fun q => hb (by rw [q.1]; exact h)), fun b j => hRl_up hs hk b j, fun b j => hRs_up hs hk b j⟩
/-! ===== scopes ===== -/
abbrev xSc : Type := Nat → Option (List Int)
def hSl (ph : xH) : List xSc → Prop
  | [] => True
  | f :: t => (∀ n, n < 10 → hTo ph 50 (t.length * 10 + n) = f n) ∧ hSl ph t
def hSC (zs : List xV) (ph : xH) (scs : List xSc) : Prop := hSh zs ph ∧ hTW ph 50 ∧ hRd ph 49 1 = (scs.length : Int) ∧ scs.length ≤ 41 ∧ hSl ph scs
def lk : List xSc → Nat → Option (List Int)
  | [], _ => none
  | f :: t, n => match f n with
    | some v => some v
    | none => lk t n
def lkR : List xSc → Nat → Option Nat
  | [], _ => none
  | f :: t, n => match f n with
    | some _ => some (t.length * 10 + n)
    | none => lkR t n
def lkI : Option Nat → Int
  | none => -1
  | some r => (r : Int)
def dg (p : Nat) : List Int := if p < 10 then [48 + (p : Int)] else [48 + (p : Int) / 10, 48 + (p : Int) % 10]
def psc (p : Nat) (c : Int) : xSc := fun n => if n = 8 then some (dg p) else if n = 9 then some [c] else none
def scU (f : xSc) (n : Nat) (v : Option (List Int)) : xSc := fun j => if j = n then v else f j
theorem hSl_eq {ph ph2 : xH} : ∀ {scs : List xSc}, (∀ r, r < scs.length * 10 → hTo ph2 50 r = hTo ph 50 r) → hSl ph scs → hSl ph2 scs := by
  intro scs
  induction scs with
  | nil => intro _ _; trivial
  | cons f t ih =>
    intro h ⟨h1, h2⟩
    simp only [List.length_cons] at h
    exact ⟨fun n hn => by rw [h _ (by omega)]; exact h1 n hn, ih (fun r hr => h r (by omega)) h2⟩
theorem hSC.fr {zs : List xV} {ph ph2 : xH} {scs : List xSc} {S : List Nat} (h : hSC zs ph scs) (hs : hSh zs ph2) (hf : hFr S ph ph2) (h1 : 49 ∉ S) (h2 : 51 ∉ S) (h3 : 52 ∉ S) : hSC zs ph2 scs :=
  ⟨hs, hf.tw h3 h.2.1, by rw [hf.1 _ _ h1]; exact h.2.2.1, h.2.2.2.1, hSl_eq (fun r _ => hf.to h2 h3) h.2.2.2.2⟩
theorem lkR_some : ∀ {scs : List xSc} {n r : Nat}, n < 10 → lkR scs n = some r → r < scs.length * 10 := by
  intro scs
  induction scs with
  | nil => intro n r _ h; cases h
  | cons f t ih =>
    intro n r hn h
    simp only [lkR] at h
    cases hf : f n with
    | some v => rw [hf] at h; cases h; simp; omega
    | none => rw [hf] at h; have := ih hn h; simp; omega
theorem lkR_to {ph : xH} : ∀ {scs : List xSc} {n r : Nat}, n < 10 → hSl ph scs → lkR scs n = some r → hTo ph 50 r = lk scs n ∧ (lk scs n).isSome = true := by
  intro scs
  induction scs with
  | nil => intro n r _ _ h; cases h
  | cons f t ih =>
    intro n r hn ⟨h1, h2⟩ h
    simp only [lkR] at h
    simp only [lk]
    cases hf : f n with
    | some v => rw [hf] at h; cases h; rw [h1 n hn, hf]; exact ⟨rfl, rfl⟩
    | none => rw [hf] at h; exact ih hn h2 h
theorem lkR_none : ∀ {scs : List xSc} {n : Nat}, lkR scs n = none → lk scs n = none := by
  intro scs
  induction scs with
  | nil => intro n _; rfl
  | cons f t ih =>
    intro n h
    simp only [lkR] at h
    simp only [lk]
    cases hf : f n with
    | some v => rw [hf] at h; cases h
    | none => rw [hf] at h; exact ih h
theorem lk_lkR : ∀ {scs : List xSc} {n : Nat} {v : List Int}, lk scs n = some v → ∃ r, lkR scs n = some r := by
  intro scs n v h
  cases e : lkR scs n with
  | none => rw [lkR_none e] at h; cases h
  | some r => exact ⟨r, rfl⟩
section SCP
variable {d : Nat} {ph : xH} {zs : List xV} {g : Nat} {Q : xR → Prop} {scs : List xSc} {n : Nat}
theorem s43 (hs : hSh zs ph) {m : Nat} {x : Int} (hm : hRd ph 49 1 = (m : Int) + 1) (hm2 : m ≤ 41) (hx : 0 ≤ x ∧ x ≤ 100) (hQ : Q (.inl (some (.inl ((m : Int) * 10 + x))), ph, g)) : xTC d 43 [.inr (.inl (some 49)), .inl x] ph g Q := by
  refine tEn (ls := [some (.inr (.inl (some 49))), some (.inl x)]) (fun k => by match k with | 0 => rfl | 1 => rfl | k + 2 => rfl) ?_
  refine tK (l := xk_43) rfl rfl (fun _ _ _ _ _ => rfl) ?_
  refine tK (l := xk_43) rfl rfl (hGetI hs rfl rfl rfl (by decide) (by decide)) ?_
  refine tK (l := xk_43) rfl rfl (fun _ _ _ _ _ => rfl) ?_
  refine tK (l := xk_43) rfl rfl (hSub ⟨by omega, by omega⟩) ?_
  refine tK (l := xk_43) rfl rfl (fun _ _ _ _ _ => rfl) ?_
  refine tK (l := xk_43) rfl rfl (hMul ⟨by omega, by omega⟩) ?_
  refine tK (l := xk_43) rfl rfl (fun _ _ _ _ _ => rfl) ?_
  refine tK (l := xk_43) rfl rfl (hAdd ⟨by omega, by omega⟩) ?_
  refine tRt (l := xk_43) rfl rfl (fun _ _ _ _ _ => rfl) ?_
  have e : (hRd ph 49 1 - 1) * 10 + x = (m : Int) * 10 + x := by rw [hm]; omega
  rw [e]; exact hQ
theorem s46 {f : xSc} (h : hSC zs ph (f :: scs)) (hQ : ∀ ph2, hSC zs ph2 scs → hFr [49] ph ph2 → Q (.inl none, ph2, g)) : xTC d 46 [.inr (.inl (some 49))] ph g Q := by
  obtain ⟨hs, hw, h1, h2, h3⟩ := id h
  simp only [List.length_cons] at h1 h2
  refine tEn (ls := [some (.inr (.inl (some 49)))]) (fun k => by match k with | 0 => rfl | k + 1 => rfl) ?_
  refine tK (l := xk_46) rfl rfl (fun _ _ _ _ _ => rfl) ?_
  refine tK (l := xk_46) rfl rfl (fun _ _ _ _ _ => rfl) ?_
  refine tK (l := xk_46) rfl rfl (fun _ _ _ _ _ => rfl) ?_
  refine tK (l := xk_46) rfl rfl (hGetI hs rfl rfl rfl (by decide) (by decide)) ?_
  refine tK (l := xk_46) rfl rfl (fun _ _ _ _ _ => rfl) ?_
  refine tK (l := xk_46) rfl rfl (hSub ⟨by omega, by omega⟩) ?_
  refine tK (l := xk_46) rfl rfl (fun _ _ _ _ _ => rfl) ?_
  refine tK (l := xk_46) rfl rfl (hPutV hs rfl rfl (by decide) (by decide) rfl) ?_
  refine tRt (l := xk_46) rfl rfl (fun _ _ _ _ _ => rfl) ?_
  have e : (if (0 : Int) < hRd ph 49 1 - 1 then hRd ph 49 1 - 1 else 0) = (scs.length : Int) := by split <;> omega
  rw [e]
  have hf : hFr [49] ph (hUp ph 49 1 (scs.length : Int)) := hUp_fr hs rfl (by decide) (by decide)
  refine hQ _ ⟨(hShI1 _ hs rfl rfl), hf.tw (by decide) hw, ?_, by omega, hSl_eq (fun r _ => hf.to (by decide) (by decide)) h3.2⟩ hf
  rw [hRd_up hs rfl (by decide), if_pos ⟨rfl, rfl⟩]
theorem s45 (h : hSC zs ph scs) (hn : n < 10) (hQ : Q (.inl (some (.inl (lkI (lkR scs n)))), ph, g)) : xTC (d + 1) 45 [.inr (.inl (some 49)), .inl (n : Int)] ph g Q := by
  obtain ⟨hs, hw, h1, h2, h3⟩ := h
  have hz : hRw 50 = 410 := by decide +kernel
  have loop : ∀ (l : List xSc) (o3 : Option xV), l.length ≤ 41 → hSl ph l → lkR l n = lkR scs n → xT (d + 1) 45 7 (xlo [some (.inr (.inl (some 49))), some (.inl (n : Int)), some (.inl ((l.length : Int) - 1)), o3]) [] ph g Q := by
    intro l
    induction l with
    | nil =>
      intro o3 hl hsl he
      refine tK (l := xk_45) rfl rfl (fun _ _ _ _ _ => rfl) ?_
      refine tIf_lt (l := xk_45) (pc' := 38) rfl rfl rfl (fun hc => ?_) (fun hc => ?_)
      · refine tK (l := xk_45) rfl rfl (fun _ _ _ _ _ => rfl) ?_
        refine tRt (l := xk_45) rfl rfl (fun _ _ _ _ _ => rfl) ?_
        rw [← he] at hQ; exact hQ
      · exfalso; have : ¬ ((([] : List xSc).length : Int) - 1 < 0) := hc; simp at this
    | cons f t ih =>
      intro o3 hl hsl he
      simp only [List.length_cons] at hl
      have e : (((f :: t).length : Nat) : Int) - 1 = (t.length : Int) := by simp
      rw [e]
      have hv := hsl.1 n hn
      have hlo : ∀ v : List Int, hLo (some v) = (v.length : Int) := fun _ => rfl
      refine tK (l := xk_45) rfl rfl (fun _ _ _ _ _ => rfl) ?_
      refine tIf_lt (l := xk_45) (pc' := 38) rfl rfl rfl (fun hc => ?_) (fun hc => ?_)
      · exfalso; omega
      · refine tK (l := xk_45) rfl rfl (fun _ _ _ _ _ => rfl) ?_
        refine tK (l := xk_45) rfl rfl (fun _ _ _ _ _ => rfl) ?_
        refine tK (l := xk_45) rfl rfl (hMul ⟨by omega, by omega⟩) ?_
        refine tK (l := xk_45) rfl rfl (fun _ _ _ _ _ => rfl) ?_
        refine tK (l := xk_45) rfl rfl (hAdd ⟨by omega, by omega⟩) ?_
        refine tSt (l := xk_45) rfl rfl (fun _ _ _ _ _ => rfl) (Nat.le_of_ble_eq_true rfl) ?_
        refine tK (l := xk_45) rfl rfl (fun _ _ _ _ _ => rfl) ?_
        refine tK (l := xk_45) rfl rfl (hGetR (o := some 50) hs rfl rfl rfl (by decide) (by decide) rfl) ?_
        refine tK (l := xk_45) rfl rfl (fun _ _ _ _ _ => rfl) ?_
        have e3 : (t.length : Int) * 10 + (n : Int) = ((t.length * 10 + n : Nat) : Int) := by push_cast; rfl
        rw [e3]
        refine tCa (l := xk_45) rfl rfl (hInvV (c := 8) hs rfl rfl rfl rfl rfl (Nat.le_of_ble_eq_true rfl) (Nat.le_of_ble_eq_true rfl)) ?_
        refine a75 (r := t.length * 10 + n) hs rfl hw (by omega) rfl ?_
        refine tKv ?_
        rw [hv]
        cases hfn : f n with
        | none =>
          refine tK (l := xk_45) rfl rfl (fun _ _ _ _ _ => rfl) ?_
          refine tIc_eq (l := xk_45) (pc' := 32) rfl rfl rfl (fun hc => ?_) (fun hc => ?_)
          · refine tSt (l := xk_45) rfl rfl (hIinc rfl (Nat.le_of_ble_eq_true rfl) ⟨by omega, by omega⟩) (Nat.le_of_ble_eq_true rfl) ?_
            refine tK (l := xk_45) rfl rfl (fun _ _ _ _ _ => rfl) ?_
            have e2 : (t.length : Int) + -1 = (t.length : Int) - 1 := by omega
            rw [e2]
            exact ih _ (by omega) hsl.2 (by rw [← he]; simp only [lkR, hfn])
          · exact absurd rfl hc
        | some v =>
          refine tK (l := xk_45) rfl rfl (fun _ _ _ _ _ => rfl) ?_
          refine tIc_eq (l := xk_45) (pc' := 32) rfl rfl rfl (fun hc => ?_) (fun hc => ?_)
          · exfalso
            have h9 : ((v.length : Nat) : Int) = -1 := hc
            omega
          · refine tK (l := xk_45) rfl rfl (fun _ _ _ _ _ => rfl) ?_
            refine tRt (l := xk_45) rfl rfl (fun _ _ _ _ _ => rfl) ?_
            rw [← he] at hQ
            simp only [lkR, hfn, lkI] at hQ
            exact hQ
  refine tEn (ls := [some (.inr (.inl (some 49))), some (.inl (n : Int)), none, none]) (fun k => by match k with | 0 => rfl | 1 => rfl | 2 => rfl | 3 => rfl | k + 4 => rfl) ?_
  refine tK (l := xk_45) rfl rfl (fun _ _ _ _ _ => rfl) ?_
  refine tK (l := xk_45) rfl rfl (hGetI hs rfl rfl rfl (by decide) (by decide)) ?_
  refine tK (l := xk_45) rfl rfl (fun _ _ _ _ _ => rfl) ?_
  refine tK (l := xk_45) rfl rfl (hSub ⟨by omega, by omega⟩) ?_
  refine tSt (l := xk_45) rfl rfl (fun _ _ _ _ _ => rfl) (Nat.le_of_ble_eq_true rfl) ?_
  rw [h1]
  exact loop scs none h2 h3 rfl
theorem hTs.sh {zs : List xV} {ph ph2 : xH} {t r : Nat} {v : Option (List Int)} (h : hTs zs ph ph2 t r v) : hSh zs ph2 := h.1
theorem hTs.row {zs : List xV} {ph ph2 : xH} {t r : Nat} {v : Option (List Int)} (h : hTs zs ph ph2 t r v) : hTo ph2 t r = v := h.2.2.2.2.1
theorem hTs.rows {zs : List xV} {ph ph2 : xH} {t r j : Nat} {v : Option (List Int)} (h : hTs zs ph ph2 t r v) (hj : j < hRw t) (hn : j ≠ r) : hTo ph2 t j = hTo ph t j := h.2.2.2.2.2.1 j hj hn
theorem hTs.tw {zs : List xV} {ph ph2 : xH} {t r : Nat} {v : Option (List Int)} (h : hTs zs ph ph2 t r v) : hTW ph2 t := h.2.2.2.2.2.2
theorem hRw50 : hRw 50 = 410 := by decide +kernel
theorem hWd50 : hWd 50 = 24 := by decide +kernel
theorem hRow {m n : Nat} : (m : Int) * 10 + (n : Int) = ((m * 10 + n : Nat) : Int) := by push_cast; rfl
theorem s42 (h : hSC zs ph scs) (hl : scs.length ≤ 40) (hQ : ∀ ph2, hSC zs ph2 ((fun _ => none) :: scs) → hFr [49, 51, 52] ph ph2 → (∀ r, r < scs.length * 10 → hTo ph2 50 r = hTo ph 50 r) → Q (.inl (some (.inl 1)), ph2, g)) : xTC (d + 1) 42 [.inr (.inl (some 49))] ph g Q := by
  obtain ⟨hs, hw, h1, h2, h3⟩ := id h
  have hz := hRw50
  have loop : ∀ (m i : Nat) (phi : xH), i + m = 10 → hSh zs phi → hTW phi 50 → hRd phi 49 1 = (scs.length : Int) + 1 → (∀ r, r < scs.length * 10 → hTo phi 50 r = hTo ph 50 r) → (∀ j, j < i → hTo phi 50 (scs.length * 10 + j) = none) → hFr [49, 51, 52] ph phi → xT (d + 1) 42 23 (xlo [some (.inr (.inl (some 49))), some (.inl (i : Int))]) [] phi g Q := by
    intro m
    induction m with
    | zero =>
      intro i phi him hs hw e1 e2 e3 e4
      refine tK (l := xk_42) rfl rfl (fun _ _ _ _ _ => rfl) ?_
      refine tK (l := xk_42) rfl rfl (fun _ _ _ _ _ => rfl) ?_
      refine tIc_ge (l := xk_42) (pc' := 47) rfl rfl rfl (fun hc => ?_) (fun hc => ?_)
      · exfalso; omega
      · refine tK (l := xk_42) rfl rfl (fun _ _ _ _ _ => rfl) ?_
        refine tRt (l := xk_42) rfl rfl (fun _ _ _ _ _ => rfl) ?_
        refine hQ phi ⟨hs, hw, by rw [e1]; simp, by simp; omega, ⟨fun n hn => e3 n (by omega), hSl_eq e2 h3⟩⟩ e4 e2
    | succ m ih =>
      intro i phi him hs hw e1 e2 e3 e4
      refine tK (l := xk_42) rfl rfl (fun _ _ _ _ _ => rfl) ?_
      refine tK (l := xk_42) rfl rfl (fun _ _ _ _ _ => rfl) ?_
      refine tIc_ge (l := xk_42) (pc' := 47) rfl rfl rfl (fun hc => ?_) (fun hc => ?_)
      · refine tK (l := xk_42) rfl rfl (fun _ _ _ _ _ => rfl) ?_
        refine tK (l := xk_42) rfl rfl (hGetR (o := some 50) hs rfl rfl rfl (by decide) (by decide) rfl) ?_
        refine tK (l := xk_42) rfl rfl (fun _ _ _ _ _ => rfl) ?_
        refine tK (l := xk_42) rfl rfl (fun _ _ _ _ _ => rfl) ?_
        refine tCa (l := xk_42) rfl rfl (hInvV (c := 5) hs rfl rfl rfl rfl rfl (Nat.le_of_ble_eq_true rfl) (Nat.le_of_ble_eq_true rfl)) ?_
        refine s43 hs e1 (by omega) ⟨by omega, by omega⟩ ?_
        refine tKv ?_
        rw [hRow]
        refine tCa (l := xk_42) rfl rfl (hInvV (c := 8) hs rfl rfl rfl rfl rfl (Nat.le_of_ble_eq_true rfl) (Nat.le_of_ble_eq_true rfl)) ?_
        refine a80 hs rfl hw (by omega) (fun ph2 hts => ?_)
        refine tKn ?_
        refine tSt (l := xk_42) rfl rfl (hIinc rfl (Nat.le_of_ble_eq_true rfl) ⟨by omega, by omega⟩) (Nat.le_of_ble_eq_true rfl) ?_
        refine tK (l := xk_42) rfl rfl (fun _ _ _ _ _ => rfl) ?_
        refine ih (i + 1) ph2 (by omega) hts.sh hts.tw (by rw [(hts.fr (S := [51, 52]) (by decide) (by decide)).1 _ _ (by decide)]; exact e1) (fun r hr => by rw [hts.rows (by omega) (by omega)]; exact e2 r hr) (fun j hj => ?_) (e4.trans (hts.fr (by decide) (by decide)))
        by_cases e : j = i
        · rw [e]; exact hts.row
        · rw [hts.rows (by omega) (by omega)]; exact e3 j (by omega)
      · exfalso; omega
  refine tEn (ls := [some (.inr (.inl (some 49))), none]) (fun k => by match k with | 0 => rfl | 1 => rfl | k + 2 => rfl) ?_
  refine tK (l := xk_42) rfl rfl (fun _ _ _ _ _ => rfl) ?_
  refine tK (l := xk_42) rfl rfl (hGetI hs rfl rfl rfl (by decide) (by decide)) ?_
  refine tK (l := xk_42) rfl rfl (fun _ _ _ _ _ => rfl) ?_
  refine tIc_le (l := xk_42) (pc' := 11) rfl rfl rfl (fun hc => ?_) (fun hc => ?_)
  · exfalso; omega
  · refine tK (l := xk_42) rfl rfl (fun _ _ _ _ _ => rfl) ?_
    refine tK (l := xk_42) rfl rfl (fun _ _ _ _ _ => rfl) ?_
    refine tK (l := xk_42) rfl rfl (hGetI hs rfl rfl rfl (by decide) (by decide)) ?_
    refine tK (l := xk_42) rfl rfl (fun _ _ _ _ _ => rfl) ?_
    refine tK (l := xk_42) rfl rfl (hAdd ⟨by omega, by omega⟩) ?_
    refine tK (l := xk_42) rfl rfl (hPutV hs rfl rfl (by decide) (by decide) rfl) ?_
    refine tK (l := xk_42) rfl rfl (fun _ _ _ _ _ => rfl) ?_
    refine tSt (l := xk_42) rfl rfl (fun _ _ _ _ _ => rfl) (Nat.le_of_ble_eq_true rfl) ?_
    rw [h1]
    have hf : hFr [49, 51, 52] ph (hUp ph 49 1 ((scs.length : Int) + 1)) := hUp_fr hs rfl (by decide) (by decide)
    have hg : hFr [49] ph (hUp ph 49 1 ((scs.length : Int) + 1)) := hUp_fr hs rfl (by decide) (by decide)
    exact loop 10 0 _ rfl (hShI1 _ hs rfl rfl) (hg.tw (by decide) hw) (by rw [hRd_up hs rfl (by decide), if_pos ⟨rfl, rfl⟩]) (fun r _ => hg.to (by decide) (by decide)) (fun j hj => by omega) hf
theorem s44 {f0 : xSc} {f q : Nat} {v : Option (List Int)} (h : hSC zs ph (f0 :: scs)) (hn : n < 10) (hf : hTg f = 8) (hwf : hTW ph f) (hq : q < hRw f) (hv : hTo ph f q = v) (hl : ∀ s, v = some s → s.length ≤ 24) (hQ : ∀ ph2, hSC zs ph2 (scU f0 n v :: scs) → hFr [51, 52] ph ph2 → (∀ r, r < scs.length * 10 → hTo ph2 50 r = hTo ph 50 r) → Q (.inl none, ph2, g)) : xTC (d + 2) 44 [.inr (.inl (some 49)), .inl (n : Int), .inr (.inl (some f)), .inl (q : Int)] ph g Q := by
  obtain ⟨hs, hw, h1, h2, h3⟩ := id h
  simp only [List.length_cons] at h1 h2
  have hz := hRw50
  refine tEn (ls := [some (.inr (.inl (some 49))), some (.inl (n : Int)), some (.inr (.inl (some f))), some (.inl (q : Int))]) (fun k => by match k with | 0 => rfl | 1 => rfl | 2 => rfl | 3 => rfl | k + 4 => rfl) ?_
  refine tK (l := xk_44) rfl rfl (fun _ _ _ _ _ => rfl) ?_
  refine tK (l := xk_44) rfl rfl (hGetR (o := some 50) hs rfl rfl rfl (by decide) (by decide) rfl) ?_
  refine tK (l := xk_44) rfl rfl (fun _ _ _ _ _ => rfl) ?_
  refine tK (l := xk_44) rfl rfl (fun _ _ _ _ _ => rfl) ?_
  refine tCa (l := xk_44) rfl rfl (hInvV (c := 5) hs rfl rfl rfl rfl rfl (Nat.le_of_ble_eq_true rfl) (Nat.le_of_ble_eq_true rfl)) ?_
  refine s43 hs (m := scs.length) (by rw [h1]; simp) (by omega) ⟨by omega, by omega⟩ ?_
  refine tKv ?_
  rw [hRow]
  refine tK (l := xk_44) rfl rfl (fun _ _ _ _ _ => rfl) ?_
  refine tK (l := xk_44) rfl rfl (fun _ _ _ _ _ => rfl) ?_
  refine tCa (l := xk_44) rfl rfl (hInvV (c := 8) hs rfl rfl rfl rfl rfl (Nat.le_of_ble_eq_true rfl) (Nat.le_of_ble_eq_true rfl)) ?_
  refine a78 hs rfl hf hw hwf (by omega) hq hv (by rw [hWd50]; exact hl) (fun ph2 hts => ?_)
  refine tKn ?_
  refine tRt (l := xk_44) rfl rfl (fun _ _ _ _ _ => rfl) ?_
  have hfr := hts.fr (S := [51, 52]) (by decide) (by decide)
  refine hQ _ ⟨hts.sh, hts.tw, by rw [hfr.1 _ _ (by decide), h1]; simp, by simp; omega, ⟨fun j hj => ?_, hSl_eq (fun r hr => hts.rows (by omega) (by omega)) h3.2⟩⟩ hfr (fun r hr => hts.rows (by omega) (by omega))
  unfold scU
  by_cases e : j = n
  · rw [e, if_pos rfl]; exact hts.row
  · rw [if_neg e, hts.rows (by omega) (by omega)]; exact h3.1 j hj
theorem s47 {r p : Nat} {mt : List Int} {c : Int} (h : hSC zs ph scs) (hl : scs.length ≤ 40) (hr : r < scs.length * 10) (hmt : hTo ph 50 r = some mt) (hc9 : mt[p]? = some c) (hQ : ∀ ph2, hSC zs ph2 (psc p c :: scs) → hFr [49, 51, 52] ph ph2 → (∀ r, r < scs.length * 10 → hTo ph2 50 r = hTo ph 50 r) → Q (.inl (some (.inl 1)), ph2, g)) : xTC (d + 2) 47 [.inr (.inl (some 49)), .inl (r : Int), .inl (p : Int)] ph g Q := by
  obtain ⟨hs, hw, h1, h2, h3⟩ := id h
  have hz := hRw50
  have hw24 := hWd50
  have hml : mt.length ≤ 24 := by have := hTo_len hw (show r < hRw 50 by omega) hmt; omega
  have hpl : p < mt.length := (List.getElem?_eq_some_iff.mp hc9).1
  have hcc : 0 ≤ c ∧ c ≤ 65535 := hTo_ch hs rfl hmt c (List.mem_of_getElem? hc9)
  refine tEn (ls := [some (.inr (.inl (some 49))), some (.inl (r : Int)), some (.inl (p : Int)), none, none]) (fun k => by match k with | 0 => rfl | 1 => rfl | 2 => rfl | 3 => rfl | 4 => rfl | k + 5 => rfl) ?_
  refine tK (l := xk_47) rfl rfl (fun _ _ _ _ _ => rfl) ?_
  refine tCa (l := xk_47) rfl rfl (hInvV (c := 5) hs rfl rfl rfl rfl rfl (Nat.le_of_ble_eq_true rfl) (Nat.le_of_ble_eq_true rfl)) ?_
  refine s42 h hl (fun ph1 q1 f1 r1 => ?_)
  refine tKv ?_
  obtain ⟨hs1, hw1, h11, h12, h13⟩ := id q1
  simp only [List.length_cons] at h11 h12
  refine tIf_ne (l := xk_47) (pc' := 9) rfl rfl rfl (fun hc => ?_) (fun hc => ?_)
  · exact absurd hc (by decide)
  · refine tK (l := xk_47) rfl rfl (fun _ _ _ _ _ => rfl) ?_
    refine tK (l := xk_47) rfl rfl (fun _ _ _ _ _ => rfl) ?_
    refine tCa (l := xk_47) rfl rfl (hInvV (c := 5) hs1 rfl rfl rfl rfl rfl (Nat.le_of_ble_eq_true rfl) (Nat.le_of_ble_eq_true rfl)) ?_
    refine s43 hs1 (m := scs.length) (by rw [h11]; simp) (by omega) ⟨by omega, by omega⟩ ?_
    refine tKv ?_
    rw [show (scs.length : Int) * 10 + 8 = ((scs.length * 10 + 8 : Nat) : Int) by push_cast; rfl]
    refine tSt (l := xk_47) rfl rfl (fun _ _ _ _ _ => rfl) (Nat.le_of_ble_eq_true rfl) ?_
    refine tK (l := xk_47) rfl rfl (fun _ _ _ _ _ => rfl) ?_
    refine tK (l := xk_47) rfl rfl (hGetR (o := some 50) hs1 rfl rfl rfl (by decide) (by decide) rfl) ?_
    refine tK (l := xk_47) rfl rfl (fun _ _ _ _ _ => rfl) ?_
    refine tCa (l := xk_47) rfl rfl (hInvV (c := 8) hs1 rfl rfl rfl rfl rfl (Nat.le_of_ble_eq_true rfl) (Nat.le_of_ble_eq_true rfl)) ?_
    refine a74 hs1 rfl hw1 (r := scs.length * 10 + 8) (by omega) (fun ph2 t2 => ?_)
    refine tKn ?_
    have g2 := t2.fr (S := [49, 51, 52]) (by decide) (by decide)
    have e1 : hRd ph2 49 1 = (scs.length : Int) + 1 := by rw [(t2.fr (S := [51, 52]) (by decide) (by decide)).1 _ _ (by decide), h11]; simp
    refine tK (l := xk_47) rfl rfl (fun _ _ _ _ _ => rfl) ?_
    refine tK (l := xk_47) rfl rfl (fun _ _ _ _ _ => rfl) ?_
    refine tIc_lt (l := xk_47) (pc' := 49) rfl rfl rfl (fun hc => ?_) (fun hc => ?_)
    · refine tK (l := xk_47) rfl rfl (fun _ _ _ _ _ => rfl) ?_
      refine tK (l := xk_47) rfl rfl (hGetR (o := some 50) t2.sh rfl rfl rfl (by decide) (by decide) rfl) ?_
      refine tK (l := xk_47) rfl rfl (fun _ _ _ _ _ => rfl) ?_
      refine tK (l := xk_47) rfl rfl (fun _ _ _ _ _ => rfl) ?_
      refine tK (l := xk_47) rfl rfl (fun _ _ _ _ _ => rfl) ?_
      refine tK (l := xk_47) rfl rfl (fun _ _ _ _ _ => rfl) ?_
      refine tK (l := xk_47) rfl rfl (hRem ⟨by omega, by omega⟩) ?_
      refine tK (l := xk_47) rfl rfl (hAdd ⟨by omega, by omega⟩) ?_
      refine tCa (l := xk_47) rfl rfl (hInvV (c := 8) t2.sh rfl rfl rfl rfl rfl (Nat.le_of_ble_eq_true rfl) (Nat.le_of_ble_eq_true rfl)) ?_
      refine a79 t2.sh rfl t2.tw (r := scs.length * 10 + 8) (s := []) (by omega) t2.row (by rw [hw24]; simp) ⟨by omega, by omega⟩ (fun ph6 t6 => ?_)
      refine tKv ?_
      refine tK (l := xk_47) rfl rfl (fun _ _ _ _ _ => rfl) ?_
      have ff : hFr [49, 51, 52] ph ph6 := f1.trans (g2.trans (t6.fr (by decide) (by decide)))
      have rr : ∀ j, j < scs.length * 10 → hTo ph6 50 j = hTo ph 50 j := fun j hj => by rw [t6.rows (by omega) (by omega), t2.rows (by omega) (by omega)]; exact r1 j hj
      have e9 : hRd ph6 49 1 = (scs.length : Int) + 1 := by rw [(t6.fr (S := [51, 52]) (by decide) (by decide)).1 _ _ (by decide)]; exact e1
      have nn : ∀ n, n < 10 → n ≠ 8 → hTo ph6 50 (scs.length * 10 + n) = none := fun n hn h8 => by rw [t6.rows (by omega) (by omega), t2.rows (by omega) (by omega)]; exact h13.1 n hn
      have kk : hTo ph6 50 (scs.length * 10 + 8) = some (dg p) := by rw [t6.row]; unfold dg; rw [if_pos (by omega)]; simp; omega
      refine tK (l := xk_47) rfl rfl (fun _ _ _ _ _ => rfl) ?_
      refine tK (l := xk_47) rfl rfl (fun _ _ _ _ _ => rfl) ?_
      refine tCa (l := xk_47) rfl rfl (hInvV (c := 5) t6.sh rfl rfl rfl rfl rfl (Nat.le_of_ble_eq_true rfl) (Nat.le_of_ble_eq_true rfl)) ?_
      refine s43 t6.sh (m := scs.length) e9 (by omega) ⟨by omega, by omega⟩ ?_
      refine tKv ?_
      rw [show (scs.length : Int) * 10 + 9 = ((scs.length * 10 + 9 : Nat) : Int) by push_cast; rfl]
      refine tSt (l := xk_47) rfl rfl (fun _ _ _ _ _ => rfl) (Nat.le_of_ble_eq_true rfl) ?_
      refine tK (l := xk_47) rfl rfl (fun _ _ _ _ _ => rfl) ?_
      refine tK (l := xk_47) rfl rfl (hGetR (o := some 50) t6.sh rfl rfl rfl (by decide) (by decide) rfl) ?_
      refine tK (l := xk_47) rfl rfl (fun _ _ _ _ _ => rfl) ?_
      refine tCa (l := xk_47) rfl rfl (hInvV (c := 8) t6.sh rfl rfl rfl rfl rfl (Nat.le_of_ble_eq_true rfl) (Nat.le_of_ble_eq_true rfl)) ?_
      refine a74 t6.sh rfl t6.tw (r := scs.length * 10 + 9) (by omega) (fun ph4 t4 => ?_)
      refine tKn ?_
      refine tK (l := xk_47) rfl rfl (fun _ _ _ _ _ => rfl) ?_
      refine tK (l := xk_47) rfl rfl (hGetR (o := some 50) t4.sh rfl rfl rfl (by decide) (by decide) rfl) ?_
      refine tK (l := xk_47) rfl rfl (fun _ _ _ _ _ => rfl) ?_
      refine tK (l := xk_47) rfl rfl (fun _ _ _ _ _ => rfl) ?_
      refine tK (l := xk_47) rfl rfl (hGetR (o := some 50) t4.sh rfl rfl rfl (by decide) (by decide) rfl) ?_
      refine tK (l := xk_47) rfl rfl (fun _ _ _ _ _ => rfl) ?_
      refine tK (l := xk_47) rfl rfl (fun _ _ _ _ _ => rfl) ?_
      refine tCa (l := xk_47) rfl rfl (hInvV (c := 8) t4.sh rfl rfl rfl rfl rfl (Nat.le_of_ble_eq_true rfl) (Nat.le_of_ble_eq_true rfl)) ?_
      refine a76 t4.sh rfl t4.tw (r := r) (k := p) (s := mt) (x := c) (by omega) (by rw [t4.rows (by omega) (by omega)]; rw [rr r (by omega)]; exact hmt) hc9 ?_
      refine tKv ?_
      refine tCa (l := xk_47) rfl rfl (hInvV (c := 8) t4.sh rfl rfl rfl rfl rfl (Nat.le_of_ble_eq_true rfl) (Nat.le_of_ble_eq_true rfl)) ?_
      refine a79 t4.sh rfl t4.tw (r := scs.length * 10 + 9) (s := []) (by omega) t4.row (by rw [hw24]; simp) hcc (fun ph5 t5 => ?_)
      refine tKv ?_
      refine tK (l := xk_47) rfl rfl (fun _ _ _ _ _ => rfl) ?_
      refine tK (l := xk_47) rfl rfl (fun _ _ _ _ _ => rfl) ?_
      refine tRt (l := xk_47) rfl rfl (fun _ _ _ _ _ => rfl) ?_
      have f9 : hFr [49, 51, 52] ph ph5 := (ff.trans (t4.fr (by decide) (by decide))).trans (t5.fr (by decide) (by decide))
      have q9 : ∀ j, j < 410 → j ≠ scs.length * 10 + 9 → hTo ph5 50 j = hTo ph6 50 j := fun j hj hn => by rw [t5.rows (by omega) hn, t4.rows (by omega) hn]
      refine hQ ph5 ⟨t5.sh, t5.tw, ?_, by simp; omega, ⟨fun n hn => ?_, hSl_eq (fun j hj => by rw [q9 j (by omega) (by omega)]; exact rr j hj) h3⟩⟩ f9 (fun j hj => by rw [q9 j (by omega) (by omega)]; exact rr j hj)
      · rw [(t5.fr (S := [51, 52]) (by decide) (by decide)).1 _ _ (by decide), (t4.fr (S := [51, 52]) (by decide) (by decide)).1 _ _ (by decide), e9]; simp
      · unfold psc
        by_cases e8 : n = 8
        · rw [if_pos e8, e8, q9 _ (by omega) (by omega)]; exact kk
        · rw [if_neg e8]
          by_cases en : n = 9
          · rw [if_pos en, en, t5.row]; rfl
          · rw [if_neg en, q9 _ (by omega) (by omega)]; exact nn n hn e8
    · refine tK (l := xk_47) rfl rfl (fun _ _ _ _ _ => rfl) ?_
      refine tK (l := xk_47) rfl rfl (hGetR (o := some 50) t2.sh rfl rfl rfl (by decide) (by decide) rfl) ?_
      refine tK (l := xk_47) rfl rfl (fun _ _ _ _ _ => rfl) ?_
      refine tK (l := xk_47) rfl rfl (fun _ _ _ _ _ => rfl) ?_
      refine tK (l := xk_47) rfl rfl (fun _ _ _ _ _ => rfl) ?_
      refine tK (l := xk_47) rfl rfl (fun _ _ _ _ _ => rfl) ?_
      refine tK (l := xk_47) rfl rfl (hDiv ⟨by omega, by omega⟩) ?_
      refine tK (l := xk_47) rfl rfl (fun _ _ _ _ _ => rfl) ?_
      refine tK (l := xk_47) rfl rfl (hRem ⟨by omega, by omega⟩) ?_
      refine tK (l := xk_47) rfl rfl (hAdd ⟨by omega, by omega⟩) ?_
      refine tCa (l := xk_47) rfl rfl (hInvV (c := 8) t2.sh rfl rfl rfl rfl rfl (Nat.le_of_ble_eq_true rfl) (Nat.le_of_ble_eq_true rfl)) ?_
      refine a79 t2.sh rfl t2.tw (r := scs.length * 10 + 8) (s := []) (by omega) t2.row (by rw [hw24]; simp) ⟨by omega, by omega⟩ (fun ph3 t3 => ?_)
      refine tKv ?_
      refine tK (l := xk_47) rfl rfl (fun _ _ _ _ _ => rfl) ?_
      have hd : (p : Int) / 10 % 10 = (p : Int) / 10 := by omega
      refine tK (l := xk_47) rfl rfl (fun _ _ _ _ _ => rfl) ?_
      refine tK (l := xk_47) rfl rfl (hGetR (o := some 50) t3.sh rfl rfl rfl (by decide) (by decide) rfl) ?_
      refine tK (l := xk_47) rfl rfl (fun _ _ _ _ _ => rfl) ?_
      refine tK (l := xk_47) rfl rfl (fun _ _ _ _ _ => rfl) ?_
      refine tK (l := xk_47) rfl rfl (fun _ _ _ _ _ => rfl) ?_
      refine tK (l := xk_47) rfl rfl (fun _ _ _ _ _ => rfl) ?_
      refine tK (l := xk_47) rfl rfl (hRem ⟨by omega, by omega⟩) ?_
      refine tK (l := xk_47) rfl rfl (hAdd ⟨by omega, by omega⟩) ?_
      refine tCa (l := xk_47) rfl rfl (hInvV (c := 8) t3.sh rfl rfl rfl rfl rfl (Nat.le_of_ble_eq_true rfl) (Nat.le_of_ble_eq_true rfl)) ?_
      refine a79 t3.sh rfl t3.tw (r := scs.length * 10 + 8) (s := [48 + (p : Int) / 10 % 10]) (by omega) t3.row (by rw [hw24]; simp) ⟨by omega, by omega⟩ (fun ph6 t6 => ?_)
      refine tKv ?_
      refine tK (l := xk_47) rfl rfl (fun _ _ _ _ _ => rfl) ?_
      have ff : hFr [49, 51, 52] ph ph6 := f1.trans ((g2.trans (t3.fr (by decide) (by decide))).trans (t6.fr (by decide) (by decide)))
      have rr : ∀ j, j < scs.length * 10 → hTo ph6 50 j = hTo ph 50 j := fun j hj => by rw [t6.rows (by omega) (by omega), t3.rows (by omega) (by omega), t2.rows (by omega) (by omega)]; exact r1 j hj
      have e9 : hRd ph6 49 1 = (scs.length : Int) + 1 := by rw [(t6.fr (S := [51, 52]) (by decide) (by decide)).1 _ _ (by decide), (t3.fr (S := [51, 52]) (by decide) (by decide)).1 _ _ (by decide)]; exact e1
      have nn : ∀ n, n < 10 → n ≠ 8 → hTo ph6 50 (scs.length * 10 + n) = none := fun n hn h8 => by rw [t6.rows (by omega) (by omega), t3.rows (by omega) (by omega), t2.rows (by omega) (by omega)]; exact h13.1 n hn
      have kk : hTo ph6 50 (scs.length * 10 + 8) = some (dg p) := by rw [t6.row]; unfold dg; rw [if_neg (by omega), hd]; rfl
      refine tK (l := xk_47) rfl rfl (fun _ _ _ _ _ => rfl) ?_
      refine tK (l := xk_47) rfl rfl (fun _ _ _ _ _ => rfl) ?_
      refine tCa (l := xk_47) rfl rfl (hInvV (c := 5) t6.sh rfl rfl rfl rfl rfl (Nat.le_of_ble_eq_true rfl) (Nat.le_of_ble_eq_true rfl)) ?_
      refine s43 t6.sh (m := scs.length) e9 (by omega) ⟨by omega, by omega⟩ ?_
      refine tKv ?_
      rw [show (scs.length : Int) * 10 + 9 = ((scs.length * 10 + 9 : Nat) : Int) by push_cast; rfl]
      refine tSt (l := xk_47) rfl rfl (fun _ _ _ _ _ => rfl) (Nat.le_of_ble_eq_true rfl) ?_
      refine tK (l := xk_47) rfl rfl (fun _ _ _ _ _ => rfl) ?_
      refine tK (l := xk_47) rfl rfl (hGetR (o := some 50) t6.sh rfl rfl rfl (by decide) (by decide) rfl) ?_
      refine tK (l := xk_47) rfl rfl (fun _ _ _ _ _ => rfl) ?_
      refine tCa (l := xk_47) rfl rfl (hInvV (c := 8) t6.sh rfl rfl rfl rfl rfl (Nat.le_of_ble_eq_true rfl) (Nat.le_of_ble_eq_true rfl)) ?_
      refine a74 t6.sh rfl t6.tw (r := scs.length * 10 + 9) (by omega) (fun ph4 t4 => ?_)
      refine tKn ?_
      refine tK (l := xk_47) rfl rfl (fun _ _ _ _ _ => rfl) ?_
      refine tK (l := xk_47) rfl rfl (hGetR (o := some 50) t4.sh rfl rfl rfl (by decide) (by decide) rfl) ?_
      refine tK (l := xk_47) rfl rfl (fun _ _ _ _ _ => rfl) ?_
      refine tK (l := xk_47) rfl rfl (fun _ _ _ _ _ => rfl) ?_
      refine tK (l := xk_47) rfl rfl (hGetR (o := some 50) t4.sh rfl rfl rfl (by decide) (by decide) rfl) ?_
      refine tK (l := xk_47) rfl rfl (fun _ _ _ _ _ => rfl) ?_
      refine tK (l := xk_47) rfl rfl (fun _ _ _ _ _ => rfl) ?_
      refine tCa (l := xk_47) rfl rfl (hInvV (c := 8) t4.sh rfl rfl rfl rfl rfl (Nat.le_of_ble_eq_true rfl) (Nat.le_of_ble_eq_true rfl)) ?_
      refine a76 t4.sh rfl t4.tw (r := r) (k := p) (s := mt) (x := c) (by omega) (by rw [t4.rows (by omega) (by omega)]; rw [rr r (by omega)]; exact hmt) hc9 ?_
      refine tKv ?_
      refine tCa (l := xk_47) rfl rfl (hInvV (c := 8) t4.sh rfl rfl rfl rfl rfl (Nat.le_of_ble_eq_true rfl) (Nat.le_of_ble_eq_true rfl)) ?_
      refine a79 t4.sh rfl t4.tw (r := scs.length * 10 + 9) (s := []) (by omega) t4.row (by rw [hw24]; simp) hcc (fun ph5 t5 => ?_)
      refine tKv ?_
      refine tK (l := xk_47) rfl rfl (fun _ _ _ _ _ => rfl) ?_
      refine tK (l := xk_47) rfl rfl (fun _ _ _ _ _ => rfl) ?_
      refine tRt (l := xk_47) rfl rfl (fun _ _ _ _ _ => rfl) ?_
      have f9 : hFr [49, 51, 52] ph ph5 := (ff.trans (t4.fr (by decide) (by decide))).trans (t5.fr (by decide) (by decide))
      have q9 : ∀ j, j < 410 → j ≠ scs.length * 10 + 9 → hTo ph5 50 j = hTo ph6 50 j := fun j hj hn => by rw [t5.rows (by omega) hn, t4.rows (by omega) hn]
      refine hQ ph5 ⟨t5.sh, t5.tw, ?_, by simp; omega, ⟨fun n hn => ?_, hSl_eq (fun j hj => by rw [q9 j (by omega) (by omega)]; exact rr j hj) h3⟩⟩ f9 (fun j hj => by rw [q9 j (by omega) (by omega)]; exact rr j hj)
      · rw [(t5.fr (S := [51, 52]) (by decide) (by decide)).1 _ _ (by decide), (t4.fr (S := [51, 52]) (by decide) (by decide)).1 _ _ (by decide), e9]; simp
      · unfold psc
        by_cases e8 : n = 8
        · rw [if_pos e8, e8, q9 _ (by omega) (by omega)]; exact kk
        · rw [if_neg e8]
          by_cases en : n = 9
          · rw [if_pos en, en, t5.row]; rfl
          · rw [if_neg en, q9 _ (by omega) (by omega)]; exact nn n hn e8
end SCP
end
