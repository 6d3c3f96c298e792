section
-- ===== PART A: goes FIRST, ahead of the names: the tables' words, and 'selects' of the private methods out of them =====
/-- a private method of a class that the tables say can be made, by its rows of tables_1 -/
def lw_okq (q : MethodName × Nat) : Prop := (q.1.cls ≠ "java/lang/invoke/MethodHandle" ∧ q.1.cls ≠ "java/lang/invoke/VarHandle") ∧ Cond.instantiable q.1.cls q.2 ∈ tables_1 ∧ Cond.privateMethod q.1 ∈ tables_1 ∧ Cond.instanceMethod q.1 ∈ tables_1
theorem lw_p0 : lw_okq (⟨"InterchangeDesk", "tableOf", "(I)LInterchangeDesk$Table;"⟩, 8) := ⟨⟨by decide +kernel, by decide +kernel⟩, List.mem_of_getElem? (i := 17) (by decide +kernel), List.mem_of_getElem? (i := 264) (by decide +kernel), List.mem_of_getElem? (i := 265) (by decide +kernel)⟩
theorem lw_p1 : lw_okq (⟨"java/lang/Throwable", "fillInStackTrace", "(I)Ljava/lang/Throwable;"⟩, 6) := ⟨⟨by decide +kernel, by decide +kernel⟩, List.mem_of_getElem? (i := 324) (by decide +kernel), List.mem_of_getElem? (i := 322) (by decide +kernel), List.mem_of_getElem? (i := 323) (by decide +kernel)⟩
theorem lw_p2 : lw_okq (⟨"InterchangeDesk$Text", "takeMarks", "()Z"⟩, 6) := ⟨⟨by decide +kernel, by decide +kernel⟩, List.mem_of_getElem? (i := 25) (by decide +kernel), List.mem_of_getElem? (i := 452) (by decide +kernel), List.mem_of_getElem? (i := 453) (by decide +kernel)⟩
theorem lw_p3 : lw_okq (⟨"InterchangeDesk$Text", "takeChoice", "(I)Z"⟩, 6) := ⟨⟨by decide +kernel, by decide +kernel⟩, List.mem_of_getElem? (i := 25) (by decide +kernel), List.mem_of_getElem? (i := 457) (by decide +kernel), List.mem_of_getElem? (i := 458) (by decide +kernel)⟩
theorem lw_p4 : lw_okq (⟨"InterchangeDesk$Text", "takeSegment", "(LInterchangeDesk$Parts;)Z"⟩, 6) := ⟨⟨by decide +kernel, by decide +kernel⟩, List.mem_of_getElem? (i := 25) (by decide +kernel), List.mem_of_getElem? (i := 468) (by decide +kernel), List.mem_of_getElem? (i := 469) (by decide +kernel)⟩
theorem lw_p5 : lw_okq (⟨"InterchangeDesk$Text", "takeElement", "(LInterchangeDesk$Parts;)V"⟩, 6) := ⟨⟨by decide +kernel, by decide +kernel⟩, List.mem_of_getElem? (i := 25) (by decide +kernel), List.mem_of_getElem? (i := 486) (by decide +kernel), List.mem_of_getElem? (i := 487) (by decide +kernel)⟩
theorem lw_p6 : lw_okq (⟨"InterchangeDesk$Text", "takeComponent", "(LInterchangeDesk$Parts;)V"⟩, 6) := ⟨⟨by decide +kernel, by decide +kernel⟩, List.mem_of_getElem? (i := 25) (by decide +kernel), List.mem_of_getElem? (i := 494) (by decide +kernel), List.mem_of_getElem? (i := 495) (by decide +kernel)⟩
theorem lw_p7 : lw_okq (⟨"InterchangeDesk$Envelopes", "empty", "()V"⟩, 12) := ⟨⟨by decide +kernel, by decide +kernel⟩, List.mem_of_getElem? (i := 81) (by decide +kernel), List.mem_of_getElem? (i := 511) (by decide +kernel), List.mem_of_getElem? (i := 512) (by decide +kernel)⟩
theorem lw_p8 : lw_okq (⟨"InterchangeDesk$Envelopes", "takeGroup", "()Z"⟩, 12) := ⟨⟨by decide +kernel, by decide +kernel⟩, List.mem_of_getElem? (i := 81) (by decide +kernel), List.mem_of_getElem? (i := 528) (by decide +kernel), List.mem_of_getElem? (i := 529) (by decide +kernel)⟩
theorem lw_p9 : lw_okq (⟨"InterchangeDesk$Envelopes", "takeMessage", "(I)Z"⟩, 12) := ⟨⟨by decide +kernel, by decide +kernel⟩, List.mem_of_getElem? (i := 81) (by decide +kernel), List.mem_of_getElem? (i := 534) (by decide +kernel), List.mem_of_getElem? (i := 535) (by decide +kernel)⟩
theorem lw_p10 : lw_okq (⟨"InterchangeDesk$Envelopes", "codeOfEnd", "(III)I"⟩, 12) := ⟨⟨by decide +kernel, by decide +kernel⟩, List.mem_of_getElem? (i := 81) (by decide +kernel), List.mem_of_getElem? (i := 574) (by decide +kernel), List.mem_of_getElem? (i := 575) (by decide +kernel)⟩
theorem lw_p11 : lw_okq (⟨"InterchangeDesk$Envelopes", "isRightReference", "(II)Z"⟩, 12) := ⟨⟨by decide +kernel, by decide +kernel⟩, List.mem_of_getElem? (i := 81) (by decide +kernel), List.mem_of_getElem? (i := 578) (by decide +kernel), List.mem_of_getElem? (i := 579) (by decide +kernel)⟩
theorem lw_p12 : lw_okq (⟨"InterchangeDesk$Envelopes", "isRightCount", "(II)Z"⟩, 12) := ⟨⟨by decide +kernel, by decide +kernel⟩, List.mem_of_getElem? (i := 81) (by decide +kernel), List.mem_of_getElem? (i := 595) (by decide +kernel), List.mem_of_getElem? (i := 596) (by decide +kernel)⟩
theorem lw_p13 : lw_okq (⟨"InterchangeDesk$Envelopes", "note", "(III)V"⟩, 12) := ⟨⟨by decide +kernel, by decide +kernel⟩, List.mem_of_getElem? (i := 81) (by decide +kernel), List.mem_of_getElem? (i := 631) (by decide +kernel), List.mem_of_getElem? (i := 632) (by decide +kernel)⟩
theorem lw_p14 : lw_okq (⟨"InterchangeDesk$Envelopes", "isRepeated", "(I)Z"⟩, 12) := ⟨⟨by decide +kernel, by decide +kernel⟩, List.mem_of_getElem? (i := 81) (by decide +kernel), List.mem_of_getElem? (i := 635) (by decide +kernel), List.mem_of_getElem? (i := 636) (by decide +kernel)⟩
theorem lw_p15 : lw_okq (⟨"InterchangeDesk$Envelopes", "matchMessage", "(ILInterchangeDesk$Table;)V"⟩, 12) := ⟨⟨by decide +kernel, by decide +kernel⟩, List.mem_of_getElem? (i := 81) (by decide +kernel), List.mem_of_getElem? (i := 640) (by decide +kernel), List.mem_of_getElem? (i := 641) (by decide +kernel)⟩
def lw_privs_1 : List (MethodName × Nat) := [(⟨"InterchangeDesk", "tableOf", "(I)LInterchangeDesk$Table;"⟩, 8), (⟨"java/lang/Throwable", "fillInStackTrace", "(I)Ljava/lang/Throwable;"⟩, 6), (⟨"InterchangeDesk$Text", "takeMarks", "()Z"⟩, 6), (⟨"InterchangeDesk$Text", "takeChoice", "(I)Z"⟩, 6), (⟨"InterchangeDesk$Text", "takeSegment", "(LInterchangeDesk$Parts;)Z"⟩, 6), (⟨"InterchangeDesk$Text", "takeElement", "(LInterchangeDesk$Parts;)V"⟩, 6), (⟨"InterchangeDesk$Text", "takeComponent", "(LInterchangeDesk$Parts;)V"⟩, 6), (⟨"InterchangeDesk$Envelopes", "empty", "()V"⟩, 12), (⟨"InterchangeDesk$Envelopes", "takeGroup", "()Z"⟩, 12), (⟨"InterchangeDesk$Envelopes", "takeMessage", "(I)Z"⟩, 12), (⟨"InterchangeDesk$Envelopes", "codeOfEnd", "(III)I"⟩, 12), (⟨"InterchangeDesk$Envelopes", "isRightReference", "(II)Z"⟩, 12), (⟨"InterchangeDesk$Envelopes", "isRightCount", "(II)Z"⟩, 12), (⟨"InterchangeDesk$Envelopes", "note", "(III)V"⟩, 12), (⟨"InterchangeDesk$Envelopes", "isRepeated", "(I)Z"⟩, 12), (⟨"InterchangeDesk$Envelopes", "matchMessage", "(ILInterchangeDesk$Table;)V"⟩, 12)]
theorem lw_r1 : ∀ q ∈ lw_privs_1, lw_okq q := List.forall_mem_cons.mpr ⟨lw_p0, List.forall_mem_cons.mpr ⟨lw_p1, List.forall_mem_cons.mpr ⟨lw_p2, List.forall_mem_cons.mpr ⟨lw_p3, List.forall_mem_cons.mpr ⟨lw_p4, List.forall_mem_cons.mpr ⟨lw_p5, List.forall_mem_cons.mpr ⟨lw_p6, List.forall_mem_cons.mpr ⟨lw_p7, List.forall_mem_cons.mpr ⟨lw_p8, List.forall_mem_cons.mpr ⟨lw_p9, List.forall_mem_cons.mpr ⟨lw_p10, List.forall_mem_cons.mpr ⟨lw_p11, List.forall_mem_cons.mpr ⟨lw_p12, List.forall_mem_cons.mpr ⟨lw_p13, List.forall_mem_cons.mpr ⟨lw_p14, List.forall_mem_cons.mpr ⟨lw_p15, fun _ h => absurd h List.not_mem_nil⟩⟩⟩⟩⟩⟩⟩⟩⟩⟩⟩⟩⟩⟩⟩⟩
theorem lw_p16 : lw_okq (⟨"InterchangeDesk$Table", "standAtItem", "()Z"⟩, 9) := ⟨⟨by decide +kernel, by decide +kernel⟩, List.mem_of_getElem? (i := 151) (by decide +kernel), List.mem_of_getElem? (i := 652) (by decide +kernel), List.mem_of_getElem? (i := 653) (by decide +kernel)⟩
theorem lw_p17 : lw_okq (⟨"InterchangeDesk$Table", "firstTag", "()I"⟩, 9) := ⟨⟨by decide +kernel, by decide +kernel⟩, List.mem_of_getElem? (i := 151) (by decide +kernel), List.mem_of_getElem? (i := 656) (by decide +kernel), List.mem_of_getElem? (i := 657) (by decide +kernel)⟩
theorem lw_p18 : lw_okq (⟨"InterchangeDesk$Table", "takeItem", "()I"⟩, 9) := ⟨⟨by decide +kernel, by decide +kernel⟩, List.mem_of_getElem? (i := 151) (by decide +kernel), List.mem_of_getElem? (i := 660) (by decide +kernel), List.mem_of_getElem? (i := 661) (by decide +kernel)⟩
theorem lw_p19 : lw_okq (⟨"InterchangeDesk$Table", "goOn", "()V"⟩, 9) := ⟨⟨by decide +kernel, by decide +kernel⟩, List.mem_of_getElem? (i := 151) (by decide +kernel), List.mem_of_getElem? (i := 665) (by decide +kernel), List.mem_of_getElem? (i := 666) (by decide +kernel)⟩
theorem lw_p20 : lw_okq (⟨"InterchangeDesk$Table", "isMissing", "()Z"⟩, 9) := ⟨⟨by decide +kernel, by decide +kernel⟩, List.mem_of_getElem? (i := 151) (by decide +kernel), List.mem_of_getElem? (i := 669) (by decide +kernel), List.mem_of_getElem? (i := 670) (by decide +kernel)⟩
theorem lw_p21 : lw_okq (⟨"InterchangeDesk$Paper", "putTag", "(I)V"⟩, 1) := ⟨⟨by decide +kernel, by decide +kernel⟩, List.mem_of_getElem? (i := 69) (by decide +kernel), List.mem_of_getElem? (i := 684) (by decide +kernel), List.mem_of_getElem? (i := 685) (by decide +kernel)⟩
theorem lw_p22 : lw_okq (⟨"InterchangeDesk$Paper", "putElement", "(LInterchangeDesk$Parts;I)V"⟩, 1) := ⟨⟨by decide +kernel, by decide +kernel⟩, List.mem_of_getElem? (i := 69) (by decide +kernel), List.mem_of_getElem? (i := 701) (by decide +kernel), List.mem_of_getElem? (i := 702) (by decide +kernel)⟩
theorem lw_p23 : lw_okq (⟨"InterchangeDesk$Paper", "putComponent", "(LInterchangeDesk$Parts;I)V"⟩, 1) := ⟨⟨by decide +kernel, by decide +kernel⟩, List.mem_of_getElem? (i := 69) (by decide +kernel), List.mem_of_getElem? (i := 710) (by decide +kernel), List.mem_of_getElem? (i := 711) (by decide +kernel)⟩
theorem lw_p24 : lw_okq (⟨"InterchangeDesk$Paper", "putVerdict", "(ILInterchangeDesk$Parts;II)V"⟩, 1) := ⟨⟨by decide +kernel, by decide +kernel⟩, List.mem_of_getElem? (i := 69) (by decide +kernel), List.mem_of_getElem? (i := 729) (by decide +kernel), List.mem_of_getElem? (i := 730) (by decide +kernel)⟩
theorem lw_p25 : lw_okq (⟨"InterchangeDesk$Paper", "putNumber", "(I)V"⟩, 1) := ⟨⟨by decide +kernel, by decide +kernel⟩, List.mem_of_getElem? (i := 69) (by decide +kernel), List.mem_of_getElem? (i := 733) (by decide +kernel), List.mem_of_getElem? (i := 734) (by decide +kernel)⟩
theorem lw_p26 : lw_okq (⟨"InterchangeDesk", "needInterchange", "()V"⟩, 8) := ⟨⟨by decide +kernel, by decide +kernel⟩, List.mem_of_getElem? (i := 17) (by decide +kernel), List.mem_of_getElem? (i := 757) (by decide +kernel), List.mem_of_getElem? (i := 758) (by decide +kernel)⟩
theorem lw_p27 : lw_okq (⟨"InterchangeDeskModel", "isBare", "(I)Z"⟩, 53) := ⟨⟨by decide +kernel, by decide +kernel⟩, List.mem_of_getElem? (i := 816) (by decide +kernel), List.mem_of_getElem? (i := 1021) (by decide +kernel), List.mem_of_getElem? (i := 1022) (by decide +kernel)⟩
theorem lw_p28 : lw_okq (⟨"InterchangeDeskModel", "following", "(III)I"⟩, 53) := ⟨⟨by decide +kernel, by decide +kernel⟩, List.mem_of_getElem? (i := 816) (by decide +kernel), List.mem_of_getElem? (i := 1025) (by decide +kernel), List.mem_of_getElem? (i := 1026) (by decide +kernel)⟩
theorem lw_p29 : lw_okq (⟨"InterchangeDeskModel", "add", "(IIZI)I"⟩, 53) := ⟨⟨by decide +kernel, by decide +kernel⟩, List.mem_of_getElem? (i := 816) (by decide +kernel), List.mem_of_getElem? (i := 1029) (by decide +kernel), List.mem_of_getElem? (i := 1030) (by decide +kernel)⟩
theorem lw_p30 : lw_okq (⟨"InterchangeDeskModel", "openGroups", "(I)I"⟩, 53) := ⟨⟨by decide +kernel, by decide +kernel⟩, List.mem_of_getElem? (i := 816) (by decide +kernel), List.mem_of_getElem? (i := 1037) (by decide +kernel), List.mem_of_getElem? (i := 1038) (by decide +kernel)⟩
theorem lw_p31 : lw_okq (⟨"InterchangeDeskModel", "scans", "()Z"⟩, 53) := ⟨⟨by decide +kernel, by decide +kernel⟩, List.mem_of_getElem? (i := 816) (by decide +kernel), List.mem_of_getElem? (i := 1053) (by decide +kernel), List.mem_of_getElem? (i := 1054) (by decide +kernel)⟩
def lw_privs_2 : List (MethodName × Nat) := [(⟨"InterchangeDesk$Table", "standAtItem", "()Z"⟩, 9), (⟨"InterchangeDesk$Table", "firstTag", "()I"⟩, 9), (⟨"InterchangeDesk$Table", "takeItem", "()I"⟩, 9), (⟨"InterchangeDesk$Table", "goOn", "()V"⟩, 9), (⟨"InterchangeDesk$Table", "isMissing", "()Z"⟩, 9), (⟨"InterchangeDesk$Paper", "putTag", "(I)V"⟩, 1), (⟨"InterchangeDesk$Paper", "putElement", "(LInterchangeDesk$Parts;I)V"⟩, 1), (⟨"InterchangeDesk$Paper", "putComponent", "(LInterchangeDesk$Parts;I)V"⟩, 1), (⟨"InterchangeDesk$Paper", "putVerdict", "(ILInterchangeDesk$Parts;II)V"⟩, 1), (⟨"InterchangeDesk$Paper", "putNumber", "(I)V"⟩, 1), (⟨"InterchangeDesk", "needInterchange", "()V"⟩, 8), (⟨"InterchangeDeskModel", "isBare", "(I)Z"⟩, 53), (⟨"InterchangeDeskModel", "following", "(III)I"⟩, 53), (⟨"InterchangeDeskModel", "add", "(IIZI)I"⟩, 53), (⟨"InterchangeDeskModel", "openGroups", "(I)I"⟩, 53), (⟨"InterchangeDeskModel", "scans", "()Z"⟩, 53)]
theorem lw_r2 : ∀ q ∈ lw_privs_2, lw_okq q := List.forall_mem_cons.mpr ⟨lw_p16, List.forall_mem_cons.mpr ⟨lw_p17, List.forall_mem_cons.mpr ⟨lw_p18, List.forall_mem_cons.mpr ⟨lw_p19, List.forall_mem_cons.mpr ⟨lw_p20, List.forall_mem_cons.mpr ⟨lw_p21, List.forall_mem_cons.mpr ⟨lw_p22, List.forall_mem_cons.mpr ⟨lw_p23, List.forall_mem_cons.mpr ⟨lw_p24, List.forall_mem_cons.mpr ⟨lw_p25, List.forall_mem_cons.mpr ⟨lw_p26, List.forall_mem_cons.mpr ⟨lw_p27, List.forall_mem_cons.mpr ⟨lw_p28, List.forall_mem_cons.mpr ⟨lw_p29, List.forall_mem_cons.mpr ⟨lw_p30, List.forall_mem_cons.mpr ⟨lw_p31, fun _ h => absurd h List.not_mem_nil⟩⟩⟩⟩⟩⟩⟩⟩⟩⟩⟩⟩⟩⟩⟩⟩
theorem lw_p32 : lw_okq (⟨"InterchangeDeskModel", "marks", "()I"⟩, 53) := ⟨⟨by decide +kernel, by decide +kernel⟩, List.mem_of_getElem? (i := 816) (by decide +kernel), List.mem_of_getElem? (i := 1057) (by decide +kernel), List.mem_of_getElem? (i := 1058) (by decide +kernel)⟩
theorem lw_p33 : lw_okq (⟨"InterchangeDeskModel", "next", "(II)I"⟩, 53) := ⟨⟨by decide +kernel, by decide +kernel⟩, List.mem_of_getElem? (i := 816) (by decide +kernel), List.mem_of_getElem? (i := 1064) (by decide +kernel), List.mem_of_getElem? (i := 1065) (by decide +kernel)⟩
theorem lw_p34 : lw_okq (⟨"InterchangeDeskModel", "put", "(I)V"⟩, 53) := ⟨⟨by decide +kernel, by decide +kernel⟩, List.mem_of_getElem? (i := 816) (by decide +kernel), List.mem_of_getElem? (i := 1068) (by decide +kernel), List.mem_of_getElem? (i := 1069) (by decide +kernel)⟩
theorem lw_p35 : lw_okq (⟨"InterchangeDeskModel", "beginElement", "()V"⟩, 53) := ⟨⟨by decide +kernel, by decide +kernel⟩, List.mem_of_getElem? (i := 816) (by decide +kernel), List.mem_of_getElem? (i := 1072) (by decide +kernel), List.mem_of_getElem? (i := 1073) (by decide +kernel)⟩
theorem lw_p36 : lw_okq (⟨"InterchangeDeskModel", "beginComponent", "()V"⟩, 53) := ⟨⟨by decide +kernel, by decide +kernel⟩, List.mem_of_getElem? (i := 816) (by decide +kernel), List.mem_of_getElem? (i := 1076) (by decide +kernel), List.mem_of_getElem? (i := 1077) (by decide +kernel)⟩
theorem lw_p37 : lw_okq (⟨"InterchangeDeskModel", "wraps", "()Z"⟩, 53) := ⟨⟨by decide +kernel, by decide +kernel⟩, List.mem_of_getElem? (i := 816) (by decide +kernel), List.mem_of_getElem? (i := 1080) (by decide +kernel), List.mem_of_getElem? (i := 1081) (by decide +kernel)⟩
theorem lw_p38 : lw_okq (⟨"InterchangeDeskModel", "take", "()V"⟩, 53) := ⟨⟨by decide +kernel, by decide +kernel⟩, List.mem_of_getElem? (i := 816) (by decide +kernel), List.mem_of_getElem? (i := 1084) (by decide +kernel), List.mem_of_getElem? (i := 1085) (by decide +kernel)⟩
theorem lw_p39 : lw_okq (⟨"InterchangeDeskModel", "judge", "(I)V"⟩, 53) := ⟨⟨by decide +kernel, by decide +kernel⟩, List.mem_of_getElem? (i := 816) (by decide +kernel), List.mem_of_getElem? (i := 1088) (by decide +kernel), List.mem_of_getElem? (i := 1089) (by decide +kernel)⟩
theorem lw_p40 : lw_okq (⟨"InterchangeDeskModel", "check", "(IIII)I"⟩, 53) := ⟨⟨by decide +kernel, by decide +kernel⟩, List.mem_of_getElem? (i := 816) (by decide +kernel), List.mem_of_getElem? (i := 1092) (by decide +kernel), List.mem_of_getElem? (i := 1093) (by decide +kernel)⟩
theorem lw_p41 : lw_okq (⟨"InterchangeDeskModel", "component", "(II)I"⟩, 53) := ⟨⟨by decide +kernel, by decide +kernel⟩, List.mem_of_getElem? (i := 816) (by decide +kernel), List.mem_of_getElem? (i := 1096) (by decide +kernel), List.mem_of_getElem? (i := 1097) (by decide +kernel)⟩
theorem lw_p42 : lw_okq (⟨"InterchangeDeskModel", "sizeOf", "(I)I"⟩, 53) := ⟨⟨by decide +kernel, by decide +kernel⟩, List.mem_of_getElem? (i := 816) (by decide +kernel), List.mem_of_getElem? (i := 1100) (by decide +kernel), List.mem_of_getElem? (i := 1101) (by decide +kernel)⟩
theorem lw_p43 : lw_okq (⟨"InterchangeDeskModel", "same", "(II)Z"⟩, 53) := ⟨⟨by decide +kernel, by decide +kernel⟩, List.mem_of_getElem? (i := 816) (by decide +kernel), List.mem_of_getElem? (i := 1104) (by decide +kernel), List.mem_of_getElem? (i := 1105) (by decide +kernel)⟩
theorem lw_p44 : lw_okq (⟨"InterchangeDeskModel", "isNumber", "(II)Z"⟩, 53) := ⟨⟨by decide +kernel, by decide +kernel⟩, List.mem_of_getElem? (i := 816) (by decide +kernel), List.mem_of_getElem? (i := 1108) (by decide +kernel), List.mem_of_getElem? (i := 1109) (by decide +kernel)⟩
theorem lw_p45 : lw_okq (⟨"InterchangeDeskModel", "typeOf", "(I)I"⟩, 53) := ⟨⟨by decide +kernel, by decide +kernel⟩, List.mem_of_getElem? (i := 816) (by decide +kernel), List.mem_of_getElem? (i := 1112) (by decide +kernel), List.mem_of_getElem? (i := 1113) (by decide +kernel)⟩
theorem lw_p46 : lw_okq (⟨"InterchangeDeskModel", "comes", "(II)I"⟩, 53) := ⟨⟨by decide +kernel, by decide +kernel⟩, List.mem_of_getElem? (i := 816) (by decide +kernel), List.mem_of_getElem? (i := 1116) (by decide +kernel), List.mem_of_getElem? (i := 1117) (by decide +kernel)⟩
theorem lw_p47 : lw_okq (⟨"InterchangeDeskModel", "begins", "(II)I"⟩, 53) := ⟨⟨by decide +kernel, by decide +kernel⟩, List.mem_of_getElem? (i := 816) (by decide +kernel), List.mem_of_getElem? (i := 1120) (by decide +kernel), List.mem_of_getElem? (i := 1121) (by decide +kernel)⟩
def lw_privs_3 : List (MethodName × Nat) := [(⟨"InterchangeDeskModel", "marks", "()I"⟩, 53), (⟨"InterchangeDeskModel", "next", "(II)I"⟩, 53), (⟨"InterchangeDeskModel", "put", "(I)V"⟩, 53), (⟨"InterchangeDeskModel", "beginElement", "()V"⟩, 53), (⟨"InterchangeDeskModel", "beginComponent", "()V"⟩, 53), (⟨"InterchangeDeskModel", "wraps", "()Z"⟩, 53), (⟨"InterchangeDeskModel", "take", "()V"⟩, 53), (⟨"InterchangeDeskModel", "judge", "(I)V"⟩, 53), (⟨"InterchangeDeskModel", "check", "(IIII)I"⟩, 53), (⟨"InterchangeDeskModel", "component", "(II)I"⟩, 53), (⟨"InterchangeDeskModel", "sizeOf", "(I)I"⟩, 53), (⟨"InterchangeDeskModel", "same", "(II)Z"⟩, 53), (⟨"InterchangeDeskModel", "isNumber", "(II)Z"⟩, 53), (⟨"InterchangeDeskModel", "typeOf", "(I)I"⟩, 53), (⟨"InterchangeDeskModel", "comes", "(II)I"⟩, 53), (⟨"InterchangeDeskModel", "begins", "(II)I"⟩, 53)]
theorem lw_r3 : ∀ q ∈ lw_privs_3, lw_okq q := List.forall_mem_cons.mpr ⟨lw_p32, List.forall_mem_cons.mpr ⟨lw_p33, List.forall_mem_cons.mpr ⟨lw_p34, List.forall_mem_cons.mpr ⟨lw_p35, List.forall_mem_cons.mpr ⟨lw_p36, List.forall_mem_cons.mpr ⟨lw_p37, List.forall_mem_cons.mpr ⟨lw_p38, List.forall_mem_cons.mpr ⟨lw_p39, List.forall_mem_cons.mpr ⟨lw_p40, List.forall_mem_cons.mpr ⟨lw_p41, List.forall_mem_cons.mpr ⟨lw_p42, List.forall_mem_cons.mpr ⟨lw_p43, List.forall_mem_cons.mpr ⟨lw_p44, List.forall_mem_cons.mpr ⟨lw_p45, List.forall_mem_cons.mpr ⟨lw_p46, List.forall_mem_cons.mpr ⟨lw_p47, fun _ h => absurd h List.not_mem_nil⟩⟩⟩⟩⟩⟩⟩⟩⟩⟩⟩⟩⟩⟩⟩⟩
theorem lw_p48 : lw_okq (⟨"InterchangeDeskModel", "goOn", "(I)V"⟩, 53) := ⟨⟨by decide +kernel, by decide +kernel⟩, List.mem_of_getElem? (i := 816) (by decide +kernel), List.mem_of_getElem? (i := 1124) (by decide +kernel), List.mem_of_getElem? (i := 1125) (by decide +kernel)⟩
theorem lw_p49 : lw_okq (⟨"InterchangeDeskModel", "lacks", "(I)Z"⟩, 53) := ⟨⟨by decide +kernel, by decide +kernel⟩, List.mem_of_getElem? (i := 816) (by decide +kernel), List.mem_of_getElem? (i := 1128) (by decide +kernel), List.mem_of_getElem? (i := 1129) (by decide +kernel)⟩
theorem lw_p50 : lw_okq (⟨"InterchangeDeskModel", "writePrint", "()V"⟩, 53) := ⟨⟨by decide +kernel, by decide +kernel⟩, List.mem_of_getElem? (i := 816) (by decide +kernel), List.mem_of_getElem? (i := 1132) (by decide +kernel), List.mem_of_getElem? (i := 1133) (by decide +kernel)⟩
theorem lw_p51 : lw_okq (⟨"InterchangeDeskModel", "writeTag", "(I)V"⟩, 53) := ⟨⟨by decide +kernel, by decide +kernel⟩, List.mem_of_getElem? (i := 816) (by decide +kernel), List.mem_of_getElem? (i := 1136) (by decide +kernel), List.mem_of_getElem? (i := 1137) (by decide +kernel)⟩
theorem lw_p52 : lw_okq (⟨"InterchangeDeskModel", "write", "(I)V"⟩, 53) := ⟨⟨by decide +kernel, by decide +kernel⟩, List.mem_of_getElem? (i := 816) (by decide +kernel), List.mem_of_getElem? (i := 1140) (by decide +kernel), List.mem_of_getElem? (i := 1141) (by decide +kernel)⟩
theorem lw_p53 : lw_okq (⟨"InterchangeDeskModel", "kept", "(I)I"⟩, 53) := ⟨⟨by decide +kernel, by decide +kernel⟩, List.mem_of_getElem? (i := 816) (by decide +kernel), List.mem_of_getElem? (i := 1144) (by decide +kernel), List.mem_of_getElem? (i := 1145) (by decide +kernel)⟩
theorem lw_p54 : lw_okq (⟨"InterchangeDeskModel", "writeComponent", "(I)V"⟩, 53) := ⟨⟨by decide +kernel, by decide +kernel⟩, List.mem_of_getElem? (i := 816) (by decide +kernel), List.mem_of_getElem? (i := 1148) (by decide +kernel), List.mem_of_getElem? (i := 1149) (by decide +kernel)⟩
theorem lw_p55 : lw_okq (⟨"InterchangeDeskModel", "writeReport", "()V"⟩, 53) := ⟨⟨by decide +kernel, by decide +kernel⟩, List.mem_of_getElem? (i := 816) (by decide +kernel), List.mem_of_getElem? (i := 1152) (by decide +kernel), List.mem_of_getElem? (i := 1153) (by decide +kernel)⟩
theorem lw_p56 : lw_okq (⟨"InterchangeDeskModel", "writeLine", "(IIII)V"⟩, 53) := ⟨⟨by decide +kernel, by decide +kernel⟩, List.mem_of_getElem? (i := 816) (by decide +kernel), List.mem_of_getElem? (i := 1157) (by decide +kernel), List.mem_of_getElem? (i := 1158) (by decide +kernel)⟩
theorem lw_p57 : lw_okq (⟨"InterchangeDeskModel", "writeNumber", "(I)V"⟩, 53) := ⟨⟨by decide +kernel, by decide +kernel⟩, List.mem_of_getElem? (i := 816) (by decide +kernel), List.mem_of_getElem? (i := 1161) (by decide +kernel), List.mem_of_getElem? (i := 1162) (by decide +kernel)⟩
def lw_privs_4 : List (MethodName × Nat) := [(⟨"InterchangeDeskModel", "goOn", "(I)V"⟩, 53), (⟨"InterchangeDeskModel", "lacks", "(I)Z"⟩, 53), (⟨"InterchangeDeskModel", "writePrint", "()V"⟩, 53), (⟨"InterchangeDeskModel", "writeTag", "(I)V"⟩, 53), (⟨"InterchangeDeskModel", "write", "(I)V"⟩, 53), (⟨"InterchangeDeskModel", "kept", "(I)I"⟩, 53), (⟨"InterchangeDeskModel", "writeComponent", "(I)V"⟩, 53), (⟨"InterchangeDeskModel", "writeReport", "()V"⟩, 53), (⟨"InterchangeDeskModel", "writeLine", "(IIII)V"⟩, 53), (⟨"InterchangeDeskModel", "writeNumber", "(I)V"⟩, 53)]
theorem lw_r4 : ∀ q ∈ lw_privs_4, lw_okq q := List.forall_mem_cons.mpr ⟨lw_p48, List.forall_mem_cons.mpr ⟨lw_p49, List.forall_mem_cons.mpr ⟨lw_p50, List.forall_mem_cons.mpr ⟨lw_p51, List.forall_mem_cons.mpr ⟨lw_p52, List.forall_mem_cons.mpr ⟨lw_p53, List.forall_mem_cons.mpr ⟨lw_p54, List.forall_mem_cons.mpr ⟨lw_p55, List.forall_mem_cons.mpr ⟨lw_p56, List.forall_mem_cons.mpr ⟨lw_p57, fun _ h => absurd h List.not_mem_nil⟩⟩⟩⟩⟩⟩⟩⟩⟩⟩
def lw_privs : List (MethodName × Nat) := lw_privs_1 ++ (lw_privs_2 ++ (lw_privs_3 ++ (lw_privs_4)))
def lw_tbl : List Cond := k2_sels lw_privs ++ tables_1
theorem lw_privs_ok : ∀ q ∈ lw_privs, lw_okq q := by
  show ∀ q ∈ lw_privs_1 ++ (lw_privs_2 ++ (lw_privs_3 ++ (lw_privs_4))), lw_okq q
  exact List.forall_mem_append.mpr ⟨lw_r1, List.forall_mem_append.mpr ⟨lw_r2, List.forall_mem_append.mpr ⟨lw_r3, lw_r4⟩⟩⟩
end
section
/-! ===== BEGIN words of one list among another's, by their places ===== -/
theorem goodIn_r {big : List Cond} (ws : List Cond) (ps : List Nat) (hp : ws = ps.filterMap (fun i => big[i]?)) (h : ws.all goodWord = true) : GoodIn big ws := by
  intro w hw
  have h1 := List.all_eq_true.mp h w hw
  rw [hp] at hw
  obtain ⟨i, -, hi⟩ := List.mem_filterMap.mp hw
  have hm : w ∈ big := by first | exact List.mem_of_getElem? hi | exact List.getElem?_mem hi
  exact ⟨hm, good_of_word h1⟩
theorem goodIn_app {big a b : List Cond} (ha : GoodIn big a) (hb : GoodIn big b) : GoodIn big (a ++ b) := fun w h => (List.mem_append.mp h).elim (ha w) (hb w)
theorem goodIn_ca {big a b : List Cond} {c : Cond} (ha : GoodIn big (c :: a)) (hb : GoodIn big b) : GoodIn big (c :: (a ++ b)) := fun w h => (List.mem_cons.mp h).elim (fun e => ha w (List.mem_cons.mpr (Or.inl e))) (fun h => (List.mem_append.mp h).elim (fun h => ha w (List.mem_cons.mpr (Or.inr h))) (hb w))
theorem goodIn_sub {big ws : List Cond} (hm : ∀ w ∈ ws, w ∈ big) (h : ws.all goodWord = true) : GoodIn big ws := fun w hw => ⟨hm w hw, good_of_word (List.all_eq_true.mp h w hw)⟩
/-! ===== END ===== -/

/-! ===== BEGIN exceptions that leave a method, and their catching by the caller (launches without stack traces) ===== -/
section VXA
/-! The laws vx_back, vx_callV, vx_callS, vx_callSW, vx_throw0, vx_throwS follow proofs of the library, with one case more: JvmDerived/Free/Laws.lean (Back.of_free), Shelf42/LK1.lean (callV, callS), Shelf/KitTraced.lean (throwNew0V, throwNewS). -/
/-- where a method has thrown q: the class by its name, the cell, what was written, the world -/
def vx_T (XC : String → State → State → Prop) (st : State) (q : Addr) (t : State) (mc ms : Nat) (free : Addr → Prop) : Prop :=
  ∃ (E : String) (ce : Cell) (L : List Loc), XC E st t ∧ t.heap[q]? = some ce ∧ ce.vm = .none ∧ st.vm.findClass E = some ce.cls ∧ st.WarmedH t.vm ∧ st.sameButNew ({ t with vm := st.vm } : State) L mc ms ∧ ∀ z ∈ L, free z.base
def vx_Q (Qc : Array Value → State → Outcome → State → Prop) (XC : String → State → State → Prop) (mc ms : Nat) (free : Addr → Prop) : Array Value → State → Outcome → State → Prop := fun a st o t =>
  (Qc a st o t ∧ ∃ L, FrameEnd st o t L mc ms ∧ ∀ q ∈ L, free q.base) ∨ ∃ q, o = .threw q ∧ vx_T XC st q t mc ms free
/-- a callee that returns or throws -/
def vx_Met (l : Launch) (y : MethodName) (ws : List Cond) (rm : Room) (Pc : Array Value → State → Prop) (Qc : Array Value → State → Outcome → State → Prop) (XC : String → State → State → Prop) (mc ms : Nat) (free : Addr → Prop) : Prop :=
  MetFree l y (headSpec ws rm) Pc (fun _ _ _ _ _ => True) (vx_Q Qc XC mc ms free)
def vx_Post (XC : String → State → State → Prop) (mc ms : Nat) (free : Addr → Prop) : Pt → Array Value → Addr → Pt → Prop := fun A a q B =>
  ∃ (g : JFrame) (mk : MethodId) (t : State) (L : List Loc) (E : String) (ce : Cell), B.U.heap = t.heap ∧ B.U.vm = t.vm ∧ XC E (A.U.calling g mk a) t ∧ t.heap[q]? = some ce ∧ ce.vm = .none ∧ A.U.vm.findClass E = some ce.cls ∧ B.locs = A.locs ++ L ∧ (∀ z ∈ L, free z.base) ∧ B.cells = A.cells + mc ∧ B.slots = A.slots + ms
def vx_Back (l : Launch) (R : Room) (p : Program) (e : Env) (below : List Frame) (s : State) (sargs : Array Value) (y : MethodName) (len W9 : Nat)
    (Pre : Pt → Array Value → Prop) (Post : Pt → Array Value → Option Value → Pt → Prop) (PostX : Pt → Array Value → Addr → Pt → Prop) : Prop :=
  ∀ (m : MethodId) (meth : Method) (c : Code) (A : Pt) (g : JFrame) (ig : Instr) (mk : MethodId) (a : Array Value),
    Stand p l e R s m sargs below meth c A.U A.locs A.cells A.slots → g.method = m → g.locals.size = c.maxLocals → decode c.code g.pc = .ok (ig, len) →
    2 * g.monitorRoom + (g.stack.map fun v => v.category).sum ≤ W9 → A.U.methodNamed? y = some mk → Pre A a →
    (∃ (v : Option Value) (B : Pt), Stand p l e R s m sargs below meth c B.U B.locs B.cells B.slots ∧ Post A a v B ∧
      Steps p.tables e below (doInvoke e (A.U.setTop g) [] mk a).1 (B.U.setTop { g with pc := g.pc + len, stack := v.toList ++ g.stack })) ∨
    (∃ (q : Addr) (B : Pt), Stand p l e R s m sargs below meth c B.U B.locs B.cells B.slots ∧ PostX A a q B ∧
      Steps p.tables e below (doInvoke e (A.U.setTop g) [] mk a).1 ((B.U.setTop g).pushFrame (.throwing q)))
section Payer
variable {l : Launch} {R : Room} {p : Program} {e : Env} {below : List Frame} {s : State} {sargs : Array Value} {y : MethodName} {len W9 : Nat}
theorem vx_back {ws : List Cond} {rm : Room} {Pc : Array Value → State → Prop} {Qc : Array Value → State → Outcome → State → Prop} {XC : String → State → State → Prop} {mc ms : Nat} {free : Addr → Prop} {bytes : ByteArray} {maxL : Nat} {ret : Option FieldType}
    (hM : vx_Met l y ws rm Pc Qc XC mc ms free) (hblind : FrameBlind Pc) (hrc : rm.cells = mc) (hrs : rm.slots = ms)
    (hframes : rm.frames + 1 ≤ R.frames) (hlocals : W9 + (maxL + 11) + rm.locals ≤ R.locals)
    (hws : ∀ w ∈ ws, ∀ a' U, s.WarmedH U.vm → w.before a' U = true) (hcode : Cond.code y bytes maxL ret ∈ ws) (hinit : ∀ a' U, s.WarmedH U.vm → (Cond.initialized y.cls).before a' U = true) :
    vx_Back l R p e below s sargs y len W9 (PreOf R mc ms Pc) (PostOf Qc mc ms free) (vx_Post XC mc ms free) := by
  intro m meth c A g ig mk a X hg hsize hdg hW hn hp
  have h1 : (headSpec ws rm).pre.before a A.U = true := atoms_intro fun w hw => hws w hw _ _ X.warmed
  have h2 : (Cond.code y bytes maxL ret).before a A.U = true := hws _ hcode _ _ X.warmed
  have h3 : (Cond.initialized y.cls).before a A.U = true := hinit _ _ X.warmed
  have h4 : A.cells + (headSpec ws rm).room.cells ≤ R.cells := by rw [show (headSpec ws rm).room.cells = mc from hrc]; exact hp.1
  have h5 : A.slots + (headSpec ws rm).room.slots ≤ R.slots := by rw [show (headSpec ws rm).room.slots = ms from hrs]; exact hp.2.1
  have hPc : Pc a (A.U.calling g mk a) := hblind _ _ _ _ hp.2.2
  obtain ⟨U, Ls, c0, s0⟩ := A
  dsimp only [Pt.U, Pt.locs, Pt.cells, Pt.slots] at h1 h2 h3 h4 h5 X hn hPc ⊢
  obtain ⟨methY, cY, hmY, hcY, -, hlY, -, -, -, -⟩ := Cond.code_spec hn h2
  obtain ⟨kY, hkY, -⟩ := className_of_methodNamed hn
  have hinitY : kY.init = .initialized := Cond.initialized_spec (findClass_of_methodNamed hn) hkY h3
  have h : At U g.method c below := by rw [hg]; exact X.here
  have hlocals9 : W9 + (maxL + 11) + (headSpec ws rm).room.locals ≤ R.locals := hlocals
  have happ : (headSpec ws rm).appliesLoose y e.platform (U.calling g mk a) = true :=
    Spec.appliesLoose_calling (g := g) h hdg hn hkY hinitY
      (X.room_calling (g := g) (R' := (headSpec ws rm).room) hsize hmY hcY hframes (by rw [hlY]; omega) h4 h5) h1
  obtain ⟨mid, hmid⟩ := h.above
  have hfr : (U.setTop g).frames = (.java g :: mid) ++ below := by rw [State.frames_setTop' g h.top, hmid]; rfl
  obtain ⟨o, s₂, hsteps, -, hend, hq⟩ := Steps.callFree hM p X.admits X.cas X.clock (acts := []) hfr happ hPc trivial
  have hq' : vx_Q Qc XC mc ms free a (U.calling g mk a) o s₂ := hq
  rw [State.frames_setTop' g h.top] at hend
  obtain ⟨g₀, hg0⟩ := Option.isSome_iff_exists.mp h.top
  obtain ⟨r, hr⟩ := State.topJava?_eq_some.mp hg0
  have hr' : (({ U with heap := s₂.heap, slotsUsed := s₂.slotsUsed } : State).setVm s₂.vm).frames = .java g₀ :: r := hr
  rcases hq' with ⟨hqc, L, hfe, hL⟩ | ⟨q, rfl, E, ce, L, hx, hce, hcv, hcl, hW₂, hsm, hL⟩
  · obtain ⟨⟨v, rfl⟩, hW₂, e2, q2, q3, q4, q5, q6⟩ := id hfe
    have e3 : s₂ = ({ (U.calling g mk a).setFrames s₂.frames with heap := s₂.heap, slotsUsed := s₂.slotsUsed } : State).setVm s₂.vm := by
      have : s₂ = ({ s₂ with vm := (U.calling g mk a).vm } : State).setVm s₂.vm := rfl
      rw [e2] at this
      exact this
    obtain ⟨c₂, i₂, len₂, hc₂, hd₂, hf₂⟩ := hend
    have hW' : U.WarmedH s₂.vm := hW₂
    have hcc : c₂ = c := by
      have h1 : s₂.code? g.method = U.code? g.method := by
        rw [State.code?_eq, State.code?_eq, hW'.alike.method?]
      exact Option.some.inj (hc₂.symm.trans (h1.trans h.code))
    subst hcc
    have hlen : len₂ = len := by rw [hdg] at hd₂; cases hd₂; rfl
    subst hlen
    have hs₂ : s₂ = (({ U with heap := s₂.heap, slotsUsed := s₂.slotsUsed } : State).setVm s₂.vm).setTop { g with pc := g.pc + len₂, stack := v.toList ++ g.stack } := by
      refine e3.trans ?_
      rw [hf₂, State.calling_eq h.top, State.setFrames_setFrames, State.setTop_of_frames _ hr', hr]
      rfl
    have hsame : U.sameButNew ({ U with heap := s₂.heap, slotsUsed := s₂.slotsUsed } : State) L mc ms := by
      refine ⟨?_, q2, q3, q4, q5, q6⟩
      obtain ⟨t, ht, -⟩ := State.frames_cons hr
      show ({ U with heap := s₂.heap, slotsUsed := s₂.slotsUsed } : State) = { U.setFrames U.frames with heap := s₂.heap, slotsUsed := s₂.slotsUsed }
      rw [State.setFrames_self ht]
    subst hg
    refine Or.inl ⟨v, ⟨(({ U with heap := s₂.heap, slotsUsed := s₂.slotsUsed } : State).setVm s₂.vm), Ls ++ L, c0 + mc, s0 + ms⟩,
      ⟨X.admits, X.cas, X.clock, X.frames, X.room, X.hears, X.method, X.code, (X.here.setHeapUsed s₂.heap s₂.slotsUsed).setVm hW'.alike, X.tail, State.WarmedH.trans X.warmed hW', X.limits, X.bytes, X.same.trans (hsame.setVm s.vm)⟩,
      ⟨g, mk, s₂, L, rfl, rfl, hqc, rfl, hL, rfl, rfl⟩, ?_⟩
    show Steps p.tables e below _ ((({ U with heap := s₂.heap, slotsUsed := s₂.slotsUsed } : State).setVm s₂.vm).setTop { g with pc := g.pc + len₂, stack := v.toList ++ g.stack })
    rw [← hs₂]
    exact hsteps
  · obtain ⟨e2, q2, q3, q4, q5, q6⟩ := id hsm
    have e3 : s₂ = ({ (U.calling g mk a).setFrames s₂.frames with heap := s₂.heap, slotsUsed := s₂.slotsUsed } : State).setVm s₂.vm := by
      have : s₂ = ({ s₂ with vm := (U.calling g mk a).vm } : State).setVm s₂.vm := rfl
      rw [e2] at this
      exact this
    have hf₂ : s₂.frames = .throwing q :: .java g :: U.frames.tail := hend
    have hW' : U.WarmedH s₂.vm := hW₂
    have hs₂ : s₂ = ((({ U with heap := s₂.heap, slotsUsed := s₂.slotsUsed } : State).setVm s₂.vm).setTop g).pushFrame (.throwing q) := by
      refine e3.trans ?_
      rw [hf₂, State.calling_eq h.top, State.setFrames_setFrames, State.pushFrame, State.frames_setTop _ hr', State.setTop_of_frames _ hr', State.setFrames_setFrames, hr]
      rfl
    have hsame : U.sameButNew ({ U with heap := s₂.heap, slotsUsed := s₂.slotsUsed } : State) L mc ms := by
      refine ⟨?_, q2, q3, q4, q5, q6⟩
      obtain ⟨t, ht, -⟩ := State.frames_cons hr
      show ({ U with heap := s₂.heap, slotsUsed := s₂.slotsUsed } : State) = { U.setFrames U.frames with heap := s₂.heap, slotsUsed := s₂.slotsUsed }
      rw [State.setFrames_self ht]
    subst hg
    refine Or.inr ⟨q, ⟨(({ U with heap := s₂.heap, slotsUsed := s₂.slotsUsed } : State).setVm s₂.vm), Ls ++ L, c0 + mc, s0 + ms⟩,
      ⟨X.admits, X.cas, X.clock, X.frames, X.room, X.hears, X.method, X.code, (X.here.setHeapUsed s₂.heap s₂.slotsUsed).setVm hW'.alike, X.tail, State.WarmedH.trans X.warmed hW', X.limits, X.bytes, X.same.trans (hsame.setVm s.vm)⟩,
      ⟨g, mk, s₂, L, E, ce, rfl, rfl, hx, hce, hcv, hcl, rfl, hL, rfl, rfl⟩, ?_⟩
    show Steps p.tables e below _ (((({ U with heap := s₂.heap, slotsUsed := s₂.slotsUsed } : State).setVm s₂.vm).setTop g).pushFrame (.throwing q))
    rw [← hs₂]
    exact hsteps
end Payer
section Calls
variable {p : Program} {l : Launch} {e : Env} {R : Room} {s : State} {m : MethodId} {args : Array Value} {below : List Frame} {meth : Method} {c : Code} {T : State} {locs : List Loc} {cells slots : Nat}
theorem vx_callV (X : Stand p l e R s m args below meth c T locs cells slots) (hexec : p.tables.exec = Jvm.exec) {own C : String} {index : Nat} {y : MethodName} {bytes : ByteArray} {maxL : Nat} {ret : Option FieldType}
    (hown : s.vm.findClass own = some m.cls) (hlink : (Cond.methodLink own index y).before args s = true) (hinst : (Cond.instanceMethod y).before args s = true) (hsel : (Cond.selects C y y).before args s = true)
    (hcode : (Cond.code y bytes maxL ret).before args s = true) (hy : y.cls ≠ "java/lang/invoke/MethodHandle" ∧ y.cls ≠ "java/lang/invoke/VarHandle")
    {W9 : Nat} {Pre : Pt → Array Value → Prop} {Post : Pt → Array Value → Option Value → Pt → Prop} {PostX : Pt → Array Value → Addr → Pt → Prop} (hK : vx_Back l R p e below s args y 3 W9 Pre Post PostX)
    {b : Addr} {cellB : Cell} (hcell : T.heap[b]? = some cellB) (hobj : cellB.vm.isStatics = false) (hcls : s.vm.findClass C = some cellB.cls)
    {g : JFrame} (hg : g.method = m) (hsize : g.locals.size = c.maxLocals) {argsL rest : List Value} (hlen : ∀ sig, parseMethodDescriptor y.desc = some sig → argsL.length = sig.parameters.length)
    (hstack : g.stack = argsL.reverse ++ .ref b :: rest) (hW : 2 * g.monitorRoom + (rest.map fun v => v.category).sum ≤ W9) (hdg : decode c.code g.pc = .ok (.invokevirtual index, 3))
    (hpre : ∀ vm₁, s.WarmedH vm₁ → Pre ⟨T.setVm vm₁, locs, cells, slots⟩ (Value.ref b :: argsL).toArray) :
    (∃ (v : Option Value) (vm₁ : Vm) (B : Pt), s.WarmedH vm₁ ∧ Stand p l e R s m args below meth c B.U B.locs B.cells B.slots ∧ Post ⟨T.setVm vm₁, locs, cells, slots⟩ (Value.ref b :: argsL).toArray v B ∧
      ∀ target, Steps p.tables e below (B.U.setTop { g with pc := g.pc + 3, stack := v.toList ++ rest }) target → Steps p.tables e below (T.setTop g) target) ∨
    (∃ (q : Addr) (vm₁ : Vm) (B : Pt), s.WarmedH vm₁ ∧ Stand p l e R s m args below meth c B.U B.locs B.cells B.slots ∧ PostX ⟨T.setVm vm₁, locs, cells, slots⟩ (Value.ref b :: argsL).toArray q B ∧
      Steps p.tables e below (T.setTop g) ((B.U.setTop { g with stack := rest }).pushFrame (.throwing q))) := by
  obtain ⟨mk, methM, hnamed, hmethM, hstM, habM⟩ := Cond.instanceMethod_spec hinst
  obtain ⟨methM', cM, hmethM', -, -, -, -, -, -, hsigM⟩ := Cond.code_spec hnamed hcode
  cases hmethM.symm.trans hmethM'
  obtain ⟨c2, r2, m2, q1, q2, q3, q4, kP, hkP, hkPi⟩ := Cond.selects_spec hsel
  cases hcls.symm.trans q1
  cases (State.methodFound?_of_named hnamed hy).symm.trans q2
  cases hnamed.symm.trans q3
  have hselP : selectMethod e.platform s.vm cellB.cls mk = .method mk := by rw [Launch.admits_selectMethod X.admits]; exact q4
  obtain ⟨vm₁, X₁, hstep₁⟩ := X.invokevirtual hexec hown hlink hnamed hmethM hstM hkP hkPi hy (a := b) (cell := cellB) hcell
    (fun z h => by rw [h] at hobj; cases hobj) hselP hmethM habM hkP hkPi (g := g) hg (argsL := argsL) (rest := rest) (hlen _ hsigM) hstack hdg
  rcases hK m meth c ⟨T.setVm vm₁, locs, cells, slots⟩ { g with stack := rest } (.invokevirtual index) mk (Value.ref b :: argsL).toArray X₁ hg hsize hdg hW (X₁.named hnamed) (hpre vm₁ X₁.warmed) with ⟨v, B, X', hpost, hsteps⟩ | ⟨q, B, X', hpost, hsteps⟩
  · exact Or.inl ⟨v, vm₁, B, X₁.warmed, X', hpost, fun target h => hstep₁ _ fun acts => by rw [doInvoke_state]; exact hsteps.trans h⟩
  · exact Or.inr ⟨q, vm₁, B, X₁.warmed, X', hpost, hstep₁ _ fun acts => by rw [doInvoke_state]; exact hsteps⟩
theorem vx_callS (X : Stand p l e R s m args below meth c T locs cells slots) (hexec : p.tables.exec = Jvm.exec) {own : String} {index : Nat} {y : MethodName} {bytes : ByteArray} {maxL : Nat} {ret : Option FieldType}
    (hown : s.vm.findClass own = some m.cls) (hlink : (Cond.methodLink own index y).before args s = true) (hstat : (Cond.static y).before args s = true) (hinit : (Cond.initialized y.cls).before args s = true)
    (hcode : (Cond.code y bytes maxL ret).before args s = true) (hy : y.cls ≠ "java/lang/invoke/MethodHandle" ∧ y.cls ≠ "java/lang/invoke/VarHandle")
    {W9 : Nat} {Pre : Pt → Array Value → Prop} {Post : Pt → Array Value → Option Value → Pt → Prop} {PostX : Pt → Array Value → Addr → Pt → Prop} (hK : vx_Back l R p e below s args y 3 W9 Pre Post PostX)
    {g : JFrame} (hg : g.method = m) (hsize : g.locals.size = c.maxLocals) {argsL rest : List Value} (hlen : ∀ sig, parseMethodDescriptor y.desc = some sig → argsL.length = sig.parameters.length)
    (hstack : g.stack = argsL.reverse ++ rest) (hW : 2 * g.monitorRoom + (rest.map fun v => v.category).sum ≤ W9) (hdg : decode c.code g.pc = .ok (.invokestatic index, 3))
    (hpre : ∀ vm₁, s.WarmedH vm₁ → Pre ⟨T.setVm vm₁, locs, cells, slots⟩ argsL.toArray) :
    (∃ (v : Option Value) (vm₁ : Vm) (B : Pt), s.WarmedH vm₁ ∧ Stand p l e R s m args below meth c B.U B.locs B.cells B.slots ∧ Post ⟨T.setVm vm₁, locs, cells, slots⟩ argsL.toArray v B ∧
      ∀ target, Steps p.tables e below (B.U.setTop { g with pc := g.pc + 3, stack := v.toList ++ rest }) target → Steps p.tables e below (T.setTop g) target) ∨
    (∃ (q : Addr) (vm₁ : Vm) (B : Pt), s.WarmedH vm₁ ∧ Stand p l e R s m args below meth c B.U B.locs B.cells B.slots ∧ PostX ⟨T.setVm vm₁, locs, cells, slots⟩ argsL.toArray q B ∧
      Steps p.tables e below (T.setTop g) ((B.U.setTop { g with stack := rest }).pushFrame (.throwing q))) := by
  obtain ⟨mk, hnamed⟩ := Cond.code_named hcode
  obtain ⟨methM, cM, hmethM, -, -, -, -, -, -, hsigM⟩ := Cond.code_spec hnamed hcode
  have hstatic : methM.isStatic = true := Cond.static_spec hnamed hmethM hstat
  obtain ⟨kP, hkP, -⟩ := className_of_methodNamed hnamed
  have hinitP : kP.init = .initialized := Cond.initialized_spec (findClass_of_methodNamed hnamed) hkP hinit
  obtain ⟨vm₁, X₁, hstep₁⟩ := X.invokestatic hexec hown hlink hnamed hmethM hstatic hkP hinitP hy (g := g) hg (argsL := argsL) (rest := rest) (hlen _ hsigM) hstack hdg
  rcases hK m meth c ⟨T.setVm vm₁, locs, cells, slots⟩ { g with stack := rest } (.invokestatic index) mk argsL.toArray X₁ hg hsize hdg hW (X₁.named hnamed) (hpre vm₁ X₁.warmed) with ⟨v, B, X', hpost, hsteps⟩ | ⟨q, B, X', hpost, hsteps⟩
  · exact Or.inl ⟨v, vm₁, B, X₁.warmed, X', hpost, fun target h => hstep₁ _ fun acts => by rw [doInvoke_state]; exact hsteps.trans h⟩
  · exact Or.inr ⟨q, vm₁, B, X₁.warmed, X', hpost, hstep₁ _ fun acts => by rw [doInvoke_state]; exact hsteps⟩
end Calls
theorem vx_cls {s : State} {T : State} {vm₁ : Vm} {E : String} {k : ClassId} (hW : s.WarmedH vm₁) (h : (T.setVm vm₁).vm.findClass E = some k) : s.vm.findClass E = some k := by
  have h1 : vm₁.findClass E = some k := h
  rw [hW.alike.findClass] at h1
  exact h1
/-- the method's frame g, with q thrown over it -/
def vx_W (p : Program) (l : Launch) (e : Env) (R : Room) (s : State) (m : MethodId) (args : Array Value) (below : List Frame) (meth : Method) (c : Code) (H : Heap) (locs : List Loc) (cells slots : Nat) (Q : State → Prop) (g : JFrame) (q : Addr) : Prop :=
  ∀ T : State, T.heap = H → Stand p l e R s m args below meth c T locs cells slots → ∃ t, Steps p.tables e below ((T.setTop g).pushFrame (.throwing q)) t ∧ Q t
def vx_Run (p : Program) (l : Launch) (e : Env) (R : Room) (s : State) (m : MethodId) (args : Array Value) (below : List Frame) (meth : Method) (c : Code) (H : Heap) (locs : List Loc) (cells slots mc ms : Nat) (g : JFrame) (rest : List Value) (Qa : State → Outcome → State → Prop) (XC : String → State → State → Prop) (free : Addr → Prop) : Prop :=
  ∀ T : State, T.heap = H → Stand p l e R s m args below meth c T locs cells slots →
    (∃ (v : Option Value) (st₀ t T' : State) (L : List Loc), st₀.heap = H ∧ Stand p l e R s m args below meth c T' (locs ++ L) (cells + mc) (slots + ms) ∧ (∀ q ∈ L, free q.base) ∧ T'.heap = t.heap ∧ T'.vm = t.vm ∧ Qa st₀ (.returned v) t ∧
      Goes p e below T g T' { g with pc := g.pc + 3, stack := v.toList ++ rest }) ∨
    (∃ (q : Addr) (st₀ t T' : State) (L : List Loc) (E : String) (ce : Cell), st₀.heap = H ∧ Stand p l e R s m args below meth c T' (locs ++ L) (cells + mc) (slots + ms) ∧ (∀ z ∈ L, free z.base) ∧ T'.heap = t.heap ∧ T'.vm = t.vm ∧ XC E st₀ t ∧ t.heap[q]? = some ce ∧ ce.vm = .none ∧ s.vm.findClass E = some ce.cls ∧
      Steps p.tables e below (T.setTop g) ((T'.setTop { g with stack := rest }).pushFrame (.throwing q)))
def vx_X {S : Type} (px : S → Prop) (B : String → S → State → Prop) (A : Nat → Prop) : String → State → State → Prop := fun E st t => ∃ u : S, px u ∧ B E u t ∧ va_F A st t
section Runs
variable {p : Program} {l : Launch} {e : Env} {R : Room} {s : State} {m : MethodId} {args : Array Value} {below : List Frame} {meth : Method} {c : Code} {H : Heap} {locs : List Loc} {cells slots : Nat}
variable {y : MethodName} {bytes cc : ByteArray} {maxL nL mc ms n index : Nat} {ret : Option FieldType} {ws : List Cond} {rm : Room} {Pc : Array Value → State → Prop} {Qc : Array Value → State → Outcome → State → Prop} {XC : String → State → State → Prop} {free : Addr → Prop} {Ts : List Cond} {own C : String} {b : Addr} {As rest : List Value} {g : JFrame}
theorem vx_callBack (cb : CallB R s args own index y bytes maxL ret ws rm mc ms n) (hM : vx_Met l y ws rm Pc Qc XC mc ms free) (hbl : FrameBlind Pc) : vx_Back l R p e below s args y 3 8 (PreOf R mc ms Pc) (PostOf Qc mc ms free) (vx_Post XC mc ms free) := by
  obtain ⟨hrc, hrs, hfr, hlo, hws, hcw, -, hini, -⟩ := cb
  exact vx_back (bytes := bytes) (maxL := maxL) (ret := ret) hM hbl hrc hrs hfr hlo hws hcw (fun a' U hW => word_at hW (Or.inl (by first | rfl | simp [Cond.onTables, Cond.keeps, Cond.steady])) hini)
theorem vx_runV (S : CallFix p m c cc nL s args Ts own) (hM : vx_Met l y ws rm Pc Qc XC mc ms free) (cw : CallW R s args own C index y bytes maxL ret ws rm mc ms n) (hp : PreV s H C b Pc As)
    (hg : g.method = m) (hn : As.length = n) (hsize : g.locals.size = nL) (hstack : g.stack = As.reverse ++ .ref b :: rest) (hW : 2 * g.monitorRoom + (rest.map fun v => v.category).sum ≤ 8) (hdg : decode cc g.pc = .ok (.invokevirtual index, 3)) (hf : cells + mc ≤ R.cells ∧ slots + ms ≤ R.slots) :
    vx_Run p l e R s m args below meth c H locs cells slots mc ms g rest (Qc (Value.ref b :: As).toArray) XC free := by
  have hK : vx_Back l R p e below s args y 3 8 (PreOf R mc ms Pc) (PostOf Qc mc ms free) (vx_Post XC mc ms free) := vx_callBack cw.1 hM hp.1
  obtain ⟨⟨-, -, -, -, -, -, hcode, -, hy, hlen, hl⟩, hin, hse⟩ := cw
  obtain ⟨hx, hb, hml, ho, -⟩ := S
  obtain ⟨-, ⟨cellB, hcB, hoB, hclB⟩, hPc⟩ := hp
  intro T hT X
  rcases vx_callV X hx (C := C) (bytes := bytes) (maxL := maxL) (ret := ret) ho hl hin hse hcode hy hK (by rw [hT]; exact hcB) hoB hclB hg (hsize.trans hml.symm) (argsL := As) (rest := rest) (fun sig h => hn.trans (hlen sig h)) hstack hW (by rw [hb]; exact hdg)
    (fun vm₁ hW₁ => ⟨hf.1, hf.2, hPc (T.setVm vm₁) hT hW₁⟩) with ⟨v, vm₁, ⟨U', l2, c2, s2⟩, hW₁, X', ⟨g', mk, t, L, e1, e2, hq, h1, hL, h2, h3⟩, st⟩ | ⟨q, vm₁, ⟨U', l2, c2, s2⟩, hW₁, X', ⟨g', mk, t, L, E, ce, e1, e2, hq, hce, hcv, hcl, h1, hL, h2, h3⟩, st⟩
  · dsimp only [Pt.U, Pt.locs, Pt.cells, Pt.slots] at X' e1 e2 h1 h2 h3 st
    subst h1; subst h2; subst h3
    exact Or.inl ⟨v, (T.setVm vm₁).calling g' mk (Value.ref b :: As).toArray, t, U', L, hT, X', hL, e1, e2, hq, st⟩
  · dsimp only [Pt.U, Pt.locs, Pt.cells, Pt.slots] at X' e1 e2 h1 h2 h3 st hcl
    subst h1; subst h2; subst h3
    exact Or.inr ⟨q, (T.setVm vm₁).calling g' mk (Value.ref b :: As).toArray, t, U', L, E, ce, hT, X', hL, e1, e2, hq, hce, hcv, vx_cls hW₁ hcl, st⟩
theorem vx_runS (S : CallFix p m c cc nL s args Ts own) (hM : vx_Met l y ws rm Pc Qc XC mc ms free) (cw : CallB R s args own index y bytes maxL ret ws rm mc ms n ∧ (Cond.static y).before args s = true) (hp : PreS s H Pc As)
    (hg : g.method = m) (hn : As.length = n) (hsize : g.locals.size = nL) (hstack : g.stack = As.reverse ++ rest) (hW : 2 * g.monitorRoom + (rest.map fun v => v.category).sum ≤ 8) (hdg : decode cc g.pc = .ok (.invokestatic index, 3)) (hf : cells + mc ≤ R.cells ∧ slots + ms ≤ R.slots) :
    vx_Run p l e R s m args below meth c H locs cells slots mc ms g rest (Qc As.toArray) XC free := by
  have hK : vx_Back l R p e below s args y 3 8 (PreOf R mc ms Pc) (PostOf Qc mc ms free) (vx_Post XC mc ms free) := vx_callBack cw.1 hM hp.1
  obtain ⟨⟨-, -, -, -, -, -, hcode, hini, hy, hlen, hl⟩, hstt⟩ := cw
  obtain ⟨hx, hb, hml, ho, -⟩ := S
  intro T hT X
  rcases vx_callS X hx (bytes := bytes) (maxL := maxL) (ret := ret) ho hl hstt hini hcode hy hK hg (hsize.trans hml.symm) (argsL := As) (rest := rest) (fun sig h => hn.trans (hlen sig h)) hstack hW (by rw [hb]; exact hdg)
    (fun vm₁ hW₁ => ⟨hf.1, hf.2, hp.2 (T.setVm vm₁) hT hW₁⟩) with ⟨v, vm₁, ⟨U', l2, c2, s2⟩, hW₁, X', ⟨g', mk, t, L, e1, e2, hq, h1, hL, h2, h3⟩, st⟩ | ⟨q, vm₁, ⟨U', l2, c2, s2⟩, hW₁, X', ⟨g', mk, t, L, E, ce, e1, e2, hq, hce, hcv, hcl, h1, hL, h2, h3⟩, st⟩
  · dsimp only [Pt.U, Pt.locs, Pt.cells, Pt.slots] at X' e1 e2 h1 h2 h3 st
    subst h1; subst h2; subst h3
    exact Or.inl ⟨v, (T.setVm vm₁).calling g' mk As.toArray, t, U', L, hT, X', hL, e1, e2, hq, st⟩
  · dsimp only [Pt.U, Pt.locs, Pt.cells, Pt.slots] at X' e1 e2 h1 h2 h3 st hcl
    subst h1; subst h2; subst h3
    exact Or.inr ⟨q, (T.setVm vm₁).calling g' mk As.toArray, t, U', L, E, ce, hT, X', hL, e1, e2, hq, hce, hcv, vx_cls hW₁ hcl, st⟩
end Runs
section Rows
variable {p : Program} {l : Launch} {e : Env} {R : Room} {s : State} {m : MethodId} {args : Array Value} {below : List Frame} {meth : Method} {c : Code} {H : Heap} {locs : List Loc} {cells slots : Nat} {Q : State → Prop}
variable {mc ms : Nat} {free : Addr → Prop} {A0 A1 : Nat → Prop} {H0 : Heap} {a : Array Value} {pc : Nat} {ls : Array Slot} {st0 rest : List Value}
theorem vx_keep {st₀ t T' : State} {L : List Loc} (h0 : st₀.heap = H) (e1 : T'.heap = t.heap) (hS : va_S A0 H0 H locs) (hA : ∀ q, q < H.size → A1 q → A0 q) (hf : ∀ q, free q → A0 q) (hL : ∀ q ∈ L, free q.base) (hF : va_F A1 st₀ t) :
    H.size ≤ T'.heap.size ∧ (∀ q : Nat, q < H.size → ¬ A1 q → T'.heap[q]? = H[q]?) ∧ va_S A0 H0 T'.heap (locs ++ L) := by
  obtain ⟨hz, hk⟩ := hF
  rw [h0] at hz hk
  exact ⟨by rw [e1]; exact hz, fun q h1 h2 => by rw [e1]; exact hk q h1 h2,
    ⟨Nat.le_trans hS.1 (by rw [e1]; exact hz), fun q h1 h2 => by rw [e1, hk q (Nat.lt_of_lt_of_le h1 hS.1) (fun z => h2 (hA q (Nat.lt_of_lt_of_le h1 hS.1) z))]; exact hS.2.1 q h1 h2, fun q hq => by
      rcases List.mem_append.mp hq with h | h
      · exact hS.2.2 q h
      · exact hf _ (hL q h)⟩⟩
theorem vx_calli {S SX : Type} {post : Int32 → S → Prop} {px : SX → Prop} {B : S → State → Prop} {BX : String → SX → State → Prop} {AX : Nat → Prop} (hr : vx_Run p l e R s m args below meth c H locs cells slots mc ms (F0 m pc ls st0) rest (va_Qi post B A1 a) (vx_X px BX AX) free) (hS : va_S A0 H0 H locs) (hA : ∀ q, q < H.size → A1 q → A0 q) (hf : ∀ q, free q → A0 q) (hAX : ∀ q, q < H.size → AX q → A0 q)
    (kx : ∀ (E : String) (ce : Cell) (q9 : Addr) (u : SX) (t : State) (H1 : Heap) (locs1 : List Loc), t.heap = H1 → s.vm.Alike t.vm → px u → BX E u t → H.size ≤ H1.size → (∀ q : Nat, q < H.size → ¬ AX q → H1[q]? = H[q]?) → va_S A0 H0 H1 locs1 → H1[q9]? = some ce → ce.vm = .none → s.vm.findClass E = some ce.cls → vx_W p l e R s m args below meth c H1 locs1 (cells + mc) (slots + ms) Q (F0 m pc ls rest) q9)
    (kk : ∀ (r : Int32) (u : S) (t : State) (H1 : Heap) (locs1 : List Loc), t.heap = H1 → s.vm.Alike t.vm → post r u → B u t → H.size ≤ H1.size → (∀ q : Nat, q < H.size → ¬ A1 q → H1[q]? = H[q]?) → va_S A0 H0 H1 locs1 → W p l e R s m args below meth c H1 locs1 (cells + mc) (slots + ms) Q (F0 m (pc + 3) ls (.int r :: rest))) : W p l e R s m args below meth c H locs cells slots Q (F0 m pc ls st0) := by
  intro T hT X
  rcases hr T hT X with ⟨v, st₀, t, T', L, h0, X', hL, e1, e2, ⟨⟨r, u, hv, hp, hb⟩, hF⟩, st⟩ | ⟨q, st₀, t, T', L, E, ce, h0, X', hL, e1, e2, ⟨u, hp, hb, hF⟩, hce, hcv, hcl, st⟩
  · cases hv
    obtain ⟨k1, k2, k3⟩ := vx_keep h0 e1 hS hA hf hL hF
    obtain ⟨t2, a1, b1⟩ := kk r u t T'.heap (locs ++ L) e1.symm (by rw [← e2]; exact X'.warmed.alike) hp hb k1 k2 k3 T' rfl X'
    exact ⟨t2, st t2 a1, b1⟩
  · obtain ⟨k1, k2, k3⟩ := vx_keep h0 e1 hS hAX hf hL hF
    obtain ⟨t2, a1, b1⟩ := kx E ce q u t T'.heap (locs ++ L) e1.symm (by rw [← e2]; exact X'.warmed.alike) hp hb k1 k2 k3 (by rw [e1]; exact hce) hcv hcl T' rfl X'
    exact ⟨t2, st.trans a1, b1⟩
theorem vx_calll {S SX : Type} {post : Int64 → S → Prop} {px : SX → Prop} {B : S → State → Prop} {BX : String → SX → State → Prop} {AX : Nat → Prop} (hr : vx_Run p l e R s m args below meth c H locs cells slots mc ms (F0 m pc ls st0) rest (va_Ql post B A1 a) (vx_X px BX AX) free) (hS : va_S A0 H0 H locs) (hA : ∀ q, q < H.size → A1 q → A0 q) (hf : ∀ q, free q → A0 q) (hAX : ∀ q, q < H.size → AX q → A0 q)
    (kx : ∀ (E : String) (ce : Cell) (q9 : Addr) (u : SX) (t : State) (H1 : Heap) (locs1 : List Loc), t.heap = H1 → s.vm.Alike t.vm → px u → BX E u t → H.size ≤ H1.size → (∀ q : Nat, q < H.size → ¬ AX q → H1[q]? = H[q]?) → va_S A0 H0 H1 locs1 → H1[q9]? = some ce → ce.vm = .none → s.vm.findClass E = some ce.cls → vx_W p l e R s m args below meth c H1 locs1 (cells + mc) (slots + ms) Q (F0 m pc ls rest) q9)
    (kk : ∀ (r : Int64) (u : S) (t : State) (H1 : Heap) (locs1 : List Loc), t.heap = H1 → s.vm.Alike t.vm → post r u → B u t → H.size ≤ H1.size → (∀ q : Nat, q < H.size → ¬ A1 q → H1[q]? = H[q]?) → va_S A0 H0 H1 locs1 → W p l e R s m args below meth c H1 locs1 (cells + mc) (slots + ms) Q (F0 m (pc + 3) ls (.long r :: rest))) : W p l e R s m args below meth c H locs cells slots Q (F0 m pc ls st0) := by
  intro T hT X
  rcases hr T hT X with ⟨v, st₀, t, T', L, h0, X', hL, e1, e2, ⟨⟨r, u, hv, hp, hb⟩, hF⟩, st⟩ | ⟨q, st₀, t, T', L, E, ce, h0, X', hL, e1, e2, ⟨u, hp, hb, hF⟩, hce, hcv, hcl, st⟩
  · cases hv
    obtain ⟨k1, k2, k3⟩ := vx_keep h0 e1 hS hA hf hL hF
    obtain ⟨t2, a1, b1⟩ := kk r u t T'.heap (locs ++ L) e1.symm (by rw [← e2]; exact X'.warmed.alike) hp hb k1 k2 k3 T' rfl X'
    exact ⟨t2, st t2 a1, b1⟩
  · obtain ⟨k1, k2, k3⟩ := vx_keep h0 e1 hS hAX hf hL hF
    obtain ⟨t2, a1, b1⟩ := kx E ce q u t T'.heap (locs ++ L) e1.symm (by rw [← e2]; exact X'.warmed.alike) hp hb k1 k2 k3 (by rw [e1]; exact hce) hcv hcl T' rfl X'
    exact ⟨t2, st.trans a1, b1⟩
theorem vx_callf {S SX : Type} {post : UInt32 → S → Prop} {px : SX → Prop} {B : S → State → Prop} {BX : String → SX → State → Prop} {AX : Nat → Prop} (hr : vx_Run p l e R s m args below meth c H locs cells slots mc ms (F0 m pc ls st0) rest (va_Qf post B A1 a) (vx_X px BX AX) free) (hS : va_S A0 H0 H locs) (hA : ∀ q, q < H.size → A1 q → A0 q) (hf : ∀ q, free q → A0 q) (hAX : ∀ q, q < H.size → AX q → A0 q)
    (kx : ∀ (E : String) (ce : Cell) (q9 : Addr) (u : SX) (t : State) (H1 : Heap) (locs1 : List Loc), t.heap = H1 → s.vm.Alike t.vm → px u → BX E u t → H.size ≤ H1.size → (∀ q : Nat, q < H.size → ¬ AX q → H1[q]? = H[q]?) → va_S A0 H0 H1 locs1 → H1[q9]? = some ce → ce.vm = .none → s.vm.findClass E = some ce.cls → vx_W p l e R s m args below meth c H1 locs1 (cells + mc) (slots + ms) Q (F0 m pc ls rest) q9)
    (kk : ∀ (r : UInt32) (u : S) (t : State) (H1 : Heap) (locs1 : List Loc), t.heap = H1 → s.vm.Alike t.vm → post r u → B u t → H.size ≤ H1.size → (∀ q : Nat, q < H.size → ¬ A1 q → H1[q]? = H[q]?) → va_S A0 H0 H1 locs1 → W p l e R s m args below meth c H1 locs1 (cells + mc) (slots + ms) Q (F0 m (pc + 3) ls (.float r :: rest))) : W p l e R s m args below meth c H locs cells slots Q (F0 m pc ls st0) := by
  intro T hT X
  rcases hr T hT X with ⟨v, st₀, t, T', L, h0, X', hL, e1, e2, ⟨⟨r, u, hv, hp, hb⟩, hF⟩, st⟩ | ⟨q, st₀, t, T', L, E, ce, h0, X', hL, e1, e2, ⟨u, hp, hb, hF⟩, hce, hcv, hcl, st⟩
  · cases hv
    obtain ⟨k1, k2, k3⟩ := vx_keep h0 e1 hS hA hf hL hF
    obtain ⟨t2, a1, b1⟩ := kk r u t T'.heap (locs ++ L) e1.symm (by rw [← e2]; exact X'.warmed.alike) hp hb k1 k2 k3 T' rfl X'
    exact ⟨t2, st t2 a1, b1⟩
  · obtain ⟨k1, k2, k3⟩ := vx_keep h0 e1 hS hAX hf hL hF
    obtain ⟨t2, a1, b1⟩ := kx E ce q u t T'.heap (locs ++ L) e1.symm (by rw [← e2]; exact X'.warmed.alike) hp hb k1 k2 k3 (by rw [e1]; exact hce) hcv hcl T' rfl X'
    exact ⟨t2, st.trans a1, b1⟩
theorem vx_calld {S SX : Type} {post : UInt64 → S → Prop} {px : SX → Prop} {B : S → State → Prop} {BX : String → SX → State → Prop} {AX : Nat → Prop} (hr : vx_Run p l e R s m args below meth c H locs cells slots mc ms (F0 m pc ls st0) rest (va_Qd post B A1 a) (vx_X px BX AX) free) (hS : va_S A0 H0 H locs) (hA : ∀ q, q < H.size → A1 q → A0 q) (hf : ∀ q, free q → A0 q) (hAX : ∀ q, q < H.size → AX q → A0 q)
    (kx : ∀ (E : String) (ce : Cell) (q9 : Addr) (u : SX) (t : State) (H1 : Heap) (locs1 : List Loc), t.heap = H1 → s.vm.Alike t.vm → px u → BX E u t → H.size ≤ H1.size → (∀ q : Nat, q < H.size → ¬ AX q → H1[q]? = H[q]?) → va_S A0 H0 H1 locs1 → H1[q9]? = some ce → ce.vm = .none → s.vm.findClass E = some ce.cls → vx_W p l e R s m args below meth c H1 locs1 (cells + mc) (slots + ms) Q (F0 m pc ls rest) q9)
    (kk : ∀ (r : UInt64) (u : S) (t : State) (H1 : Heap) (locs1 : List Loc), t.heap = H1 → s.vm.Alike t.vm → post r u → B u t → H.size ≤ H1.size → (∀ q : Nat, q < H.size → ¬ A1 q → H1[q]? = H[q]?) → va_S A0 H0 H1 locs1 → W p l e R s m args below meth c H1 locs1 (cells + mc) (slots + ms) Q (F0 m (pc + 3) ls (.double r :: rest))) : W p l e R s m args below meth c H locs cells slots Q (F0 m pc ls st0) := by
  intro T hT X
  rcases hr T hT X with ⟨v, st₀, t, T', L, h0, X', hL, e1, e2, ⟨⟨r, u, hv, hp, hb⟩, hF⟩, st⟩ | ⟨q, st₀, t, T', L, E, ce, h0, X', hL, e1, e2, ⟨u, hp, hb, hF⟩, hce, hcv, hcl, st⟩
  · cases hv
    obtain ⟨k1, k2, k3⟩ := vx_keep h0 e1 hS hA hf hL hF
    obtain ⟨t2, a1, b1⟩ := kk r u t T'.heap (locs ++ L) e1.symm (by rw [← e2]; exact X'.warmed.alike) hp hb k1 k2 k3 T' rfl X'
    exact ⟨t2, st t2 a1, b1⟩
  · obtain ⟨k1, k2, k3⟩ := vx_keep h0 e1 hS hAX hf hL hF
    obtain ⟨t2, a1, b1⟩ := kx E ce q u t T'.heap (locs ++ L) e1.symm (by rw [← e2]; exact X'.warmed.alike) hp hb k1 k2 k3 (by rw [e1]; exact hce) hcv hcl T' rfl X'
    exact ⟨t2, st.trans a1, b1⟩
theorem vx_callv {S SX : Type} {post : S → Prop} {px : SX → Prop} {B : S → State → Prop} {BX : String → SX → State → Prop} {AX : Nat → Prop} (hr : vx_Run p l e R s m args below meth c H locs cells slots mc ms (F0 m pc ls st0) rest (va_Qv post B A1 a) (vx_X px BX AX) free) (hS : va_S A0 H0 H locs) (hA : ∀ q, q < H.size → A1 q → A0 q) (hf : ∀ q, free q → A0 q) (hAX : ∀ q, q < H.size → AX q → A0 q)
    (kx : ∀ (E : String) (ce : Cell) (q9 : Addr) (u : SX) (t : State) (H1 : Heap) (locs1 : List Loc), t.heap = H1 → s.vm.Alike t.vm → px u → BX E u t → H.size ≤ H1.size → (∀ q : Nat, q < H.size → ¬ AX q → H1[q]? = H[q]?) → va_S A0 H0 H1 locs1 → H1[q9]? = some ce → ce.vm = .none → s.vm.findClass E = some ce.cls → vx_W p l e R s m args below meth c H1 locs1 (cells + mc) (slots + ms) Q (F0 m pc ls rest) q9)
    (kk : ∀ (u : S) (t : State) (H1 : Heap) (locs1 : List Loc), t.heap = H1 → s.vm.Alike t.vm → post u → B u t → H.size ≤ H1.size → (∀ q : Nat, q < H.size → ¬ A1 q → H1[q]? = H[q]?) → va_S A0 H0 H1 locs1 → W p l e R s m args below meth c H1 locs1 (cells + mc) (slots + ms) Q (F0 m (pc + 3) ls (rest))) : W p l e R s m args below meth c H locs cells slots Q (F0 m pc ls st0) := by
  intro T hT X
  rcases hr T hT X with ⟨v, st₀, t, T', L, h0, X', hL, e1, e2, ⟨⟨u, hv, hp, hb⟩, hF⟩, st⟩ | ⟨q, st₀, t, T', L, E, ce, h0, X', hL, e1, e2, ⟨u, hp, hb, hF⟩, hce, hcv, hcl, st⟩
  · cases hv
    obtain ⟨k1, k2, k3⟩ := vx_keep h0 e1 hS hA hf hL hF
    obtain ⟨t2, a1, b1⟩ := kk u t T'.heap (locs ++ L) e1.symm (by rw [← e2]; exact X'.warmed.alike) hp hb k1 k2 k3 T' rfl X'
    exact ⟨t2, st t2 a1, b1⟩
  · obtain ⟨k1, k2, k3⟩ := vx_keep h0 e1 hS hAX hf hL hF
    obtain ⟨t2, a1, b1⟩ := kx E ce q u t T'.heap (locs ++ L) e1.symm (by rw [← e2]; exact X'.warmed.alike) hp hb k1 k2 k3 (by rw [e1]; exact hce) hcv hcl T' rfl X'
    exact ⟨t2, st.trans a1, b1⟩
end Rows
section Ends
variable {p : Program} {l : Launch} {e : Env} {R : Room} {s : State} {m : MethodId} {args : Array Value} {below : List Frame} {meth : Method} {c : Code} {H : Heap} {locs : List Loc} {cells slots : Nat} {Q : State → Prop}
variable {mc ms : Nat} {free : Addr → Prop} {A0 A1 : Nat → Prop} {H0 : Heap} {a : Array Value} {ls : Array Slot} {st0 rest : List Value}
variable {Qc : Array Value → State → Outcome → State → Prop} {XC : String → State → State → Prop}
/-- what a body that may throw owes at its end -/
def vx_MQ (below : List Frame) (Qc : Array Value → State → Outcome → State → Prop) (XC : String → State → State → Prop) (a : Array Value) (s : State) (mc ms : Nat) (free : Addr → Prop) : State → Prop := fun t =>
  ∃ o, t.status = .running ∧ Ended t below o ∧ vx_Q Qc XC mc ms free a s o t
theorem vx_ret {g : JFrame} {mc ms : Nat} (k : W p l e R s m args below meth c H locs cells slots (MQ below Qc args s mc ms free) g) : W p l e R s m args below meth c H locs cells slots (vx_MQ below Qc XC args s mc ms free) g := by
  intro T hT X
  obtain ⟨t, a1, o, b1, b2, b3, b4⟩ := k T hT X
  exact ⟨t, a1, o, b1, b2, Or.inl ⟨b3, b4⟩⟩
/-- not caught here: it goes on to the caller -/
theorem vx_widen {g : JFrame} {q : Addr} {k n : Nat} (h1 : cells ≤ k) (h2 : slots ≤ n) (kk : vx_W p l e R s m args below meth c H locs k n Q g q) : vx_W p l e R s m args below meth c H locs cells slots Q g q := fun T hT X => kk T hT (stand_widen X h1 h2)
theorem vx_out {pc : Nat} {E : String} {ce : Cell} {q : Addr} {mc ms : Nat} (hout : ∀ x ∈ c.exceptionTable.toList, covers x pc = false) (hlocks : meth.locks = false) (hcell : H[q]? = some ce) (hv : ce.vm = .none) (hcl : s.vm.findClass E = some ce.cls)
    (hx : ∀ t : State, t.heap = H → s.vm.Alike t.vm → XC E s t) (hf : ∀ z ∈ locs, free z.base) (hc : cells ≤ mc) (hs : slots ≤ ms) :
    vx_W p l e R s m args below meth c H locs cells slots (vx_MQ below Qc XC args s mc ms free) (F0 m pc ls rest) q := by
  intro T hT X
  obtain ⟨st1, hrun, hend, hW, hsm⟩ := X.leaveThrown q (g := F0 m pc ls rest) rfl rfl rfl hout hlocks
  have hcell9 : (T.setFrames (.throwing q :: below)).heap[q]? = some ce := by
    show T.heap[q]? = some ce
    rw [hT]; exact hcell
  exact ⟨_, st1, .threw q, hrun, hend, Or.inr ⟨q, rfl, E, ce, locs, hx _ hT hW.alike, hcell9, hv, hcl, hW, hsm.mono hc hs, hf⟩⟩
theorem vx_frame {U : State} {k n : Nat} (h : s.sameButNew ({ U with vm := s.vm } : State) locs k n) : s.heap.size ≤ U.heap.size ∧ ∀ q : Nat, q < s.heap.size → (∀ z ∈ locs, z.base ≠ q) → U.heap[q]? = s.heap[q]? := by
  obtain ⟨-, h2, -, -, -, h6⟩ := h
  refine ⟨h2, fun q hq hz => ?_⟩
  obtain ⟨c9, e1, e2, e3, e4⟩ := h6 q _ (Array.getElem?_eq_getElem hq)
  have hs : c9.slots = (s.heap[q]).slots := Array.ext_getElem? fun i => e4 i fun hm => hz _ hm rfl
  have h9 : c9 = s.heap[q] := by
    rw [hs] at e2
    exact e2
  have e5 : U.heap[q]? = some c9 := e1
  rw [e5, h9, Array.getElem?_eq_getElem hq]
/-- the words of a throw but the four that speak of the heap -/
def vx_no (w : Cond) : Bool := decide (w ≠ .isRef (.static Bundle.tN "UNASSIGNED_STACK" Bundle.steD)) && decide (w ≠ .isRef (.static Bundle.tN "SUPPRESSED_SENTINEL" Bundle.listD)) && decide (w ≠ .laysStatic Bundle.tN "UNASSIGNED_STACK" Bundle.steD) && decide (w ≠ .laysStatic Bundle.tN "SUPPRESSED_SENTINEL" Bundle.listD)
def vx_at0 (own : String) (ic : Nat) (X : String) (names : List String) : List Cond := (Bundle.ownAtoms0 own ic X names).filter vx_no
def vx_atS (own : String) (ic : Nat) (X : String) (names : List String) : List Cond := (Bundle.ownAtoms own ic X names).filter vx_no
/-- a word that the tables alone decide, or a good one -/
def vx_ot (w : Cond) : Bool := w.onTables || goodWord w
theorem vx_ot_at {args a' : Array Value} {s U : State} {w : Cond} (hW : s.WarmedH U.vm) (hvm : s.vm = U.vm) (hg : vx_ot w = true) (h : w.before args s = true) : w.before a' U = true := by
  simp only [vx_ot, Bool.or_eq_true] at hg
  rcases hg with hg | hg
  · exact va_tabs hg hvm h
  · exact word_at hW (good_of_word hg) h
/-- a list's words: the good ones out of the method's own list, the others by premises of their own -/
theorem vx_hat {args : Array Value} {s : State} {L B : List Cond} (h1 : ∀ w ∈ L.filter goodWord, w.before args s = true) (h2 : ∀ w ∈ L.filter (fun w => !goodWord w), w ∈ B) (h3 : ∀ w ∈ B, w.before args s = true) : ∀ w ∈ L, w.before args s = true := by
  intro w hw
  by_cases g : goodWord w = true
  · exact h1 w (List.mem_filter.mpr ⟨hw, g⟩)
  · refine h3 w (h2 w (List.mem_filter.mpr ⟨hw, ?_⟩))
    show (!goodWord w) = true
    cases hgw : goodWord w
    · rfl
    · exact absurd hgw g
theorem vx_c {args : Array Value} {s : State} {w : Cond} {B : List Cond} (h : w.before args s = true) (t : ∀ w ∈ B, w.before args s = true) : ∀ w' ∈ w :: B, w'.before args s = true := fun w' h' => (List.mem_cons.mp h').elim (fun e => by rw [e]; exact h) (t w')
theorem vx_n {args : Array Value} {s : State} : ∀ w ∈ ([] : List Cond), w.before args s = true := fun _ h => nomatch h
theorem vx_own {args : Array Value} {s : State} {L : List Cond} (h1 : ∀ w ∈ L.filter vx_no, w.before args s = true)
    (hU : (Cond.isRef (.static Bundle.tN "UNASSIGNED_STACK" Bundle.steD)).before args s = true) (hN : (Cond.isRef (.static Bundle.tN "SUPPRESSED_SENTINEL" Bundle.listD)).before args s = true)
    (lU : (Cond.laysStatic Bundle.tN "UNASSIGNED_STACK" Bundle.steD).before args s = true) (lN : (Cond.laysStatic Bundle.tN "SUPPRESSED_SENTINEL" Bundle.listD).before args s = true) : ∀ w ∈ L, w.before args s = true := by
  intro w hw
  by_cases e1 : w = .isRef (.static Bundle.tN "UNASSIGNED_STACK" Bundle.steD)
  · rw [e1]; exact hU
  · by_cases e2 : w = .isRef (.static Bundle.tN "SUPPRESSED_SENTINEL" Bundle.listD)
    · rw [e2]; exact hN
    · by_cases e3 : w = .laysStatic Bundle.tN "UNASSIGNED_STACK" Bundle.steD
      · rw [e3]; exact lU
      · by_cases e4 : w = .laysStatic Bundle.tN "SUPPRESSED_SENTINEL" Bundle.listD
        · rw [e4]; exact lN
        · exact h1 w (List.mem_filter.mpr ⟨hw, by unfold vx_no; rw [decide_eq_true e1, decide_eq_true e2, decide_eq_true e3, decide_eq_true e4]; rfl⟩)
/-- where a static field lies, its class's statics cell in H -/
def vx_L (C n d : String) (A : Nat → Prop) (U : State) (H : Heap) : Prop := ∃ (c : ClassId) (k : Class) (i : Nat) (f : Field) (a : Nat) (cell : Cell), U.vm.findClass C = some c ∧ U.fieldFound? C n d = some (c, k, i, f) ∧ f.isStatic = true ∧ k.statics = some a ∧ H[a]? = some cell ∧ cell.vm.isStatics = true ∧ cell.cls = c ∧ f.slot < cell.slots.size ∧ k.staticTypes[f.slot]? = some f.type ∧ ¬ A a
theorem vx_L.moved {C n d : String} {A : Nat → Prop} {u U : State} {H : Heap} (hvm : u.vm.Alike U.vm) (h : vx_L C n d A u H) : vx_L C n d A U H := by
  obtain ⟨c, k, i, f, a, cell, h1, h2, h3, h4, h5, h6, h7, h8, h9, h10⟩ := h
  obtain ⟨k', hi', he⟩ := State.fieldFound?_setVm hvm h2
  exact ⟨c, k', i, f, a, cell, by rw [hvm.findClass]; exact h1, hi', h3, by rw [he]; exact h4, h5, h6, h7, h8, by rw [he]; exact h9, h10⟩
theorem vx_L.kept {C n d : String} {A : Nat → Prop} {U : State} {H H1 : Heap} (h : vx_L C n d A U H) (hq : ∀ a : Nat, a < H.size → ¬ A a → H1[a]? = H[a]?) : vx_L C n d A U H1 := by
  obtain ⟨c, k, i, f, a, cell, h1, h2, h3, h4, h5, h6, h7, h8, h9, h10⟩ := h
  exact ⟨c, k, i, f, a, cell, h1, h2, h3, h4, by rw [hq a (Array.getElem?_eq_some_iff.mp h5).1 h10]; exact h5, h6, h7, h8, h9, h10⟩
theorem vx_L.narrow {C n d : String} {A B : Nat → Prop} {U : State} {H : Heap} (h : vx_L C n d A U H) (hAB : ∀ q, B q → A q) : vx_L C n d B U H := by
  obtain ⟨c, k, i, f, a, cell, h1, h2, h3, h4, h5, h6, h7, h8, h9, h10⟩ := h
  exact ⟨c, k, i, f, a, cell, h1, h2, h3, h4, h5, h6, h7, h8, h9, fun z => h10 (hAB _ z)⟩
theorem vx_L.word {C n d : String} {A : Nat → Prop} {s : State} {args : Array Value} (h : vx_L C n d A s s.heap) : (Cond.laysStatic C n d).before args s = true := by
  obtain ⟨c, k, i, f, a, cell, h1, h2, h3, h4, h5, h6, h7, h8, h9, -⟩ := h
  show (Cond.laysStatic C n d).holds args s none s [] = true
  exact Cond.laysStatic_of h1 h2 h3 h4 h5 h6 h7 h8 h9
/-- .. and what it holds: null or some reference -/
def vx_Zq (C n d : String) (A : Nat → Prop) (U : State) (H : Heap) : Prop := va_Zq C n d A U H ∧ vx_L C n d A U H
theorem vx_Zq.moved {C n d : String} {A : Nat → Prop} {u U : State} {H : Heap} (hvm : u.vm.Alike U.vm) (h : vx_Zq C n d A u H) : vx_Zq C n d A U H := ⟨va_Zq.moved hvm h.1, vx_L.moved hvm h.2⟩
theorem vx_Zq.kept {C n d : String} {A : Nat → Prop} {U : State} {H H1 : Heap} (h : vx_Zq C n d A U H) (hq : ∀ a : Nat, a < H.size → ¬ A a → H1[a]? = H[a]?) : vx_Zq C n d A U H1 := ⟨va_Zq.kept h.1 hq, vx_L.kept h.2 hq⟩
theorem vx_Zq.narrow {C n d : String} {A B : Nat → Prop} {U : State} {H : Heap} (h : vx_Zq C n d A U H) (hAB : ∀ q, B q → A q) : vx_Zq C n d B U H := ⟨va_Zq.narrow h.1 hAB, vx_L.narrow h.2 hAB⟩
theorem vx_Zqof {args : Array Value} {s : State} {C n d : String} {A : Nat → Prop} (hl : (Cond.laysStatic C n d).before args s = true) (hini : (Cond.initialized C).before args s = true) (h : (Cond.isRef (.static C n d)).before args s = true) (hA : ∀ a : Nat, a < s.heap.size → ¬ A a) : vx_Zq C n d A s s.heap := by
  refine ⟨va_Zqof hl hini h hA, ?_⟩
  obtain ⟨c, k, i, f, a, cell, h1, h2, h3, h4, h5, h6, h7, h8, h9⟩ := Cond.laysStatic_spec hl
  exact ⟨c, k, i, f, a, cell, h1, h2, h3, h4, h5, h6, h7, h8, h9, hA a (Array.getElem?_eq_some_iff.mp h5).1⟩
theorem vx_isRef {C n d : String} {v : Value} {A : Nat → Prop} {s : State} {args : Array Value} (h : va_Z C n d v A s s.heap) (hv : v.isRef = true) : (Cond.isRef (.static C n d)).before args s = true := by
  obtain ⟨cf, kf, fi, f, a, cell, h1, h2, h3, h4, h5, h6, h7, -⟩ := h
  have he : (Term.static C n d).eval args s none [] s = some v := by
    simp [Term.eval, State.fieldNamed?, h1, h2, h4, h5, h6, h7]
  simp only [Cond.before, Cond.holds, Cond.value, he]
  cases v <;> simp_all [Value.isRef]
theorem vx_isRefq {C n d : String} {A : Nat → Prop} {s : State} {args : Array Value} (h : va_Zq C n d A s s.heap) : (Cond.isRef (.static C n d)).before args s = true := by
  rcases h with h | ⟨t, h⟩
  · exact vx_isRef h rfl
  · exact vx_isRef h rfl
/-- the same frame, seen from here: as if the method were called anew in this heap -/
theorem vx_rebase {T : State} (X : Stand p l e R s m args below meth c T locs cells slots) {R' : Room} (hf : R'.frames ≤ R.frames) (hl : R'.locals ≤ R.locals) (hc : cells + R'.cells ≤ R.cells) (hs : slots + R'.slots ≤ R.slots) :
    Stand p l e R' ((T.setVm s.vm).setFrames (.invoking m args :: below)) m args below meth c T [] 0 0 := by
  have htop : (T.setVm s.vm).topJava?.isSome := X.here.top
  have hF : ((T.setVm s.vm).setFrames (.invoking m args :: below)).frames = .invoking m args :: below := State.frames_setFrames _ (State.cur_lt_of_top htop)
  obtain ⟨g₀, hg0⟩ := Option.isSome_iff_exists.mp htop
  obtain ⟨r, hr⟩ := State.topJava?_eq_some.mp hg0
  have hl9 : e.platform.stackLimits (T.setVm s.vm).me = e.platform.stackLimits s.me := X.limits
  have hb9 : (T.setVm s.vm).me.stackBytes = s.me.stackBytes := X.bytes
  refine ⟨X.admits, X.cas, X.clock, hF, ?_, X.hears, X.method, X.code, X.here, X.tail, X.warmed, ?_, ?_, ?_⟩
  · have h := X.room
    have hU : ((T.setVm s.vm).setFrames (.invoking m args :: below)).localsInUse = s.localsInUse := by
      rw [State.localsInUse_invoking hF (meth := meth) (c := c) X.method X.code, State.localsInUse_invoking X.frames X.method X.code]
    simp only [State.hasRoom, Bool.and_eq_true, decide_eq_true_eq] at h ⊢
    obtain ⟨⟨⟨⟨h1, h2, h3, h4, h5, h6⟩, h7⟩, h8⟩, h9⟩ := h
    rw [X.frames, List.length_cons] at h2 h3
    have q1 := X.heapSize
    have q2 := X.used
    simp only [hF, hU, List.length_cons, State.stackLimits_setFrames, State.stackBytes_setFrames, hl9, hb9]
    refine ⟨⟨⟨⟨by omega, by omega, by omega, by omega, by omega, h6⟩, ?_⟩, ?_⟩, X.book⟩
    · show T.heap.size + R'.cells ≤ e.platform.maxCells
      omega
    · show T.slotsUsed + R'.slots ≤ e.platform.maxSlots
      omega
  · rw [State.stackLimits_setFrames]; rfl
  · rw [State.stackBytes_setFrames]; rfl
  · refine ⟨?_, Nat.le_refl _, Nat.le_refl _, ?_, ?_, fun a c9 h9 => ⟨c9, h9, rfl, rfl, fun _ _ => rfl⟩⟩
    · obtain ⟨t, ht, -⟩ := State.frames_cons hr
      show T.setVm s.vm = { ((T.setVm s.vm).setFrames (.invoking m args :: below)).setFrames (T.setVm s.vm).frames with heap := T.heap, slotsUsed := T.slotsUsed }
      rw [State.setFrames_setFrames, State.setFrames_self ht]
      rfl
    · show T.slotsUsed = T.slotsUsed + ((T.heap.toList.drop T.heap.size).map (·.slots.size)).sum
      rw [List.drop_eq_nil_of_le (Nat.le_of_eq Array.length_toList)]
      rfl
    · show ((T.heap.toList.drop T.heap.size).map (·.slots.size)).sum ≤ 0
      rw [List.drop_eq_nil_of_le (Nat.le_of_eq Array.length_toList)]
      exact Nat.le_refl _
/-- 'throw new E()': new; dup; invokespecial; athrow -/
theorem vx_throw0 {cc : ByteArray} {pc : Nat} (hexec : p.tables.exec = Jvm.exec) (hb : c.code = cc) (hl : l.stackTraces = false) {own cls : String} {names : List String} {ik ic mc ms : Nat} {A : Nat → Prop}
    (hown : s.vm.findClass own = some m.cls) (hcls : Bundle.fit cls = true) (hnames : ∀ n ∈ names, Bundle.fit n = true)
    (hk : (Cond.classLink own ik cls).before args s = true) (hini : (Cond.initialized cls).before args s = true) (hat : ∀ w ∈ vx_at0 own ic cls names, w.before args s = true)
    (hgood : ∀ w ∈ Cond.classLink own ik cls :: Cond.initialized cls :: vx_at0 own ic cls names, vx_ot w = true)
    (hU : vx_Zq Bundle.tN "UNASSIGNED_STACK" Bundle.steD A s s.heap) (hN : vx_Zq Bundle.tN "SUPPRESSED_SENTINEL" Bundle.listD A s s.heap) (hS : va_S A s.heap H locs) (hsize : ls.size = c.maxLocals)
    (d0 : decode cc pc = .ok (.new ik, 3)) (d3 : decode cc (pc + 3) = .ok (.dup, 1)) (d4 : decode cc (pc + 4) = .ok (.invokespecial ic, 3)) (d7 : decode cc (pc + 7) = .ok (.athrow, 1))
    (hout : ∀ x ∈ c.exceptionTable.toList, covers x (pc + 7) = false)
    (hRframes : names.length + 3 < R.frames) (hRlocals : (rest.map fun v => v.category).sum + (13 * (names.length + 1) + 42) ≤ R.locals) (hRcells : cells + 1 ≤ R.cells) (hRslots : slots + 6 ≤ R.slots) (hlocks : meth.locks = false)
    (hx : ∀ t : State, s.vm.Alike t.vm → H.size ≤ t.heap.size → (∀ q : Nat, q < H.size → t.heap[q]? = H[q]?) → XC cls s t)
    (hf : ∀ z ∈ locs, free z.base) (hc : cells + 1 ≤ mc) (hs : slots + 6 ≤ ms) :
    W p l e R s m args below meth c H locs cells slots (vx_MQ below Qc XC args s mc ms free) (F0 m pc ls rest) := by
  intro T hT X
  have htr : e.platform.stackTraces = false := (show e.platform.stackTraces = l.stackTraces by rw [X.admits.platform]).trans hl
  have Y := vx_rebase X (R' := { frames := R.frames, locals := R.locals, cells := 1, slots := 6 }) (Nat.le_refl _) (Nat.le_refl _) hRcells hRslots
  obtain ⟨s', hA⟩ : ∃ z, z = (T.setVm s.vm).setFrames (.invoking m args :: below) := ⟨_, rfl⟩
  rw [← hA] at Y
  have hvm : s'.vm = s.vm := by rw [hA]; rfl
  have hhp : s'.heap = H := by rw [hA]; exact hT
  have hW0 : s.WarmedH s'.vm := by rw [hvm]; exact State.WarmedH.refl s
  have hat' : ∀ w ∈ vx_at0 own ic cls names, w.before args s' = true := fun w hw => vx_ot_at hW0 hvm.symm (hgood w (List.mem_cons_of_mem _ (List.mem_cons_of_mem _ hw))) (hat w hw)
  have hk' : (Cond.classLink own ik cls).before args s' = true := vx_ot_at hW0 hvm.symm (hgood _ List.mem_cons_self) hk
  have hini' : (Cond.initialized cls).before args s' = true := vx_ot_at hW0 hvm.symm (hgood _ (List.mem_cons_of_mem _ List.mem_cons_self)) hini
  have hU' : vx_Zq Bundle.tN "UNASSIGNED_STACK" Bundle.steD A s' s'.heap := by rw [hhp]; exact vx_Zq.moved hW0.alike (hU.kept hS.2.1)
  have hN' : vx_Zq Bundle.tN "SUPPRESSED_SENTINEL" Bundle.listD A s' s'.heap := by rw [hhp]; exact vx_Zq.moved hW0.alike (hN.kept hS.2.1)
  have h : ∀ w ∈ Bundle.ownAtoms0 own ic cls names, w.before args s' = true := vx_own hat' (vx_isRefq hU'.1) (vx_isRefq hN'.1) hU'.2.word hN'.2.word
  have hown' : s'.vm.findClass own = some m.cls := by rw [hvm]; exact hown
  have hins : (Cond.instantiable cls 6).before args s' = true := h _ (by simp [Bundle.ownAtoms0])
  obtain ⟨vm₁, cX, kX, hfX, hkX, -, -, X₁, st1⟩ := Y.newCold hexec (own := own) (C := cls) (index := ik) (n := 6) hown' hk' hins hini'
    (g := F0 m pc ls rest) rfl (by rw [hb]; exact d0) (Nat.le_refl _) (Nat.le_refl _)
  generalize hT1 : (T.setVm vm₁).pushCell { cls := cX, slots := kX.instanceTypes.map defaultValue, vm := .none } = T1 at X₁ st1
  have hcat : (Value.ref T.heap.size).category = 1 := rfl
  have hcellA : T1.heap[T.heap.size]? = some (freshCell cX kX) := by rw [← hT1]; exact State.heap_pushCell_size _ _
  have d3' : decode c.code (pc + 3) = .ok (.dup, 1) := by rw [hb]; exact d3
  obtain ⟨U, hsteps, hrun, hend, hW, hsame, ce, hce, hO⟩ := X₁.ctorThrow0 hexec htr (own := own) (cls := cls) (names := names) (ic := ic) hown' hcls hnames h (fun x hx => nomatch hx) hfX hkX hcellA (by rw [hhp, hT]; exact Nat.le_refl _)
    (g := { method := m, pc := pc + 4, locals := ls, stack := .ref T.heap.size :: .ref T.heap.size :: rest, locked := none }) rfl hsize rfl rfl (rest := rest) rfl
    (by rw [hb]; exact d4) (by rw [hb]; exact d7) hout hRframes (by simp only [List.map_cons, List.sum_cons, hcat]; omega) hlocks
  obtain ⟨f1, f2⟩ := vx_frame hsame
  rw [hhp] at f1 f2
  have hWs : s.WarmedH U.vm := State.WarmedH.trans hW0 hW
  have hcl : s.vm.findClass cls = some ce.cls := by
    have h9 := hO.cls
    rw [hvm] at h9
    exact h9
  have hall : s.sameButNew ({ U with vm := s.vm } : State) locs mc ms := by
    subst hA
    obtain ⟨e1, e2⟩ := hsame
    rw [State.setFrames_setFrames] at e1
    have h2 : (T.setVm s.vm).sameButNew ({ U with vm := s.vm } : State) [] (0 + 1) (0 + 6) := ⟨e1, e2⟩
    have h3 := X.same.trans h2
    rw [List.append_nil] at h3
    exact h3.mono hc hs
  refine ⟨U, ?_, .threw T.heap.size, hrun, hend, Or.inr ⟨T.heap.size, rfl, cls, ce, locs, hx U hWs.alike f1 (fun q hq => f2 q hq (fun z hz => nomatch hz)), hce, hO.vm, hcl, hWs, hall, hf⟩⟩
  refine st1 _ ?_
  show Steps p.tables e below (T1.setTop { method := m, pc := pc + 3, locals := ls, stack := .ref T.heap.size :: rest, locked := none }) _
  jvm_step X₁.here [X₁.here.top, hexec, d3', Value.category]
  exact hsteps
/-- 'throw new E("text")': new; dup; ldc; invokespecial; athrow -/
theorem vx_throwS {cc : ByteArray} {pc : Nat} (hexec : p.tables.exec = Jvm.exec) (hb : c.code = cc) (hl : l.stackTraces = false) {own cls text : String} {names : List String} {ik is ic mc ms sa : Nat} {A : Nat → Prop}
    (hown : s.vm.findClass own = some m.cls) (hcls : Bundle.fit cls = true) (hnames : ∀ n ∈ names, Bundle.fit n = true)
    (hk : (Cond.classLink own ik cls).before args s = true) (hini : (Cond.initialized cls).before args s = true) (hstr : vk_R own is text sa s) (hat : ∀ w ∈ vx_atS own ic cls names, w.before args s = true)
    (hgood : ∀ w ∈ Cond.classLink own ik cls :: Cond.initialized cls :: vx_atS own ic cls names, vx_ot w = true)
    (hU : vx_Zq Bundle.tN "UNASSIGNED_STACK" Bundle.steD A s s.heap) (hN : vx_Zq Bundle.tN "SUPPRESSED_SENTINEL" Bundle.listD A s s.heap) (hS : va_S A s.heap H locs) (hsize : ls.size = c.maxLocals)
    (d0 : decode cc pc = .ok (.new ik, 3)) (d3 : decode cc (pc + 3) = .ok (.dup, 1)) (d4 : decode cc (pc + 4) = .ok (.ldc is, 2)) (d6 : decode cc (pc + 6) = .ok (.invokespecial ic, 3)) (d9 : decode cc (pc + 9) = .ok (.athrow, 1))
    (hout : ∀ x ∈ c.exceptionTable.toList, covers x (pc + 9) = false)
    (hRframes : names.length + 3 < R.frames) (hRlocals : (rest.map fun v => v.category).sum + (13 * (names.length + 1) + 43) ≤ R.locals) (hRcells : cells + 1 ≤ R.cells) (hRslots : slots + 6 ≤ R.slots) (hlocks : meth.locks = false)
    (hx : ∀ t : State, s.vm.Alike t.vm → H.size ≤ t.heap.size → (∀ q : Nat, q < H.size → t.heap[q]? = H[q]?) → XC cls s t)
    (hf : ∀ z ∈ locs, free z.base) (hc : cells + 1 ≤ mc) (hs : slots + 6 ≤ ms) :
    W p l e R s m args below meth c H locs cells slots (vx_MQ below Qc XC args s mc ms free) (F0 m pc ls rest) := by
  intro T hT X
  have htr : e.platform.stackTraces = false := (show e.platform.stackTraces = l.stackTraces by rw [X.admits.platform]).trans hl
  have Y := vx_rebase X (R' := { frames := R.frames, locals := R.locals, cells := 1, slots := 6 }) (Nat.le_refl _) (Nat.le_refl _) hRcells hRslots
  obtain ⟨s', hA⟩ : ∃ z, z = (T.setVm s.vm).setFrames (.invoking m args :: below) := ⟨_, rfl⟩
  rw [← hA] at Y
  have hvm : s'.vm = s.vm := by rw [hA]; rfl
  have hhp : s'.heap = H := by rw [hA]; exact hT
  have hW0 : s.WarmedH s'.vm := by rw [hvm]; exact State.WarmedH.refl s
  have hat' : ∀ w ∈ vx_atS own ic cls names, w.before args s' = true := fun w hw => vx_ot_at hW0 hvm.symm (hgood w (List.mem_cons_of_mem _ (List.mem_cons_of_mem _ hw))) (hat w hw)
  have hk' : (Cond.classLink own ik cls).before args s' = true := vx_ot_at hW0 hvm.symm (hgood _ List.mem_cons_self) hk
  have hini' : (Cond.initialized cls).before args s' = true := vx_ot_at hW0 hvm.symm (hgood _ (List.mem_cons_of_mem _ List.mem_cons_self)) hini
  have hU' : vx_Zq Bundle.tN "UNASSIGNED_STACK" Bundle.steD A s' s'.heap := by rw [hhp]; exact vx_Zq.moved hW0.alike (hU.kept hS.2.1)
  have hN' : vx_Zq Bundle.tN "SUPPRESSED_SENTINEL" Bundle.listD A s' s'.heap := by rw [hhp]; exact vx_Zq.moved hW0.alike (hN.kept hS.2.1)
  have h : ∀ w ∈ Bundle.ownAtoms own ic cls names, w.before args s' = true := vx_own hat' (vx_isRefq hU'.1) (vx_isRefq hN'.1) hU'.2.word hN'.2.word
  have hown' : s'.vm.findClass own = some m.cls := by rw [hvm]; exact hown
  have hins : (Cond.instantiable cls 6).before args s' = true := h _ (by simp [Bundle.ownAtoms])
  obtain ⟨vm₁, cX, kX, hfX, hkX, -, -, X₁, st1⟩ := Y.newCold hexec (own := own) (C := cls) (index := ik) (n := 6) hown' hk' hins hini'
    (g := F0 m pc ls rest) rfl (by rw [hb]; exact d0) (Nat.le_refl _) (Nat.le_refl _)
  generalize hT1 : (T.setVm vm₁).pushCell { cls := cX, slots := kX.instanceTypes.map defaultValue, vm := .none } = T1 at X₁ st1
  have hcat : (Value.ref T.heap.size).category = 1 := rfl
  have hcellA : T1.heap[T.heap.size]? = some (freshCell cX kX) := by rw [← hT1]; exact State.heap_pushCell_size _ _
  have d3' : decode c.code (pc + 3) = .ok (.dup, 1) := by rw [hb]; exact d3
  have d4' : decode c.code (pc + 4) = .ok (.ldc is, 2) := by rw [hb]; exact d4
  have hstr' : vk_R own is text sa s' := vk_R.warm hW0 hstr
  obtain ⟨U, hsteps, hrun, hend, hW, hsame, ce, hce, hO⟩ := X₁.ctorThrowS hexec htr (own := own) (cls := cls) (names := names) (ic := ic) hown' hcls hnames h (fun x hx => nomatch hx) hfX hkX hcellA (by rw [hhp, hT]; exact Nat.le_refl _) (msg := .ref sa) rfl
    (g := { method := m, pc := pc + 6, locals := ls, stack := .ref sa :: .ref T.heap.size :: .ref T.heap.size :: rest, locked := none }) rfl hsize rfl rfl (rest := rest) rfl
    (by rw [hb]; exact d6) (by rw [hb]; exact d9) hout hRframes (by simp only [List.map_cons, List.sum_cons, hcat]; omega) hlocks
  obtain ⟨f1, f2⟩ := vx_frame hsame
  rw [hhp] at f1 f2
  have hWs : s.WarmedH U.vm := State.WarmedH.trans hW0 hW
  have hcl : s.vm.findClass cls = some ce.cls := by
    have h9 := hO.cls
    rw [hvm] at h9
    exact h9
  have hall : s.sameButNew ({ U with vm := s.vm } : State) locs mc ms := by
    subst hA
    obtain ⟨e1, e2⟩ := hsame
    rw [State.setFrames_setFrames] at e1
    have h2 : (T.setVm s.vm).sameButNew ({ U with vm := s.vm } : State) [] (0 + 1) (0 + 6) := ⟨e1, e2⟩
    have h3 := X.same.trans h2
    rw [List.append_nil] at h3
    exact h3.mono hc hs
  refine ⟨U, ?_, .threw T.heap.size, hrun, hend, Or.inr ⟨T.heap.size, rfl, cls, ce, locs, hx U hWs.alike f1 (fun q hq => f2 q hq (fun z hz => nomatch hz)), hce, hO.vm, hcl, hWs, hall, hf⟩⟩
  refine st1 _ ?_
  show Steps p.tables e below (T1.setTop { method := m, pc := pc + 3, locals := ls, stack := .ref T.heap.size :: rest, locked := none }) _
  jvm_step X₁.here [X₁.here.top, hexec, d3', Value.category]
  exact X₁.ldcString hexec (own := own) (text := text) (index := is) (a := sa) hown' hstr'.1 hstr'.2
    (g := { method := m, pc := pc + 4, locals := ls, stack := .ref T.heap.size :: .ref T.heap.size :: rest, locked := none }) rfl d4' _ hsteps
/-- 'throw new E("text")', the text by a wide index -/
theorem vx_throwSW {cc : ByteArray} {pc : Nat} (hexec : p.tables.exec = Jvm.exec) (hb : c.code = cc) (hl : l.stackTraces = false) {own cls text : String} {names : List String} {ik is ic mc ms sa : Nat} {A : Nat → Prop}
    (hown : s.vm.findClass own = some m.cls) (hcls : Bundle.fit cls = true) (hnames : ∀ n ∈ names, Bundle.fit n = true)
    (hk : (Cond.classLink own ik cls).before args s = true) (hini : (Cond.initialized cls).before args s = true) (hstr : vk_R own is text sa s) (hat : ∀ w ∈ vx_atS own ic cls names, w.before args s = true)
    (hgood : ∀ w ∈ Cond.classLink own ik cls :: Cond.initialized cls :: vx_atS own ic cls names, vx_ot w = true)
    (hU : vx_Zq Bundle.tN "UNASSIGNED_STACK" Bundle.steD A s s.heap) (hN : vx_Zq Bundle.tN "SUPPRESSED_SENTINEL" Bundle.listD A s s.heap) (hS : va_S A s.heap H locs) (hsize : ls.size = c.maxLocals)
    (d0 : decode cc pc = .ok (.new ik, 3)) (d3 : decode cc (pc + 3) = .ok (.dup, 1)) (d4 : decode cc (pc + 4) = .ok (.ldc_w is, 3)) (d7 : decode cc (pc + 7) = .ok (.invokespecial ic, 3)) (d10 : decode cc (pc + 10) = .ok (.athrow, 1))
    (hout : ∀ x ∈ c.exceptionTable.toList, covers x (pc + 10) = false)
    (hRframes : names.length + 3 < R.frames) (hRlocals : (rest.map fun v => v.category).sum + (13 * (names.length + 1) + 43) ≤ R.locals) (hRcells : cells + 1 ≤ R.cells) (hRslots : slots + 6 ≤ R.slots) (hlocks : meth.locks = false)
    (hx : ∀ t : State, s.vm.Alike t.vm → H.size ≤ t.heap.size → (∀ q : Nat, q < H.size → t.heap[q]? = H[q]?) → XC cls s t)
    (hf : ∀ z ∈ locs, free z.base) (hc : cells + 1 ≤ mc) (hs : slots + 6 ≤ ms) :
    W p l e R s m args below meth c H locs cells slots (vx_MQ below Qc XC args s mc ms free) (F0 m pc ls rest) := by
  intro T hT X
  have htr : e.platform.stackTraces = false := (show e.platform.stackTraces = l.stackTraces by rw [X.admits.platform]).trans hl
  have Y := vx_rebase X (R' := { frames := R.frames, locals := R.locals, cells := 1, slots := 6 }) (Nat.le_refl _) (Nat.le_refl _) hRcells hRslots
  obtain ⟨s', hA⟩ : ∃ z, z = (T.setVm s.vm).setFrames (.invoking m args :: below) := ⟨_, rfl⟩
  rw [← hA] at Y
  have hvm : s'.vm = s.vm := by rw [hA]; rfl
  have hhp : s'.heap = H := by rw [hA]; exact hT
  have hW0 : s.WarmedH s'.vm := by rw [hvm]; exact State.WarmedH.refl s
  have hat' : ∀ w ∈ vx_atS own ic cls names, w.before args s' = true := fun w hw => vx_ot_at hW0 hvm.symm (hgood w (List.mem_cons_of_mem _ (List.mem_cons_of_mem _ hw))) (hat w hw)
  have hk' : (Cond.classLink own ik cls).before args s' = true := vx_ot_at hW0 hvm.symm (hgood _ List.mem_cons_self) hk
  have hini' : (Cond.initialized cls).before args s' = true := vx_ot_at hW0 hvm.symm (hgood _ (List.mem_cons_of_mem _ List.mem_cons_self)) hini
  have hU' : vx_Zq Bundle.tN "UNASSIGNED_STACK" Bundle.steD A s' s'.heap := by rw [hhp]; exact vx_Zq.moved hW0.alike (hU.kept hS.2.1)
  have hN' : vx_Zq Bundle.tN "SUPPRESSED_SENTINEL" Bundle.listD A s' s'.heap := by rw [hhp]; exact vx_Zq.moved hW0.alike (hN.kept hS.2.1)
  have h : ∀ w ∈ Bundle.ownAtoms own ic cls names, w.before args s' = true := vx_own hat' (vx_isRefq hU'.1) (vx_isRefq hN'.1) hU'.2.word hN'.2.word
  have hown' : s'.vm.findClass own = some m.cls := by rw [hvm]; exact hown
  have hins : (Cond.instantiable cls 6).before args s' = true := h _ (by simp [Bundle.ownAtoms])
  obtain ⟨vm₁, cX, kX, hfX, hkX, -, -, X₁, st1⟩ := Y.newCold hexec (own := own) (C := cls) (index := ik) (n := 6) hown' hk' hins hini'
    (g := F0 m pc ls rest) rfl (by rw [hb]; exact d0) (Nat.le_refl _) (Nat.le_refl _)
  generalize hT1 : (T.setVm vm₁).pushCell { cls := cX, slots := kX.instanceTypes.map defaultValue, vm := .none } = T1 at X₁ st1
  have hcat : (Value.ref T.heap.size).category = 1 := rfl
  have hcellA : T1.heap[T.heap.size]? = some (freshCell cX kX) := by rw [← hT1]; exact State.heap_pushCell_size _ _
  have d3' : decode c.code (pc + 3) = .ok (.dup, 1) := by rw [hb]; exact d3
  have d4' : decode c.code (pc + 4) = .ok (.ldc_w is, 3) := by rw [hb]; exact d4
  have hstr' : vk_R own is text sa s' := vk_R.warm hW0 hstr
  obtain ⟨U, hsteps, hrun, hend, hW, hsame, ce, hce, hO⟩ := X₁.ctorThrowS hexec htr (own := own) (cls := cls) (names := names) (ic := ic) hown' hcls hnames h (fun x hx => nomatch hx) hfX hkX hcellA (by rw [hhp, hT]; exact Nat.le_refl _) (msg := .ref sa) rfl
    (g := { method := m, pc := pc + 7, locals := ls, stack := .ref sa :: .ref T.heap.size :: .ref T.heap.size :: rest, locked := none }) rfl hsize rfl rfl (rest := rest) rfl
    (by rw [hb]; exact d7) (by rw [hb]; exact d10) hout hRframes (by simp only [List.map_cons, List.sum_cons, hcat]; omega) hlocks
  obtain ⟨f1, f2⟩ := vx_frame hsame
  rw [hhp] at f1 f2
  have hWs : s.WarmedH U.vm := State.WarmedH.trans hW0 hW
  have hcl : s.vm.findClass cls = some ce.cls := by
    have h9 := hO.cls
    rw [hvm] at h9
    exact h9
  have hall : s.sameButNew ({ U with vm := s.vm } : State) locs mc ms := by
    subst hA
    obtain ⟨e1, e2⟩ := hsame
    rw [State.setFrames_setFrames] at e1
    have h2 : (T.setVm s.vm).sameButNew ({ U with vm := s.vm } : State) [] (0 + 1) (0 + 6) := ⟨e1, e2⟩
    have h3 := X.same.trans h2
    rw [List.append_nil] at h3
    exact h3.mono hc hs
  refine ⟨U, ?_, .threw T.heap.size, hrun, hend, Or.inr ⟨T.heap.size, rfl, cls, ce, locs, hx U hWs.alike f1 (fun q hq => f2 q hq (fun z hz => nomatch hz)), hce, hO.vm, hcl, hWs, hall, hf⟩⟩
  refine st1 _ ?_
  show Steps p.tables e below (T1.setTop { method := m, pc := pc + 3, locals := ls, stack := .ref T.heap.size :: rest, locked := none }) _
  jvm_step X₁.here [X₁.here.top, hexec, d3', Value.category]
  exact X₁.ldcStringW hexec (own := own) (text := text) (index := is) (a := sa) hown' hstr'.1 hstr'.2
    (g := { method := m, pc := pc + 4, locals := ls, stack := .ref T.heap.size :: .ref T.heap.size :: rest, locked := none }) rfl d4' _ hsteps
end Ends
section Bodies
variable {l : Launch}
theorem vx_ofW {y : MethodName} {ws ws' : List Cond} {rm : Room} {Pc : Array Value → State → Prop} {Qc : Array Value → State → Outcome → State → Prop} {XC : String → State → State → Prop} {mc ms : Nat} {free : Addr → Prop} {cc : ByteArray} {maxL : Nat} {ret : Option FieldType}
    (hy : plainName y.cls = true) (hw : ws = Cond.code y cc maxL ret :: ws')
    (body : ∀ p e s m args below meth c s₁, BodyLoose p l y (headSpec ws rm) cc maxL ret e s m args below meth c s₁ → c.maxLocals = maxL → (∀ x ∈ c.exceptionTable.toList, False) → Pc args s →
      W p l e (headSpec ws rm).room s m args below meth c s.heap [] 0 0 (vx_MQ below Qc XC args s mc ms free) (entryFrame m args maxL)) : vx_Met l y ws rm Pc Qc XC mc ms free := by
  refine MetFree.of_bodyS (code := cc) (maxLocals := maxL) (ret := ret) hy ?_ ?_
  · intro args s m h hn
    obtain ⟨meth, c, h1, h2, h3, h4, h5, h6, -, -⟩ := Cond.code_spec hn (atoms_spec (ws := ws) h _ (by rw [hw]; exact List.mem_cons_self))
    exact ⟨meth, c, h1, h2, h3, h4, h5, h6⟩
  · intro p e s m args below meth c s₁ B hml hP _
    have hh0 : s₁.heap = s.heap := by rw [B.state]; rfl
    have ht : ∀ x ∈ c.exceptionTable.toList, False := by
      obtain ⟨meth9, c9, h1, h2, -, -, -, -, h7, -⟩ := Cond.code_spec B.named (atoms_spec (ws := ws) B.pre _ (by rw [hw]; exact List.mem_cons_self))
      cases Option.some.inj (h1.symm.trans B.method)
      cases Option.some.inj (h2.symm.trans (Stand.of_body B).code)
      intro x hx
      rw [Array.isEmpty_iff.mp h7] at hx
      cases hx
    obtain ⟨t, a1, o, b1, b2, b3⟩ := body p e s m args below meth c s₁ B hml ht hP s₁ hh0 (Stand.of_body B)
    exact ⟨t, o, a1, b1, b2, b3⟩
/-- the table of a body with handlers -/
theorem vx_table {p : Program} {x y : MethodName} {S : Spec} {cc bytes : ByteArray} {maxL maxL' : Nat} {ret ret' : Option FieldType} {e : Env} {s s₁ : State} {m : MethodId} {args : Array Value} {below : List Frame} {meth : Method} {c : Code} {hh : List (Nat × Nat × Nat × Nat)}
    (B : BodyLoose p l y S cc maxL ret e s m args below meth c s₁) (h : (Cond.codeWith y bytes maxL' ret' hh).before args s = true) : c.exceptionTable.toList = tableOf hh := by
  obtain ⟨m9, meth9, c9, hn9, h1, h2, -, -, h6, -⟩ := Cond.codeWith_spec h
  cases Option.some.inj (hn9.symm.trans B.named)
  cases Option.some.inj (h1.symm.trans B.method)
  cases Option.some.inj (h2.symm.trans (Stand.of_body B).code)
  rw [← h6, table_eq]
end Bodies
end VXA
/-! ===== END ===== -/
/-! ===== BEGIN a static call of a method with an exception table ===== -/
section VXS
variable {p : Program} {l : Launch} {e : Env} {R : Room} {s : State} {m : MethodId} {args : Array Value} {below : List Frame} {meth : Method} {c : Code} {T : State} {H : Heap} {locs : List Loc} {cells slots : Nat}
abbrev vx_CSW (R : Room) (s : State) (args : Array Value) (own : String) (index : Nat) (y : MethodName) (bytes : ByteArray) (maxL : Nat) (ret : Option FieldType) (hh : List (Nat × Nat × Nat × Nat)) (ws : List Cond) (rm : Room) (mc ms n : Nat) : Prop :=
  (rm.cells = mc ∧ rm.slots = ms ∧ rm.frames + 1 ≤ R.frames ∧ 8 + (maxL + 11) + rm.locals ≤ R.locals ∧ (∀ w ∈ ws, ∀ (a' : Array Value) (U : State), s.WarmedH U.vm → w.before a' U = true) ∧ Cond.codeWith y bytes maxL ret hh ∈ ws) ∧
  (Cond.codeWith y bytes maxL ret hh).before args s = true ∧ (Cond.initialized y.cls).before args s = true ∧ (y.cls ≠ "java/lang/invoke/MethodHandle" ∧ y.cls ≠ "java/lang/invoke/VarHandle") ∧
  (∀ sig, parseMethodDescriptor y.desc = some sig → n = sig.parameters.length) ∧ (Cond.methodLink own index y).before args s = true ∧ (Cond.static y).before args s = true
theorem vx_cwSW {own : String} {index maxL mc ms : Nat} {y : MethodName} {bytes : ByteArray} {ret : Option FieldType} {hh : List (Nat × Nat × Nat × Nat)} {Ts ws ws' : List Cond} {rm : Room} (n : Nat) (ht : ∀ w ∈ Ts, w.before args s = true) (hT : GoodIn Ts (va_wsS own index y ws)) (hw : ws = Cond.codeWith y bytes maxL ret hh :: ws') (hrc : rm.cells = mc) (hrs : rm.slots = ms)
    (hd : y.cls ≠ "java/lang/invoke/MethodHandle" ∧ y.cls ≠ "java/lang/invoke/VarHandle" ∧ (parseMethodDescriptor y.desc).map (fun d => d.parameters.length) = some n) (hR : rm.frames + 1 ≤ R.frames ∧ 8 + (maxL + 11) + rm.locals ≤ R.locals) :
    vx_CSW R s args own index y bytes maxL ret hh ws rm mc ms n := by
  have ok : ∀ w ∈ va_wsS own index y ws, w.before args s = true := fun w h => ht w (hT w h).1
  have hG : GoodIn Ts ws := fun w h => hT w (by unfold va_wsS; exact List.mem_append_right _ h)
  have hc : Cond.codeWith y bytes maxL ret hh ∈ ws := by rw [hw]; exact List.mem_cons_self
  refine ⟨⟨hrc, hrs, hR.1, hR.2, pay_in ht hG, hc⟩, ht _ (hG _ hc).1, ok _ (by simp [va_wsS]), ⟨hd.1, hd.2.1⟩, fun sig h => ?_, ok _ (by simp [va_wsS]), ok _ (by simp [va_wsS])⟩
  have h2 := hd.2.2
  rw [h] at h2
  exact (Option.some.inj h2).symm
theorem vx_callSW (X : Stand p l e R s m args below meth c T locs cells slots) (hexec : p.tables.exec = Jvm.exec) {own : String} {index : Nat} {y : MethodName} {bytes : ByteArray} {maxL : Nat} {ret : Option FieldType} {hh : List (Nat × Nat × Nat × Nat)}
    (hown : s.vm.findClass own = some m.cls) (hlink : (Cond.methodLink own index y).before args s = true) (hstat : (Cond.static y).before args s = true) (hinit : (Cond.initialized y.cls).before args s = true)
    (hcode : (Cond.codeWith y bytes maxL ret hh).before args s = true) (hy : y.cls ≠ "java/lang/invoke/MethodHandle" ∧ y.cls ≠ "java/lang/invoke/VarHandle")
    {W9 : Nat} {Pre : Pt → Array Value → Prop} {Post : Pt → Array Value → Option Value → Pt → Prop} (hK : Back l R p e below s args y 3 W9 Pre Post)
    {g : JFrame} (hg : g.method = m) (hsize : g.locals.size = c.maxLocals) {argsL rest : List Value} (hlen : ∀ sig, parseMethodDescriptor y.desc = some sig → argsL.length = sig.parameters.length)
    (hstack : g.stack = argsL.reverse ++ rest) (hW : 2 * g.monitorRoom + (rest.map fun v => v.category).sum ≤ W9) (hdg : decode c.code g.pc = .ok (.invokestatic index, 3))
    (hpre : ∀ vm₁, s.WarmedH vm₁ → Pre ⟨T.setVm vm₁, locs, cells, slots⟩ argsL.toArray) :
    ∃ (v : Option Value) (vm₁ : Vm) (B : Pt), s.WarmedH vm₁ ∧ Stand p l e R s m args below meth c B.U B.locs B.cells B.slots ∧ Post ⟨T.setVm vm₁, locs, cells, slots⟩ argsL.toArray v B ∧
      ∀ target, Steps p.tables e below (B.U.setTop { g with pc := g.pc + 3, stack := v.toList ++ rest }) target → Steps p.tables e below (T.setTop g) target := by
  obtain ⟨mk, methM, cM, hnamed, hmethM, -, -, -, -, -, -, hsigM⟩ := Cond.codeWith_spec hcode
  have hstatic : methM.isStatic = true := Cond.static_spec hnamed hmethM hstat
  obtain ⟨kP, hkP, -⟩ := className_of_methodNamed hnamed
  have hinitP : kP.init = .initialized := Cond.initialized_spec (findClass_of_methodNamed hnamed) hkP hinit
  obtain ⟨vm₁, X₁, hstep₁⟩ := X.invokestatic hexec hown hlink hnamed hmethM hstatic hkP hinitP hy (g := g) hg (argsL := argsL) (rest := rest) (hlen _ hsigM) hstack hdg
  obtain ⟨v, B, X', hpost, hsteps⟩ := hK m meth c ⟨T.setVm vm₁, locs, cells, slots⟩ { g with stack := rest } (.invokestatic index) mk argsL.toArray X₁ hg hsize hdg hW (X₁.named hnamed) (hpre vm₁ X₁.warmed)
  exact ⟨v, vm₁, B, X₁.warmed, X', hpost, fun target h => hstep₁ _ fun acts => by rw [doInvoke_state]; exact hsteps.trans h⟩
theorem vx_runSW {y : MethodName} {bytes cc : ByteArray} {maxL nL mc ms n index : Nat} {ret : Option FieldType} {hh : List (Nat × Nat × Nat × Nat)} {ws : List Cond} {rm : Room} {Pc : Array Value → State → Prop} {Qc : Array Value → State → Outcome → State → Prop} {free : Addr → Prop} {Ts : List Cond} {own : String} {As rest : List Value} {g : JFrame}
    (S : CallFix p m c cc nL s args Ts own) (hM : Met l y ws rm Pc Qc mc ms free) (cw : vx_CSW R s args own index y bytes maxL ret hh ws rm mc ms n) (hp : PreS s H Pc As)
    (hg : g.method = m) (hn : As.length = n) (hsize : g.locals.size = nL) (hstack : g.stack = As.reverse ++ rest) (hW : 2 * g.monitorRoom + (rest.map fun v => v.category).sum ≤ 8) (hdg : decode cc g.pc = .ok (.invokestatic index, 3)) (hf : cells + mc ≤ R.cells ∧ slots + ms ≤ R.slots) :
    va_Run p l e R s m args below meth c H locs cells slots mc ms g rest (Qc As.toArray) (free) := by
  obtain ⟨⟨hrc, hrs, hfr, hlo, hws, hcw⟩, hcode, hini, hy, hlen, hl, hstt⟩ := cw
  have hK : Back l R p e below s args y 3 8 (PreOf R mc ms Pc) (PostOf Qc mc ms free) := va_backW (hh := hh) (bytes := bytes) (maxL := maxL) (ret := ret) hM hp.1 hrc hrs hfr hlo hws hcw (fun a' U hW => word_at hW (Or.inl (by first | rfl | simp [Cond.onTables, Cond.keeps, Cond.steady])) hini)
  obtain ⟨hx, hb, hml, ho, -⟩ := S
  intro T hT X
  obtain ⟨v, vm₁, ⟨U', l2, c2, s2⟩, hW₁, X', ⟨g', mk, t, L, e1, e2, hq, h1, hL, h2, h3⟩, st⟩ := vx_callSW X hx (hh := hh) (bytes := bytes) (maxL := maxL) (ret := ret) ho hl hstt hini hcode hy hK hg (hsize.trans hml.symm) (argsL := As) (rest := rest) (fun sig h => hn.trans (hlen sig h)) hstack hW (by rw [hb]; exact hdg)
    (fun vm₁ hW₁ => ⟨hf.1, hf.2, hp.2 (T.setVm vm₁) hT hW₁⟩)
  dsimp only [Pt.U, Pt.locs, Pt.cells, Pt.slots] at X' e1 e2 h1 h2 h3 st
  subst h1; subst h2; subst h3
  exact ⟨v, (T.setVm vm₁).calling g' mk As.toArray, t, U', L, hT, X', hL, e1, e2, hq, st⟩
/-- a thing of a world lies in the heap -/
theorem vx_lt {D : va_G} {cl : List vw_C} {ws : va_W} {H1 : Heap} (h : va_P D cl ws H1) {k : Nat} {q : Nat × va_E} (hk : ws[k]? = some q) : q.1 < H1.size := (h k q hk).lt
end VXS
/-! ===== END ===== -/
/-! ===== BEGIN methods with a table of their own: called by a name, returning or throwing ===== -/
section VXH
/-! vx_backW, vx_callVX, vx_callSX, vx_callVW, vx_runVW, vx_runVX, vx_runSX, vx_ofWH follow the same proofs as their sisters above (Free/Laws.lean, Shelf42/LK1.lean); vx_outP calls Shelf42/NT130.lean (outThrough). -/
section
variable {l : Launch} {R : Room} {p : Program} {e : Env} {below : List Frame} {s : State} {sargs : Array Value} {y : MethodName} {len W9 : Nat}
theorem vx_backW {ws : List Cond} {rm : Room} {Pc : Array Value → State → Prop} {Qc : Array Value → State → Outcome → State → Prop} {XC : String → State → State → Prop} {mc ms : Nat} {free : Addr → Prop} {bytes : ByteArray} {maxL : Nat} {ret : Option FieldType} {hh : List (Nat × Nat × Nat × Nat)}
    (hM : vx_Met l y ws rm Pc Qc XC mc ms free) (hblind : FrameBlind Pc) (hrc : rm.cells = mc) (hrs : rm.slots = ms)
    (hframes : rm.frames + 1 ≤ R.frames) (hlocals : W9 + (maxL + 11) + rm.locals ≤ R.locals)
    (hws : ∀ w ∈ ws, ∀ a' U, s.WarmedH U.vm → w.before a' U = true) (hcode : Cond.codeWith y bytes maxL ret hh ∈ ws) (hinit : ∀ a' U, s.WarmedH U.vm → (Cond.initialized y.cls).before a' U = true) :
    vx_Back l R p e below s sargs y len W9 (PreOf R mc ms Pc) (PostOf Qc mc ms free) (vx_Post XC mc ms free) := by
  intro m meth c A g ig mk a X hg hsize hdg hW hn hp
  have h1 : (headSpec ws rm).pre.before a A.U = true := atoms_intro fun w hw => hws w hw _ _ X.warmed
  have h2 : (Cond.codeWith y bytes maxL ret hh).before a A.U = true := hws _ hcode _ _ X.warmed
  have h3 : (Cond.initialized y.cls).before a A.U = true := hinit _ _ X.warmed
  have h4 : A.cells + (headSpec ws rm).room.cells ≤ R.cells := by rw [show (headSpec ws rm).room.cells = mc from hrc]; exact hp.1
  have h5 : A.slots + (headSpec ws rm).room.slots ≤ R.slots := by rw [show (headSpec ws rm).room.slots = ms from hrs]; exact hp.2.1
  have hPc : Pc a (A.U.calling g mk a) := hblind _ _ _ _ hp.2.2
  obtain ⟨U, Ls, c0, s0⟩ := A
  dsimp only [Pt.U, Pt.locs, Pt.cells, Pt.slots] at h1 h2 h3 h4 h5 X hn hPc ⊢
  obtain ⟨m9, methY, cY, hn9, hmY, hcY, -, hlY, -⟩ := Cond.codeWith_spec h2
  cases Option.some.inj (hn9.symm.trans hn)
  obtain ⟨kY, hkY, -⟩ := className_of_methodNamed hn
  have hinitY : kY.init = .initialized := Cond.initialized_spec (findClass_of_methodNamed hn) hkY h3
  have h : At U g.method c below := by rw [hg]; exact X.here
  have hlocals9 : W9 + (maxL + 11) + (headSpec ws rm).room.locals ≤ R.locals := hlocals
  have happ : (headSpec ws rm).appliesLoose y e.platform (U.calling g mk a) = true :=
    Spec.appliesLoose_calling (g := g) h hdg hn hkY hinitY
      (X.room_calling (g := g) (R' := (headSpec ws rm).room) hsize hmY hcY hframes (by rw [hlY]; omega) h4 h5) h1
  obtain ⟨mid, hmid⟩ := h.above
  have hfr : (U.setTop g).frames = (.java g :: mid) ++ below := by rw [State.frames_setTop' g h.top, hmid]; rfl
  obtain ⟨o, s₂, hsteps, -, hend, hq⟩ := Steps.callFree hM p X.admits X.cas X.clock (acts := []) hfr happ hPc trivial
  have hq' : vx_Q Qc XC mc ms free a (U.calling g mk a) o s₂ := hq
  rw [State.frames_setTop' g h.top] at hend
  obtain ⟨g₀, hg0⟩ := Option.isSome_iff_exists.mp h.top
  obtain ⟨r, hr⟩ := State.topJava?_eq_some.mp hg0
  have hr' : (({ U with heap := s₂.heap, slotsUsed := s₂.slotsUsed } : State).setVm s₂.vm).frames = .java g₀ :: r := hr
  rcases hq' with ⟨hqc, L, hfe, hL⟩ | ⟨q, rfl, E, ce, L, hx, hce, hcv, hcl, hW₂, hsm, hL⟩
  · obtain ⟨⟨v, rfl⟩, hW₂, e2, q2, q3, q4, q5, q6⟩ := id hfe
    have e3 : s₂ = ({ (U.calling g mk a).setFrames s₂.frames with heap := s₂.heap, slotsUsed := s₂.slotsUsed } : State).setVm s₂.vm := by
      have : s₂ = ({ s₂ with vm := (U.calling g mk a).vm } : State).setVm s₂.vm := rfl
      rw [e2] at this
      exact this
    obtain ⟨c₂, i₂, len₂, hc₂, hd₂, hf₂⟩ := hend
    have hW' : U.WarmedH s₂.vm := hW₂
    have hcc : c₂ = c := by
      have h1 : s₂.code? g.method = U.code? g.method := by
        rw [State.code?_eq, State.code?_eq, hW'.alike.method?]
      exact Option.some.inj (hc₂.symm.trans (h1.trans h.code))
    subst hcc
    have hlen : len₂ = len := by rw [hdg] at hd₂; cases hd₂; rfl
    subst hlen
    have hs₂ : s₂ = (({ U with heap := s₂.heap, slotsUsed := s₂.slotsUsed } : State).setVm s₂.vm).setTop { g with pc := g.pc + len₂, stack := v.toList ++ g.stack } := by
      refine e3.trans ?_
      rw [hf₂, State.calling_eq h.top, State.setFrames_setFrames, State.setTop_of_frames _ hr', hr]
      rfl
    have hsame : U.sameButNew ({ U with heap := s₂.heap, slotsUsed := s₂.slotsUsed } : State) L mc ms := by
      refine ⟨?_, q2, q3, q4, q5, q6⟩
      obtain ⟨t, ht, -⟩ := State.frames_cons hr
      show ({ U with heap := s₂.heap, slotsUsed := s₂.slotsUsed } : State) = { U.setFrames U.frames with heap := s₂.heap, slotsUsed := s₂.slotsUsed }
      rw [State.setFrames_self ht]
    subst hg
    refine Or.inl ⟨v, ⟨(({ U with heap := s₂.heap, slotsUsed := s₂.slotsUsed } : State).setVm s₂.vm), Ls ++ L, c0 + mc, s0 + ms⟩,
      ⟨X.admits, X.cas, X.clock, X.frames, X.room, X.hears, X.method, X.code, (X.here.setHeapUsed s₂.heap s₂.slotsUsed).setVm hW'.alike, X.tail, State.WarmedH.trans X.warmed hW', X.limits, X.bytes, X.same.trans (hsame.setVm s.vm)⟩,
      ⟨g, mk, s₂, L, rfl, rfl, hqc, rfl, hL, rfl, rfl⟩, ?_⟩
    show Steps p.tables e below _ ((({ U with heap := s₂.heap, slotsUsed := s₂.slotsUsed } : State).setVm s₂.vm).setTop { g with pc := g.pc + len₂, stack := v.toList ++ g.stack })
    rw [← hs₂]
    exact hsteps
  · obtain ⟨e2, q2, q3, q4, q5, q6⟩ := id hsm
    have e3 : s₂ = ({ (U.calling g mk a).setFrames s₂.frames with heap := s₂.heap, slotsUsed := s₂.slotsUsed } : State).setVm s₂.vm := by
      have : s₂ = ({ s₂ with vm := (U.calling g mk a).vm } : State).setVm s₂.vm := rfl
      rw [e2] at this
      exact this
    have hf₂ : s₂.frames = .throwing q :: .java g :: U.frames.tail := hend
    have hW' : U.WarmedH s₂.vm := hW₂
    have hs₂ : s₂ = ((({ U with heap := s₂.heap, slotsUsed := s₂.slotsUsed } : State).setVm s₂.vm).setTop g).pushFrame (.throwing q) := by
      refine e3.trans ?_
      rw [hf₂, State.calling_eq h.top, State.setFrames_setFrames, State.pushFrame, State.frames_setTop _ hr', State.setTop_of_frames _ hr', State.setFrames_setFrames, hr]
      rfl
    have hsame : U.sameButNew ({ U with heap := s₂.heap, slotsUsed := s₂.slotsUsed } : State) L mc ms := by
      refine ⟨?_, q2, q3, q4, q5, q6⟩
      obtain ⟨t, ht, -⟩ := State.frames_cons hr
      show ({ U with heap := s₂.heap, slotsUsed := s₂.slotsUsed } : State) = { U.setFrames U.frames with heap := s₂.heap, slotsUsed := s₂.slotsUsed }
      rw [State.setFrames_self ht]
    subst hg
    refine Or.inr ⟨q, ⟨(({ U with heap := s₂.heap, slotsUsed := s₂.slotsUsed } : State).setVm s₂.vm), Ls ++ L, c0 + mc, s0 + ms⟩,
      ⟨X.admits, X.cas, X.clock, X.frames, X.room, X.hears, X.method, X.code, (X.here.setHeapUsed s₂.heap s₂.slotsUsed).setVm hW'.alike, X.tail, State.WarmedH.trans X.warmed hW', X.limits, X.bytes, X.same.trans (hsame.setVm s.vm)⟩,
      ⟨g, mk, s₂, L, E, ce, rfl, rfl, hx, hce, hcv, hcl, rfl, hL, rfl, rfl⟩, ?_⟩
    show Steps p.tables e below _ (((({ U with heap := s₂.heap, slotsUsed := s₂.slotsUsed } : State).setVm s₂.vm).setTop g).pushFrame (.throwing q))
    rw [← hs₂]
    exact hsteps
end
variable {p : Program} {l : Launch} {e : Env} {R : Room} {s : State} {m : MethodId} {args : Array Value} {below : List Frame} {meth : Method} {c : Code} {T : State} {H : Heap} {locs : List Loc} {cells slots : Nat}
theorem vx_callVX (X : Stand p l e R s m args below meth c T locs cells slots) (hexec : p.tables.exec = Jvm.exec) {own C : String} {index : Nat} {y : MethodName} {bytes : ByteArray} {maxL : Nat} {ret : Option FieldType} {hh : List (Nat × Nat × Nat × Nat)}
    (hown : s.vm.findClass own = some m.cls) (hlink : (Cond.methodLink own index y).before args s = true) (hinst : (Cond.instanceMethod y).before args s = true) (hsel : (Cond.selects C y y).before args s = true)
    (hcode : (Cond.codeWith y bytes maxL ret hh).before args s = true) (hy : y.cls ≠ "java/lang/invoke/MethodHandle" ∧ y.cls ≠ "java/lang/invoke/VarHandle")
    {W9 : Nat} {Pre : Pt → Array Value → Prop} {Post : Pt → Array Value → Option Value → Pt → Prop} {PostX : Pt → Array Value → Addr → Pt → Prop} (hK : vx_Back l R p e below s args y 3 W9 Pre Post PostX)
    {b : Addr} {cellB : Cell} (hcell : T.heap[b]? = some cellB) (hobj : cellB.vm.isStatics = false) (hcls : s.vm.findClass C = some cellB.cls)
    {g : JFrame} (hg : g.method = m) (hsize : g.locals.size = c.maxLocals) {argsL rest : List Value} (hlen : ∀ sig, parseMethodDescriptor y.desc = some sig → argsL.length = sig.parameters.length)
    (hstack : g.stack = argsL.reverse ++ .ref b :: rest) (hW : 2 * g.monitorRoom + (rest.map fun v => v.category).sum ≤ W9) (hdg : decode c.code g.pc = .ok (.invokevirtual index, 3))
    (hpre : ∀ vm₁, s.WarmedH vm₁ → Pre ⟨T.setVm vm₁, locs, cells, slots⟩ (Value.ref b :: argsL).toArray) :
    (∃ (v : Option Value) (vm₁ : Vm) (B : Pt), s.WarmedH vm₁ ∧ Stand p l e R s m args below meth c B.U B.locs B.cells B.slots ∧ Post ⟨T.setVm vm₁, locs, cells, slots⟩ (Value.ref b :: argsL).toArray v B ∧
      ∀ target, Steps p.tables e below (B.U.setTop { g with pc := g.pc + 3, stack := v.toList ++ rest }) target → Steps p.tables e below (T.setTop g) target) ∨
    (∃ (q : Addr) (vm₁ : Vm) (B : Pt), s.WarmedH vm₁ ∧ Stand p l e R s m args below meth c B.U B.locs B.cells B.slots ∧ PostX ⟨T.setVm vm₁, locs, cells, slots⟩ (Value.ref b :: argsL).toArray q B ∧
      Steps p.tables e below (T.setTop g) ((B.U.setTop { g with stack := rest }).pushFrame (.throwing q))) := by
  obtain ⟨mk, methM, hnamed, hmethM, hstM, habM⟩ := Cond.instanceMethod_spec hinst
  obtain ⟨m8, methM', cM, hn8, hmethM', -, -, -, -, -, -, hsigM⟩ := Cond.codeWith_spec hcode
  cases Option.some.inj (hn8.symm.trans hnamed)
  cases hmethM.symm.trans hmethM'
  obtain ⟨c2, r2, m2, q1, q2, q3, q4, kP, hkP, hkPi⟩ := Cond.selects_spec hsel
  cases hcls.symm.trans q1
  cases (State.methodFound?_of_named hnamed hy).symm.trans q2
  cases hnamed.symm.trans q3
  have hselP : selectMethod e.platform s.vm cellB.cls mk = .method mk := by rw [Launch.admits_selectMethod X.admits]; exact q4
  obtain ⟨vm₁, X₁, hstep₁⟩ := X.invokevirtual hexec hown hlink hnamed hmethM hstM hkP hkPi hy (a := b) (cell := cellB) hcell
    (fun z h => by rw [h] at hobj; cases hobj) hselP hmethM habM hkP hkPi (g := g) hg (argsL := argsL) (rest := rest) (hlen _ hsigM) hstack hdg
  rcases hK m meth c ⟨T.setVm vm₁, locs, cells, slots⟩ { g with stack := rest } (.invokevirtual index) mk (Value.ref b :: argsL).toArray X₁ hg hsize hdg hW (X₁.named hnamed) (hpre vm₁ X₁.warmed) with ⟨v, B, X', hpost, hsteps⟩ | ⟨q, B, X', hpost, hsteps⟩
  · exact Or.inl ⟨v, vm₁, B, X₁.warmed, X', hpost, fun target h => hstep₁ _ fun acts => by rw [doInvoke_state]; exact hsteps.trans h⟩
  · exact Or.inr ⟨q, vm₁, B, X₁.warmed, X', hpost, hstep₁ _ fun acts => by rw [doInvoke_state]; exact hsteps⟩
theorem vx_callSX (X : Stand p l e R s m args below meth c T locs cells slots) (hexec : p.tables.exec = Jvm.exec) {own : String} {index : Nat} {y : MethodName} {bytes : ByteArray} {maxL : Nat} {ret : Option FieldType} {hh : List (Nat × Nat × Nat × Nat)}
    (hown : s.vm.findClass own = some m.cls) (hlink : (Cond.methodLink own index y).before args s = true) (hstat : (Cond.static y).before args s = true) (hinit : (Cond.initialized y.cls).before args s = true)
    (hcode : (Cond.codeWith y bytes maxL ret hh).before args s = true) (hy : y.cls ≠ "java/lang/invoke/MethodHandle" ∧ y.cls ≠ "java/lang/invoke/VarHandle")
    {W9 : Nat} {Pre : Pt → Array Value → Prop} {Post : Pt → Array Value → Option Value → Pt → Prop} {PostX : Pt → Array Value → Addr → Pt → Prop} (hK : vx_Back l R p e below s args y 3 W9 Pre Post PostX)
    {g : JFrame} (hg : g.method = m) (hsize : g.locals.size = c.maxLocals) {argsL rest : List Value} (hlen : ∀ sig, parseMethodDescriptor y.desc = some sig → argsL.length = sig.parameters.length)
    (hstack : g.stack = argsL.reverse ++ rest) (hW : 2 * g.monitorRoom + (rest.map fun v => v.category).sum ≤ W9) (hdg : decode c.code g.pc = .ok (.invokestatic index, 3))
    (hpre : ∀ vm₁, s.WarmedH vm₁ → Pre ⟨T.setVm vm₁, locs, cells, slots⟩ argsL.toArray) :
    (∃ (v : Option Value) (vm₁ : Vm) (B : Pt), s.WarmedH vm₁ ∧ Stand p l e R s m args below meth c B.U B.locs B.cells B.slots ∧ Post ⟨T.setVm vm₁, locs, cells, slots⟩ argsL.toArray v B ∧
      ∀ target, Steps p.tables e below (B.U.setTop { g with pc := g.pc + 3, stack := v.toList ++ rest }) target → Steps p.tables e below (T.setTop g) target) ∨
    (∃ (q : Addr) (vm₁ : Vm) (B : Pt), s.WarmedH vm₁ ∧ Stand p l e R s m args below meth c B.U B.locs B.cells B.slots ∧ PostX ⟨T.setVm vm₁, locs, cells, slots⟩ argsL.toArray q B ∧
      Steps p.tables e below (T.setTop g) ((B.U.setTop { g with stack := rest }).pushFrame (.throwing q))) := by
  obtain ⟨mk, methM, cM, hnamed, hmethM, -, -, -, -, -, -, hsigM⟩ := Cond.codeWith_spec hcode
  have hstatic : methM.isStatic = true := Cond.static_spec hnamed hmethM hstat
  obtain ⟨kP, hkP, -⟩ := className_of_methodNamed hnamed
  have hinitP : kP.init = .initialized := Cond.initialized_spec (findClass_of_methodNamed hnamed) hkP hinit
  obtain ⟨vm₁, X₁, hstep₁⟩ := X.invokestatic hexec hown hlink hnamed hmethM hstatic hkP hinitP hy (g := g) hg (argsL := argsL) (rest := rest) (hlen _ hsigM) hstack hdg
  rcases hK m meth c ⟨T.setVm vm₁, locs, cells, slots⟩ { g with stack := rest } (.invokestatic index) mk argsL.toArray X₁ hg hsize hdg hW (X₁.named hnamed) (hpre vm₁ X₁.warmed) with ⟨v, B, X', hpost, hsteps⟩ | ⟨q, B, X', hpost, hsteps⟩
  · exact Or.inl ⟨v, vm₁, B, X₁.warmed, X', hpost, fun target h => hstep₁ _ fun acts => by rw [doInvoke_state]; exact hsteps.trans h⟩
  · exact Or.inr ⟨q, vm₁, B, X₁.warmed, X', hpost, hstep₁ _ fun acts => by rw [doInvoke_state]; exact hsteps⟩
theorem vx_callVW (X : Stand p l e R s m args below meth c T locs cells slots) (hexec : p.tables.exec = Jvm.exec) {own C : String} {index : Nat} {y : MethodName} {bytes : ByteArray} {maxL : Nat} {ret : Option FieldType} {hh : List (Nat × Nat × Nat × Nat)}
    (hown : s.vm.findClass own = some m.cls) (hlink : (Cond.methodLink own index y).before args s = true) (hinst : (Cond.instanceMethod y).before args s = true) (hsel : (Cond.selects C y y).before args s = true)
    (hcode : (Cond.codeWith y bytes maxL ret hh).before args s = true) (hy : y.cls ≠ "java/lang/invoke/MethodHandle" ∧ y.cls ≠ "java/lang/invoke/VarHandle")
    {W9 : Nat} {Pre : Pt → Array Value → Prop} {Post : Pt → Array Value → Option Value → Pt → Prop} (hK : Back l R p e below s args y 3 W9 Pre Post)
    {b : Addr} {cellB : Cell} (hcell : T.heap[b]? = some cellB) (hobj : cellB.vm.isStatics = false) (hcls : s.vm.findClass C = some cellB.cls)
    {g : JFrame} (hg : g.method = m) (hsize : g.locals.size = c.maxLocals) {argsL rest : List Value} (hlen : ∀ sig, parseMethodDescriptor y.desc = some sig → argsL.length = sig.parameters.length)
    (hstack : g.stack = argsL.reverse ++ .ref b :: rest) (hW : 2 * g.monitorRoom + (rest.map fun v => v.category).sum ≤ W9) (hdg : decode c.code g.pc = .ok (.invokevirtual index, 3))
    (hpre : ∀ vm₁, s.WarmedH vm₁ → Pre ⟨T.setVm vm₁, locs, cells, slots⟩ (Value.ref b :: argsL).toArray) :
    ∃ (v : Option Value) (vm₁ : Vm) (B : Pt), s.WarmedH vm₁ ∧ Stand p l e R s m args below meth c B.U B.locs B.cells B.slots ∧ Post ⟨T.setVm vm₁, locs, cells, slots⟩ (Value.ref b :: argsL).toArray v B ∧
      ∀ target, Steps p.tables e below (B.U.setTop { g with pc := g.pc + 3, stack := v.toList ++ rest }) target → Steps p.tables e below (T.setTop g) target := by
  obtain ⟨mk, methM, hnamed, hmethM, hstM, habM⟩ := Cond.instanceMethod_spec hinst
  obtain ⟨m8, methM', cM, hn8, hmethM', -, -, -, -, -, -, hsigM⟩ := Cond.codeWith_spec hcode
  cases Option.some.inj (hn8.symm.trans hnamed)
  cases hmethM.symm.trans hmethM'
  obtain ⟨c2, r2, m2, q1, q2, q3, q4, kP, hkP, hkPi⟩ := Cond.selects_spec hsel
  cases hcls.symm.trans q1
  cases (State.methodFound?_of_named hnamed hy).symm.trans q2
  cases hnamed.symm.trans q3
  have hselP : selectMethod e.platform s.vm cellB.cls mk = .method mk := by rw [Launch.admits_selectMethod X.admits]; exact q4
  obtain ⟨vm₁, X₁, hstep₁⟩ := X.invokevirtual hexec hown hlink hnamed hmethM hstM hkP hkPi hy (a := b) (cell := cellB) hcell
    (fun z h => by rw [h] at hobj; cases hobj) hselP hmethM habM hkP hkPi (g := g) hg (argsL := argsL) (rest := rest) (hlen _ hsigM) hstack hdg
  obtain ⟨v, B, X', hpost, hsteps⟩ := hK m meth c ⟨T.setVm vm₁, locs, cells, slots⟩ { g with stack := rest } (.invokevirtual index) mk (Value.ref b :: argsL).toArray X₁ hg hsize hdg hW (X₁.named hnamed) (hpre vm₁ X₁.warmed)
  exact ⟨v, vm₁, B, X₁.warmed, X', hpost, fun target h => hstep₁ _ fun acts => by rw [doInvoke_state]; exact hsteps.trans h⟩
abbrev vx_CVW (R : Room) (s : State) (args : Array Value) (own C : String) (index : Nat) (y : MethodName) (bytes : ByteArray) (maxL : Nat) (ret : Option FieldType) (hh : List (Nat × Nat × Nat × Nat)) (ws : List Cond) (rm : Room) (mc ms n : Nat) : Prop :=
  (rm.cells = mc ∧ rm.slots = ms ∧ rm.frames + 1 ≤ R.frames ∧ 8 + (maxL + 11) + rm.locals ≤ R.locals ∧ (∀ w ∈ ws, ∀ (a' : Array Value) (U : State), s.WarmedH U.vm → w.before a' U = true) ∧ Cond.codeWith y bytes maxL ret hh ∈ ws) ∧
  (Cond.codeWith y bytes maxL ret hh).before args s = true ∧ (Cond.initialized y.cls).before args s = true ∧ (y.cls ≠ "java/lang/invoke/MethodHandle" ∧ y.cls ≠ "java/lang/invoke/VarHandle") ∧
  (∀ sig, parseMethodDescriptor y.desc = some sig → n = sig.parameters.length) ∧ (Cond.methodLink own index y).before args s = true ∧ (Cond.instanceMethod y).before args s = true ∧ (Cond.selects C y y).before args s = true
theorem vx_cwVW {own C : String} {index maxL mc ms : Nat} {y : MethodName} {bytes : ByteArray} {ret : Option FieldType} {hh : List (Nat × Nat × Nat × Nat)} {Ts ws ws' : List Cond} {rm : Room} (n : Nat) (ht : ∀ w ∈ Ts, w.before args s = true) (hT : GoodIn Ts (wsV own index C y ws)) (hw : ws = Cond.codeWith y bytes maxL ret hh :: ws') (hrc : rm.cells = mc) (hrs : rm.slots = ms)
    (hd : y.cls = C ∧ y.cls ≠ "java/lang/invoke/MethodHandle" ∧ y.cls ≠ "java/lang/invoke/VarHandle" ∧ (parseMethodDescriptor y.desc).map (fun d => d.parameters.length) = some n) (hR : rm.frames + 1 ≤ R.frames ∧ 8 + (maxL + 11) + rm.locals ≤ R.locals) :
    vx_CVW R s args own C index y bytes maxL ret hh ws rm mc ms n := by
  obtain ⟨hC, hd⟩ := hd
  subst hC
  have ok : ∀ w ∈ wsV own index y.cls y ws, w.before args s = true := fun w h => ht w (hT w h).1
  have hG : GoodIn Ts ws := fun w h => hT w (by unfold wsV; exact List.mem_append_right _ h)
  have hc : Cond.codeWith y bytes maxL ret hh ∈ ws := by rw [hw]; exact List.mem_cons_self
  refine ⟨⟨hrc, hrs, hR.1, hR.2, pay_in ht hG, hc⟩, ht _ (hG _ hc).1, ok _ (by simp [wsV]), ⟨hd.1, hd.2.1⟩, fun sig h => ?_, ok _ (by simp [wsV]), ok _ (by simp [wsV]), ok _ (by simp [wsV])⟩
  have h2 := hd.2.2
  rw [h] at h2
  exact (Option.some.inj h2).symm
theorem vx_runVW {y : MethodName} {bytes cc : ByteArray} {maxL nL mc ms n index : Nat} {ret : Option FieldType} {hh : List (Nat × Nat × Nat × Nat)} {ws : List Cond} {rm : Room} {Pc : Array Value → State → Prop} {Qc : Array Value → State → Outcome → State → Prop} {free : Addr → Prop} {Ts : List Cond} {own C : String} {b : Addr} {As rest : List Value} {g : JFrame}
    (S : CallFix p m c cc nL s args Ts own) (hM : Met l y ws rm Pc Qc mc ms free) (cw : vx_CVW R s args own C index y bytes maxL ret hh ws rm mc ms n) (hp : PreV s H C b Pc As)
    (hg : g.method = m) (hn : As.length = n) (hsize : g.locals.size = nL) (hstack : g.stack = As.reverse ++ .ref b :: rest) (hW : 2 * g.monitorRoom + (rest.map fun v => v.category).sum ≤ 8) (hdg : decode cc g.pc = .ok (.invokevirtual index, 3)) (hf : cells + mc ≤ R.cells ∧ slots + ms ≤ R.slots) :
    va_Run p l e R s m args below meth c H locs cells slots mc ms g rest (Qc (Value.ref b :: As).toArray) free := by
  obtain ⟨⟨hrc, hrs, hfr, hlo, hws, hcw⟩, hcode, hini, hy, hlen, hl, hin, hse⟩ := cw
  have hK : Back l R p e below s args y 3 8 (PreOf R mc ms Pc) (PostOf Qc mc ms free) := va_backW (hh := hh) (bytes := bytes) (maxL := maxL) (ret := ret) hM hp.1 hrc hrs hfr hlo hws hcw (fun a' U hW => word_at hW (Or.inl (by first | rfl | simp [Cond.onTables, Cond.keeps, Cond.steady])) hini)
  obtain ⟨hx, hb, hml, ho, -⟩ := S
  obtain ⟨-, ⟨cellB, hcB, hoB, hclB⟩, hPc⟩ := hp
  intro T hT X
  obtain ⟨v, vm₁, ⟨U', l2, c2, s2⟩, hW₁, X', ⟨g', mk, t, L, e1, e2, hq, h1, hL, h2, h3⟩, st⟩ := vx_callVW X hx (C := C) (hh := hh) (bytes := bytes) (maxL := maxL) (ret := ret) ho hl hin hse hcode hy hK (by rw [hT]; exact hcB) hoB hclB hg (hsize.trans hml.symm) (argsL := As) (rest := rest) (fun sig h => hn.trans (hlen sig h)) hstack hW (by rw [hb]; exact hdg)
    (fun vm₁ hW₁ => ⟨hf.1, hf.2, hPc (T.setVm vm₁) hT hW₁⟩)
  dsimp only [Pt.U, Pt.locs, Pt.cells, Pt.slots] at X' e1 e2 h1 h2 h3 st
  subst h1; subst h2; subst h3
  exact ⟨v, (T.setVm vm₁).calling g' mk (Value.ref b :: As).toArray, t, U', L, hT, X', hL, e1, e2, hq, st⟩
section
variable {y : MethodName} {bytes cc : ByteArray} {maxL nL mc ms n index : Nat} {ret : Option FieldType} {ws : List Cond} {rm : Room} {Pc : Array Value → State → Prop} {Qc : Array Value → State → Outcome → State → Prop} {XC : String → State → State → Prop} {free : Addr → Prop} {Ts : List Cond} {own C : String} {b : Addr} {As rest : List Value} {g : JFrame}
theorem vx_runVX {hh : List (Nat × Nat × Nat × Nat)} (S : CallFix p m c cc nL s args Ts own) (hM : vx_Met l y ws rm Pc Qc XC mc ms free) (cw : vx_CVW R s args own C index y bytes maxL ret hh ws rm mc ms n) (hp : PreV s H C b Pc As)
    (hg : g.method = m) (hn : As.length = n) (hsize : g.locals.size = nL) (hstack : g.stack = As.reverse ++ .ref b :: rest) (hW : 2 * g.monitorRoom + (rest.map fun v => v.category).sum ≤ 8) (hdg : decode cc g.pc = .ok (.invokevirtual index, 3)) (hf : cells + mc ≤ R.cells ∧ slots + ms ≤ R.slots) :
    vx_Run p l e R s m args below meth c H locs cells slots mc ms g rest (Qc (Value.ref b :: As).toArray) XC free := by
  obtain ⟨⟨hrc, hrs, hfr, hlo, hws, hcw⟩, hcode, hini, hy, hlen, hl, hin, hse⟩ := cw
  have hK : vx_Back l R p e below s args y 3 8 (PreOf R mc ms Pc) (PostOf Qc mc ms free) (vx_Post XC mc ms free) := vx_backW (hh := hh) (bytes := bytes) (maxL := maxL) (ret := ret) hM hp.1 hrc hrs hfr hlo hws hcw (fun a' U hW => word_at hW (Or.inl (by first | rfl | simp [Cond.onTables, Cond.keeps, Cond.steady])) hini)
  obtain ⟨hx, hb, hml, ho, -⟩ := S
  obtain ⟨-, ⟨cellB, hcB, hoB, hclB⟩, hPc⟩ := hp
  intro T hT X
  rcases vx_callVX X hx (C := C) (hh := hh) (bytes := bytes) (maxL := maxL) (ret := ret) ho hl hin hse hcode hy hK (by rw [hT]; exact hcB) hoB hclB hg (hsize.trans hml.symm) (argsL := As) (rest := rest) (fun sig h => hn.trans (hlen sig h)) hstack hW (by rw [hb]; exact hdg)
    (fun vm₁ hW₁ => ⟨hf.1, hf.2, hPc (T.setVm vm₁) hT hW₁⟩) with ⟨v, vm₁, ⟨U', l2, c2, s2⟩, hW₁, X', ⟨g', mk, t, L, e1, e2, hq, h1, hL, h2, h3⟩, st⟩ | ⟨q, vm₁, ⟨U', l2, c2, s2⟩, hW₁, X', ⟨g', mk, t, L, E, ce, e1, e2, hq, hce, hcv, hcl, h1, hL, h2, h3⟩, st⟩
  · dsimp only [Pt.U, Pt.locs, Pt.cells, Pt.slots] at X' e1 e2 h1 h2 h3 st
    subst h1; subst h2; subst h3
    exact Or.inl ⟨v, (T.setVm vm₁).calling g' mk (Value.ref b :: As).toArray, t, U', L, hT, X', hL, e1, e2, hq, st⟩
  · dsimp only [Pt.U, Pt.locs, Pt.cells, Pt.slots] at X' e1 e2 h1 h2 h3 st hcl
    subst h1; subst h2; subst h3
    exact Or.inr ⟨q, (T.setVm vm₁).calling g' mk (Value.ref b :: As).toArray, t, U', L, E, ce, hT, X', hL, e1, e2, hq, hce, hcv, vx_cls hW₁ hcl, st⟩
theorem vx_runSX {hh : List (Nat × Nat × Nat × Nat)} (S : CallFix p m c cc nL s args Ts own) (hM : vx_Met l y ws rm Pc Qc XC mc ms free) (cw : vx_CSW R s args own index y bytes maxL ret hh ws rm mc ms n) (hp : PreS s H Pc As)
    (hg : g.method = m) (hn : As.length = n) (hsize : g.locals.size = nL) (hstack : g.stack = As.reverse ++ rest) (hW : 2 * g.monitorRoom + (rest.map fun v => v.category).sum ≤ 8) (hdg : decode cc g.pc = .ok (.invokestatic index, 3)) (hf : cells + mc ≤ R.cells ∧ slots + ms ≤ R.slots) :
    vx_Run p l e R s m args below meth c H locs cells slots mc ms g rest (Qc As.toArray) XC free := by
  obtain ⟨⟨hrc, hrs, hfr, hlo, hws, hcw⟩, hcode, hini, hy, hlen, hl, hstt⟩ := cw
  have hK : vx_Back l R p e below s args y 3 8 (PreOf R mc ms Pc) (PostOf Qc mc ms free) (vx_Post XC mc ms free) := vx_backW (hh := hh) (bytes := bytes) (maxL := maxL) (ret := ret) hM hp.1 hrc hrs hfr hlo hws hcw (fun a' U hW => word_at hW (Or.inl (by first | rfl | simp [Cond.onTables, Cond.keeps, Cond.steady])) hini)
  obtain ⟨hx, hb, hml, ho, -⟩ := S
  intro T hT X
  rcases vx_callSX X hx (hh := hh) (bytes := bytes) (maxL := maxL) (ret := ret) ho hl hstt hini hcode hy hK hg (hsize.trans hml.symm) (argsL := As) (rest := rest) (fun sig h => hn.trans (hlen sig h)) hstack hW (by rw [hb]; exact hdg)
    (fun vm₁ hW₁ => ⟨hf.1, hf.2, hp.2 (T.setVm vm₁) hT hW₁⟩) with ⟨v, vm₁, ⟨U', l2, c2, s2⟩, hW₁, X', ⟨g', mk, t, L, e1, e2, hq, h1, hL, h2, h3⟩, st⟩ | ⟨q, vm₁, ⟨U', l2, c2, s2⟩, hW₁, X', ⟨g', mk, t, L, E, ce, e1, e2, hq, hce, hcv, hcl, h1, hL, h2, h3⟩, st⟩
  · dsimp only [Pt.U, Pt.locs, Pt.cells, Pt.slots] at X' e1 e2 h1 h2 h3 st
    subst h1; subst h2; subst h3
    exact Or.inl ⟨v, (T.setVm vm₁).calling g' mk As.toArray, t, U', L, hT, X', hL, e1, e2, hq, st⟩
  · dsimp only [Pt.U, Pt.locs, Pt.cells, Pt.slots] at X' e1 e2 h1 h2 h3 st hcl
    subst h1; subst h2; subst h3
    exact Or.inr ⟨q, (T.setVm vm₁).calling g' mk As.toArray, t, U', L, E, ce, hT, X', hL, e1, e2, hq, hce, hcv, vx_cls hW₁ hcl, st⟩
end
end VXH
theorem vx_ofWH {l : Launch} {y : MethodName} {ws ws' : List Cond} {rm : Room} {Pc : Array Value → State → Prop} {Qc : Array Value → State → Outcome → State → Prop} {XC : String → State → State → Prop} {mc ms : Nat} {free : Addr → Prop} {cc : ByteArray} {maxL : Nat} {ret : Option FieldType} {hh : List (Nat × Nat × Nat × Nat)}
    (hy : plainName y.cls = true) (hw : ws = Cond.codeWith y cc maxL ret hh :: ws')
    (body : ∀ p e s m args below meth c s₁, BodyLoose p l y (headSpec ws rm) cc maxL ret e s m args below meth c s₁ → c.maxLocals = maxL → Pc args s →
      W p l e (headSpec ws rm).room s m args below meth c s.heap [] 0 0 (vx_MQ below Qc XC args s mc ms free) (entryFrame m args maxL)) : vx_Met l y ws rm Pc Qc XC mc ms free := by
  refine MetFree.of_bodyS (code := cc) (maxLocals := maxL) (ret := ret) hy ?_ ?_
  · intro args s m h hn
    obtain ⟨m9, meth, c, hn9, h1, h2, h3, h4, -, h5, h6, -⟩ := Cond.codeWith_spec (atoms_spec (ws := ws) h _ (by rw [hw]; exact List.mem_cons_self))
    cases hn.symm.trans hn9
    exact ⟨meth, c, h1, h2, h3, h4, h5, h6⟩
  · intro p e s m args below meth c s₁ B hml hP _
    have hh0 : s₁.heap = s.heap := by rw [B.state]; rfl
    obtain ⟨t, a1, o, b1, b2, b3⟩ := body p e s m args below meth c s₁ B hml hP s₁ hh0 (Stand.of_body B)
    exact ⟨t, o, a1, b1, b2, b3⟩
/-! ===== END ===== -/
end
section
def RX0 : String := "InterchangeDesk$Envelopes"
def TX0 : u_T := fun k => match k with
  | 0 => ("InterchangeDesk$Envelopes", "parts", "LInterchangeDesk$Parts;", true)
  | 1 => ("InterchangeDesk$Envelopes", "firsts", "LInterchangeDesk$Row;", true)
  | 2 => ("InterchangeDesk$Envelopes", "lasts", "LInterchangeDesk$Row;", true)
  | 3 => ("InterchangeDesk$Envelopes", "groups", "LInterchangeDesk$Row;", true)
  | 4 => ("InterchangeDesk$Envelopes", "codes", "LInterchangeDesk$Row;", true)
  | 5 => ("InterchangeDesk$Envelopes", "places", "LInterchangeDesk$Row;", true)
  | 6 => ("InterchangeDesk$Envelopes", "groupFirsts", "LInterchangeDesk$Row;", true)
  | 7 => ("InterchangeDesk$Envelopes", "groupLasts", "LInterchangeDesk$Row;", true)
  | 8 => ("InterchangeDesk$Envelopes", "groupMessages", "LInterchangeDesk$Row;", true)
  | 9 => ("InterchangeDesk$Envelopes", "groupCodes", "LInterchangeDesk$Row;", true)
  | 10 => ("InterchangeDesk$Envelopes", "wholeCode", "I", false)
  | _ => ("InterchangeDesk$Envelopes", "place", "I", false)
def tyX0 : Nat → FieldType := fun k => match k with
  | 0 => .object "InterchangeDesk$Parts"
  | 1 => .object "InterchangeDesk$Row"
  | 2 => .object "InterchangeDesk$Row"
  | 3 => .object "InterchangeDesk$Row"
  | 4 => .object "InterchangeDesk$Row"
  | 5 => .object "InterchangeDesk$Row"
  | 6 => .object "InterchangeDesk$Row"
  | 7 => .object "InterchangeDesk$Row"
  | 8 => .object "InterchangeDesk$Row"
  | 9 => .object "InterchangeDesk$Row"
  | 10 => .int
  | _ => .int
abbrev wsX00 : List Cond := u_ws RX0 TX0 12
theorem nmX0 : ∀ a, a < 12 → ∀ b, b < 12 → a ≠ b → (TX0 a).2.1 ≠ (TX0 b).2.1 := by decide +kernel
theorem tyX0_ok : ∀ k, k < 12 → parseFieldDescriptor (TX0 k).2.2.1 = some (tyX0 k) := by decide +kernel
abbrev cX0_init : ByteArray := prog_2_method_1_code
def yX0_init : MethodName := ⟨RX0, "<init>", "()V"⟩
abbrev cX0_fit : ByteArray := prog_2_method_2_code
def yX0_fit : MethodName := ⟨RX0, "fit", "()Z"⟩
abbrev cX0_empty : ByteArray := prog_2_method_3_code
def yX0_empty : MethodName := ⟨RX0, "empty", "()V"⟩
abbrev cX0_takeGroup : ByteArray := prog_2_method_4_code
def yX0_takeGroup : MethodName := ⟨RX0, "takeGroup", "()Z"⟩
abbrev cX0_takeMessage : ByteArray := prog_2_method_5_code
def yX0_takeMessage : MethodName := ⟨RX0, "takeMessage", "(I)Z"⟩
abbrev cX0_messageCount : ByteArray := prog_2_method_6_code
def yX0_messageCount : MethodName := ⟨RX0, "messageCount", "()I"⟩
abbrev cX0_groupCount : ByteArray := prog_2_method_7_code
def yX0_groupCount : MethodName := ⟨RX0, "groupCount", "()I"⟩
abbrev cX0_code : ByteArray := prog_2_method_8_code
def yX0_code : MethodName := ⟨RX0, "code", "()I"⟩
abbrev cX0_codeOfGroup : ByteArray := prog_2_method_9_code
def yX0_codeOfGroup : MethodName := ⟨RX0, "codeOfGroup", "(I)I"⟩
abbrev cX0_ofMessage : ByteArray := prog_2_method_10_code
def yX0_ofMessage : MethodName := ⟨RX0, "ofMessage", "(II)I"⟩
abbrev cX0_reference : ByteArray := prog_2_method_11_code
def yX0_reference : MethodName := ⟨RX0, "reference", "()I"⟩
abbrev cX0_referenceOfGroup : ByteArray := prog_2_method_12_code
def yX0_referenceOfGroup : MethodName := ⟨RX0, "referenceOfGroup", "(I)I"⟩
abbrev cX0_referenceOfMessage : ByteArray := prog_2_method_13_code
def yX0_referenceOfMessage : MethodName := ⟨RX0, "referenceOfMessage", "(I)I"⟩
abbrev cX0_typeOf : ByteArray := prog_2_method_14_code
def yX0_typeOf : MethodName := ⟨RX0, "typeOf", "(I)I"⟩
abbrev cX0_judgeEnds : ByteArray := prog_2_method_15_code
def yX0_judgeEnds : MethodName := ⟨RX0, "judgeEnds", "()V"⟩
abbrev cX0_codeOfEnd : ByteArray := prog_2_method_16_code
def yX0_codeOfEnd : MethodName := ⟨RX0, "codeOfEnd", "(III)I"⟩
abbrev cX0_isRightReference : ByteArray := prog_2_method_17_code
def yX0_isRightReference : MethodName := ⟨RX0, "isRightReference", "(II)Z"⟩
abbrev cX0_isRightCount : ByteArray := prog_2_method_18_code
def yX0_isRightCount : MethodName := ⟨RX0, "isRightCount", "(II)Z"⟩
abbrev cX0_judgeMessage : ByteArray := prog_2_method_19_code
def yX0_judgeMessage : MethodName := ⟨RX0, "judgeMessage", "(ILInterchangeDesk$Table;)V"⟩
abbrev cX0_note : ByteArray := prog_2_method_20_code
def yX0_note : MethodName := ⟨RX0, "note", "(III)V"⟩
abbrev cX0_isRepeated : ByteArray := prog_2_method_21_code
def yX0_isRepeated : MethodName := ⟨RX0, "isRepeated", "(I)Z"⟩
abbrev cX0_matchMessage : ByteArray := prog_2_method_22_code
def yX0_matchMessage : MethodName := ⟨RX0, "matchMessage", "(ILInterchangeDesk$Table;)V"⟩
def RX1 : String := "InterchangeDesk$Paper"
def TX1 : u_T := fun k => match k with
  | _ => ("InterchangeDesk$Paper", "characters", "LInterchangeDesk$Row;", true)
def tyX1 : Nat → FieldType := fun k => match k with
  | _ => .object "InterchangeDesk$Row"
abbrev wsX10 : List Cond := u_ws RX1 TX1 1
theorem nmX1 : ∀ a, a < 1 → ∀ b, b < 1 → a ≠ b → (TX1 a).2.1 ≠ (TX1 b).2.1 := by decide +kernel
theorem tyX1_ok : ∀ k, k < 1 → parseFieldDescriptor (TX1 k).2.2.1 = some (tyX1 k) := by decide +kernel
abbrev cX1_init : ByteArray := prog_3_method_1_code
def yX1_init : MethodName := ⟨RX1, "<init>", "(I)V"⟩
abbrev cX1_look : ByteArray := prog_3_method_2_code
def yX1_look : MethodName := ⟨RX1, "look", "(I)I"⟩
abbrev cX1_writePrint : ByteArray := prog_3_method_3_code
def yX1_writePrint : MethodName := ⟨RX1, "writePrint", "(LInterchangeDesk$Parts;)V"⟩
abbrev cX1_writeReport : ByteArray := prog_3_method_4_code
def yX1_writeReport : MethodName := ⟨RX1, "writeReport", "(LInterchangeDesk$Envelopes;)V"⟩
abbrev cX1_putVerdict : ByteArray := prog_3_method_5_code
def yX1_putVerdict : MethodName := ⟨RX1, "putVerdict", "(ILInterchangeDesk$Parts;II)V"⟩
abbrev cX1_putTag : ByteArray := prog_3_method_6_code
def yX1_putTag : MethodName := ⟨RX1, "putTag", "(I)V"⟩
abbrev cX1_putElement : ByteArray := prog_3_method_7_code
def yX1_putElement : MethodName := ⟨RX1, "putElement", "(LInterchangeDesk$Parts;I)V"⟩
abbrev cX1_putComponent : ByteArray := prog_3_method_8_code
def yX1_putComponent : MethodName := ⟨RX1, "putComponent", "(LInterchangeDesk$Parts;I)V"⟩
abbrev cX1_isPrintMark : ByteArray := prog_3_method_9_code
def yX1_isPrintMark : MethodName := ⟨RX1, "isPrintMark", "(I)Z"⟩
abbrev cX1_putNumber : ByteArray := prog_3_method_10_code
def yX1_putNumber : MethodName := ⟨RX1, "putNumber", "(I)V"⟩
def RX2 : String := "InterchangeDesk$Parts"
def TX2 : u_T := fun k => match k with
  | 0 => ("InterchangeDesk$Parts", "tags", "LInterchangeDesk$Row;", true)
  | 1 => ("InterchangeDesk$Parts", "firstElements", "LInterchangeDesk$Row;", true)
  | 2 => ("InterchangeDesk$Parts", "firstComponents", "LInterchangeDesk$Row;", true)
  | 3 => ("InterchangeDesk$Parts", "firstCharacters", "LInterchangeDesk$Row;", true)
  | _ => ("InterchangeDesk$Parts", "characters", "LInterchangeDesk$Row;", true)
def tyX2 : Nat → FieldType := fun k => match k with
  | 0 => .object "InterchangeDesk$Row"
  | 1 => .object "InterchangeDesk$Row"
  | 2 => .object "InterchangeDesk$Row"
  | 3 => .object "InterchangeDesk$Row"
  | _ => .object "InterchangeDesk$Row"
abbrev wsX20 : List Cond := u_ws RX2 TX2 5
theorem nmX2 : ∀ a, a < 5 → ∀ b, b < 5 → a ≠ b → (TX2 a).2.1 ≠ (TX2 b).2.1 := by decide +kernel
theorem tyX2_ok : ∀ k, k < 5 → parseFieldDescriptor (TX2 k).2.2.1 = some (tyX2 k) := by decide +kernel
abbrev cX2_init : ByteArray := prog_4_method_1_code
def yX2_init : MethodName := ⟨RX2, "<init>", "()V"⟩
abbrev cX2_empty : ByteArray := prog_4_method_2_code
def yX2_empty : MethodName := ⟨RX2, "empty", "()V"⟩
abbrev cX2_addSegment : ByteArray := prog_4_method_3_code
def yX2_addSegment : MethodName := ⟨RX2, "addSegment", "(I)V"⟩
abbrev cX2_addElement : ByteArray := prog_4_method_4_code
def yX2_addElement : MethodName := ⟨RX2, "addElement", "()V"⟩
abbrev cX2_addComponent : ByteArray := prog_4_method_5_code
def yX2_addComponent : MethodName := ⟨RX2, "addComponent", "()V"⟩
abbrev cX2_addCharacter : ByteArray := prog_4_method_6_code
def yX2_addCharacter : MethodName := ⟨RX2, "addCharacter", "(I)V"⟩
abbrev cX2_isFull : ByteArray := prog_4_method_7_code
def yX2_isFull : MethodName := ⟨RX2, "isFull", "()Z"⟩
abbrev cX2_finish : ByteArray := prog_4_method_8_code
def yX2_finish : MethodName := ⟨RX2, "finish", "()V"⟩
abbrev cX2_segmentCount : ByteArray := prog_4_method_9_code
def yX2_segmentCount : MethodName := ⟨RX2, "segmentCount", "()I"⟩
abbrev cX2_tagOf : ByteArray := prog_4_method_10_code
def yX2_tagOf : MethodName := ⟨RX2, "tagOf", "(I)I"⟩
abbrev cX2_firstElement : ByteArray := prog_4_method_11_code
def yX2_firstElement : MethodName := ⟨RX2, "firstElement", "(I)I"⟩
abbrev cX2_firstComponent : ByteArray := prog_4_method_12_code
def yX2_firstComponent : MethodName := ⟨RX2, "firstComponent", "(I)I"⟩
abbrev cX2_elementAt : ByteArray := prog_4_method_13_code
def yX2_elementAt : MethodName := ⟨RX2, "elementAt", "(II)I"⟩
abbrev cX2_componentAt : ByteArray := prog_4_method_14_code
def yX2_componentAt : MethodName := ⟨RX2, "componentAt", "(III)I"⟩
abbrev cX2_widthOf : ByteArray := prog_4_method_15_code
def yX2_widthOf : MethodName := ⟨RX2, "widthOf", "(I)I"⟩
abbrev cX2_characterOf : ByteArray := prog_4_method_16_code
def yX2_characterOf : MethodName := ⟨RX2, "characterOf", "(II)I"⟩
abbrev cX2_look : ByteArray := prog_4_method_17_code
def yX2_look : MethodName := ⟨RX2, "look", "(IIII)I"⟩
abbrev cX2_filledEnd : ByteArray := prog_4_method_18_code
def yX2_filledEnd : MethodName := ⟨RX2, "filledEnd", "(I)I"⟩
abbrev cX2_filledElementEnd : ByteArray := prog_4_method_19_code
def yX2_filledElementEnd : MethodName := ⟨RX2, "filledElementEnd", "(I)I"⟩
abbrev cX2_areSame : ByteArray := prog_4_method_20_code
def yX2_areSame : MethodName := ⟨RX2, "areSame", "(II)Z"⟩
abbrev cX2_isNumber : ByteArray := prog_4_method_21_code
def yX2_isNumber : MethodName := ⟨RX2, "isNumber", "(II)Z"⟩
def RX3 : String := "InterchangeDesk$Row"
def TX3 : u_T := fun k => match k with
  | 0 => ("InterchangeDesk$Row", "cells", "[I", true)
  | _ => ("InterchangeDesk$Row", "count", "I", false)
def tyX3 : Nat → FieldType := fun k => match k with
  | 0 => .array .int
  | _ => .int
abbrev wsX30 : List Cond := u_ws RX3 TX3 2
theorem nmX3 : ∀ a, a < 2 → ∀ b, b < 2 → a ≠ b → (TX3 a).2.1 ≠ (TX3 b).2.1 := by decide +kernel
theorem tyX3_ok : ∀ k, k < 2 → parseFieldDescriptor (TX3 k).2.2.1 = some (tyX3 k) := by decide +kernel
abbrev cX3_init : ByteArray := prog_5_method_1_code
def yX3_init : MethodName := ⟨RX3, "<init>", "(I)V"⟩
abbrev cX3_size : ByteArray := prog_5_method_2_code
def yX3_size : MethodName := ⟨RX3, "size", "()I"⟩
abbrev cX3_at : ByteArray := prog_5_method_3_code
def yX3_at : MethodName := ⟨RX3, "at", "(I)I"⟩
abbrev cX3_add : ByteArray := prog_5_method_4_code
def yX3_add : MethodName := ⟨RX3, "add", "(I)V"⟩
abbrev cX3_put : ByteArray := prog_5_method_5_code
def yX3_put : MethodName := ⟨RX3, "put", "(II)V"⟩
abbrev cX3_empty : ByteArray := prog_5_method_6_code
def yX3_empty : MethodName := ⟨RX3, "empty", "()V"⟩
def RX4 : String := "InterchangeDesk$Table"
def TX4 : u_T := fun k => match k with
  | 0 => ("InterchangeDesk$Table", "tags", "LInterchangeDesk$Row;", true)
  | 1 => ("InterchangeDesk$Table", "musts", "LInterchangeDesk$Row;", true)
  | 2 => ("InterchangeDesk$Table", "mosts", "LInterchangeDesk$Row;", true)
  | 3 => ("InterchangeDesk$Table", "owners", "LInterchangeDesk$Row;", true)
  | 4 => ("InterchangeDesk$Table", "openGroup", "I", false)
  | 5 => ("InterchangeDesk$Table", "depth", "I", false)
  | 6 => ("InterchangeDesk$Table", "had", "LInterchangeDesk$Row;", true)
  | 7 => ("InterchangeDesk$Table", "listGroup", "I", false)
  | _ => ("InterchangeDesk$Table", "item", "I", false)
def tyX4 : Nat → FieldType := fun k => match k with
  | 0 => .object "InterchangeDesk$Row"
  | 1 => .object "InterchangeDesk$Row"
  | 2 => .object "InterchangeDesk$Row"
  | 3 => .object "InterchangeDesk$Row"
  | 4 => .int
  | 5 => .int
  | 6 => .object "InterchangeDesk$Row"
  | 7 => .int
  | _ => .int
abbrev wsX40 : List Cond := u_ws RX4 TX4 9
theorem nmX4 : ∀ a, a < 9 → ∀ b, b < 9 → a ≠ b → (TX4 a).2.1 ≠ (TX4 b).2.1 := by decide +kernel
theorem tyX4_ok : ∀ k, k < 9 → parseFieldDescriptor (TX4 k).2.2.1 = some (tyX4 k) := by decide +kernel
abbrev cX4_init : ByteArray := prog_6_method_1_code
def yX4_init : MethodName := ⟨RX4, "<init>", "()V"⟩
abbrev cX4_isEmpty : ByteArray := prog_6_method_2_code
def yX4_isEmpty : MethodName := ⟨RX4, "isEmpty", "()Z"⟩
abbrev cX4_isFull : ByteArray := prog_6_method_3_code
def yX4_isFull : MethodName := ⟨RX4, "isFull", "()Z"⟩
abbrev cX4_isDeepest : ByteArray := prog_6_method_4_code
def yX4_isDeepest : MethodName := ⟨RX4, "isDeepest", "()Z"⟩
abbrev cX4_wantsTrigger : ByteArray := prog_6_method_5_code
def yX4_wantsTrigger : MethodName := ⟨RX4, "wantsTrigger", "()Z"⟩
abbrev cX4_addSegment : ByteArray := prog_6_method_6_code
def yX4_addSegment : MethodName := ⟨RX4, "addSegment", "(IZI)I"⟩
abbrev cX4_addGroup : ByteArray := prog_6_method_7_code
def yX4_addGroup : MethodName := ⟨RX4, "addGroup", "(ZI)I"⟩
abbrev cX4_closeList : ByteArray := prog_6_method_8_code
def yX4_closeList : MethodName := ⟨RX4, "closeList", "()Z"⟩
abbrev cX4_empty : ByteArray := prog_6_method_9_code
def yX4_empty : MethodName := ⟨RX4, "empty", "()V"⟩
abbrev cX4_startMatch : ByteArray := prog_6_method_10_code
def yX4_startMatch : MethodName := ⟨RX4, "startMatch", "()V"⟩
abbrev cX4_match : ByteArray := prog_6_method_11_code
def yX4_match : MethodName := ⟨RX4, "match", "(I)I"⟩
abbrev cX4_endMatch : ByteArray := prog_6_method_12_code
def yX4_endMatch : MethodName := ⟨RX4, "endMatch", "()I"⟩
abbrev cX4_standAtItem : ByteArray := prog_6_method_13_code
def yX4_standAtItem : MethodName := ⟨RX4, "standAtItem", "()Z"⟩
abbrev cX4_firstTag : ByteArray := prog_6_method_14_code
def yX4_firstTag : MethodName := ⟨RX4, "firstTag", "()I"⟩
abbrev cX4_isMissing : ByteArray := prog_6_method_15_code
def yX4_isMissing : MethodName := ⟨RX4, "isMissing", "()Z"⟩
abbrev cX4_takeItem : ByteArray := prog_6_method_16_code
def yX4_takeItem : MethodName := ⟨RX4, "takeItem", "()I"⟩
abbrev cX4_goOn : ByteArray := prog_6_method_17_code
def yX4_goOn : MethodName := ⟨RX4, "goOn", "()V"⟩
def RX5 : String := "InterchangeDesk$Text"
def TX5 : u_T := fun k => match k with
  | 0 => ("InterchangeDesk$Text", "characters", "LInterchangeDesk$Row;", true)
  | 1 => ("InterchangeDesk$Text", "place", "I", false)
  | 2 => ("InterchangeDesk$Text", "componentMark", "I", false)
  | 3 => ("InterchangeDesk$Text", "elementMark", "I", false)
  | 4 => ("InterchangeDesk$Text", "releaseMark", "I", false)
  | _ => ("InterchangeDesk$Text", "endMark", "I", false)
def tyX5 : Nat → FieldType := fun k => match k with
  | 0 => .object "InterchangeDesk$Row"
  | 1 => .int
  | 2 => .int
  | 3 => .int
  | 4 => .int
  | _ => .int
abbrev wsX50 : List Cond := u_ws RX5 TX5 6
theorem nmX5 : ∀ a, a < 6 → ∀ b, b < 6 → a ≠ b → (TX5 a).2.1 ≠ (TX5 b).2.1 := by decide +kernel
theorem tyX5_ok : ∀ k, k < 6 → parseFieldDescriptor (TX5 k).2.2.1 = some (tyX5 k) := by decide +kernel
abbrev cX5_init : ByteArray := prog_7_method_1_code
def yX5_init : MethodName := ⟨RX5, "<init>", "()V"⟩
abbrev cX5_size : ByteArray := prog_7_method_2_code
def yX5_size : MethodName := ⟨RX5, "size", "()I"⟩
abbrev cX5_add : ByteArray := prog_7_method_3_code
def yX5_add : MethodName := ⟨RX5, "add", "(I)V"⟩
abbrev cX5_empty : ByteArray := prog_7_method_4_code
def yX5_empty : MethodName := ⟨RX5, "empty", "()V"⟩
abbrev cX5_takeApart : ByteArray := prog_7_method_5_code
def yX5_takeApart : MethodName := ⟨RX5, "takeApart", "(LInterchangeDesk$Parts;)I"⟩
abbrev cX5_takeMarks : ByteArray := prog_7_method_6_code
def yX5_takeMarks : MethodName := ⟨RX5, "takeMarks", "()Z"⟩
abbrev cX5_takeChoice : ByteArray := prog_7_method_7_code
def yX5_takeChoice : MethodName := ⟨RX5, "takeChoice", "(I)Z"⟩
abbrev cX5_canBeMark : ByteArray := prog_7_method_8_code
def yX5_canBeMark : MethodName := ⟨RX5, "canBeMark", "(I)Z"⟩
abbrev cX5_takeSegment : ByteArray := prog_7_method_9_code
def yX5_takeSegment : MethodName := ⟨RX5, "takeSegment", "(LInterchangeDesk$Parts;)Z"⟩
abbrev cX5_takeElement : ByteArray := prog_7_method_10_code
def yX5_takeElement : MethodName := ⟨RX5, "takeElement", "(LInterchangeDesk$Parts;)V"⟩
abbrev cX5_takeComponent : ByteArray := prog_7_method_11_code
def yX5_takeComponent : MethodName := ⟨RX5, "takeComponent", "(LInterchangeDesk$Parts;)V"⟩
def RX6 : String := "InterchangeDesk"
def TX6 : u_T := fun k => match k with
  | 0 => ("InterchangeDesk", "text", "LInterchangeDesk$Text;", true)
  | 1 => ("InterchangeDesk", "tables", "[LInterchangeDesk$Table;", true)
  | 2 => ("InterchangeDesk", "printed", "LInterchangeDesk$Paper;", true)
  | 3 => ("InterchangeDesk", "reported", "LInterchangeDesk$Paper;", true)
  | 4 => ("InterchangeDesk", "kept", "LInterchangeDesk$Envelopes;", false)
  | 5 => ("InterchangeDesk", "fresh", "LInterchangeDesk$Envelopes;", false)
  | 6 => ("InterchangeDesk", "hasInterchange", "Z", false)
  | _ => ("InterchangeDesk", "faultPlace", "I", false)
def tyX6 : Nat → FieldType := fun k => match k with
  | 0 => .object "InterchangeDesk$Text"
  | 1 => .array (.object "InterchangeDesk$Table")
  | 2 => .object "InterchangeDesk$Paper"
  | 3 => .object "InterchangeDesk$Paper"
  | 4 => .object "InterchangeDesk$Envelopes"
  | 5 => .object "InterchangeDesk$Envelopes"
  | 6 => .boolean
  | _ => .int
abbrev wsX60 : List Cond := u_ws RX6 TX6 8
theorem nmX6 : ∀ a, a < 8 → ∀ b, b < 8 → a ≠ b → (TX6 a).2.1 ≠ (TX6 b).2.1 := by decide +kernel
theorem tyX6_ok : ∀ k, k < 8 → parseFieldDescriptor (TX6 k).2.2.1 = some (tyX6 k) := by decide +kernel
abbrev cX6_init : ByteArray := prog_1_method_1_code
def yX6_init : MethodName := ⟨RX6, "<init>", "()V"⟩
abbrev cX6_type : ByteArray := prog_1_method_2_code
def yX6_type : MethodName := ⟨RX6, "type", "(J)Z"⟩
abbrev cX6_wipe : ByteArray := prog_1_method_3_code
def yX6_wipe : MethodName := ⟨RX6, "wipe", "()V"⟩
abbrev cX6_length : ByteArray := prog_1_method_4_code
def yX6_length : MethodName := ⟨RX6, "length", "()I"⟩
abbrev cX6_slot : ByteArray := prog_1_method_5_code
def yX6_slot : MethodName := ⟨RX6, "slot", "(IIZI)I"⟩
abbrev cX6_open : ByteArray := prog_1_method_6_code
def yX6_open : MethodName := ⟨RX6, "open", "(IZI)I"⟩
abbrev cX6_close : ByteArray := prog_1_method_7_code
def yX6_close : MethodName := ⟨RX6, "close", "(I)Z"⟩
abbrev cX6_clear : ByteArray := prog_1_method_8_code
def yX6_clear : MethodName := ⟨RX6, "clear", "(I)Z"⟩
abbrev cX6_read : ByteArray := prog_1_method_9_code
def yX6_read : MethodName := ⟨RX6, "read", "()I"⟩
abbrev cX6_fault : ByteArray := prog_1_method_10_code
def yX6_fault : MethodName := ⟨RX6, "fault", "()I"⟩
abbrev cX6_interchange : ByteArray := prog_1_method_11_code
def yX6_interchange : MethodName := ⟨RX6, "interchange", "(I)I"⟩
abbrev cX6_message : ByteArray := prog_1_method_12_code
def yX6_message : MethodName := ⟨RX6, "message", "(II)I"⟩
abbrev cX6_group : ByteArray := prog_1_method_13_code
def yX6_group : MethodName := ⟨RX6, "group", "(I)I"⟩
abbrev cX6_segment : ByteArray := prog_1_method_14_code
def yX6_segment : MethodName := ⟨RX6, "segment", "(IIII)I"⟩
abbrev cX6_print : ByteArray := prog_1_method_15_code
def yX6_print : MethodName := ⟨RX6, "print", "(I)I"⟩
abbrev cX6_report : ByteArray := prog_1_method_16_code
def yX6_report : MethodName := ⟨RX6, "report", "(I)I"⟩
abbrev cX6_needInterchange : ByteArray := prog_1_method_17_code
def yX6_needInterchange : MethodName := ⟨RX6, "needInterchange", "()V"⟩
abbrev cX6_tableOf : ByteArray := prog_1_method_18_code
def yX6_tableOf : MethodName := ⟨RX6, "tableOf", "(I)LInterchangeDesk$Table;"⟩
abbrev cX6_byteOf : ByteArray := prog_1_method_19_code
def yX6_byteOf : MethodName := ⟨RX6, "byteOf", "(JI)I"⟩
abbrev cX6_isMost : ByteArray := prog_1_method_20_code
def yX6_isMost : MethodName := ⟨RX6, "isMost", "(I)Z"⟩
abbrev cX6_isTag : ByteArray := prog_1_method_21_code
def yX6_isTag : MethodName := ⟨RX6, "isTag", "(I)Z"⟩
abbrev cX6_isEnvelopeTag : ByteArray := prog_1_method_22_code
def yX6_isEnvelopeTag : MethodName := ⟨RX6, "isEnvelopeTag", "(I)Z"⟩
abbrev cX6_isCapital : ByteArray := prog_1_method_23_code
def yX6_isCapital : MethodName := ⟨RX6, "isCapital", "(I)Z"⟩
abbrev cX6_isDigit : ByteArray := prog_1_method_24_code
def yX6_isDigit : MethodName := ⟨RX6, "isDigit", "(I)Z"⟩
def RX7 : String := "InterchangeDeskModel"
def TX7 : u_T := fun k => match k with
  | 0 => ("InterchangeDeskModel", "thrown", "I", false)
  | 1 => ("InterchangeDeskModel", "length", "I", false)
  | 2 => ("InterchangeDeskModel", "text", "[I", false)
  | 3 => ("InterchangeDeskModel", "items", "[I", false)
  | 4 => ("InterchangeDeskModel", "tag", "[I", false)
  | 5 => ("InterchangeDeskModel", "must", "[Z", false)
  | 6 => ("InterchangeDeskModel", "most", "[I", false)
  | 7 => ("InterchangeDeskModel", "inside", "[I", false)
  | 8 => ("InterchangeDeskModel", "openOf", "[I", false)
  | 9 => ("InterchangeDeskModel", "componentMark", "I", false)
  | 10 => ("InterchangeDeskModel", "elementMark", "I", false)
  | 11 => ("InterchangeDeskModel", "releaseMark", "I", false)
  | 12 => ("InterchangeDeskModel", "endMark", "I", false)
  | 13 => ("InterchangeDeskModel", "fault", "I", false)
  | 14 => ("InterchangeDeskModel", "madeSegments", "I", false)
  | 15 => ("InterchangeDeskModel", "madeTag", "[I", false)
  | 16 => ("InterchangeDeskModel", "madeElement", "[I", false)
  | 17 => ("InterchangeDeskModel", "madeElements", "I", false)
  | 18 => ("InterchangeDeskModel", "madeComponent", "[I", false)
  | 19 => ("InterchangeDeskModel", "madeComponents", "I", false)
  | 20 => ("InterchangeDeskModel", "madeCharacter", "[I", false)
  | 21 => ("InterchangeDeskModel", "madeCharacters", "I", false)
  | 22 => ("InterchangeDeskModel", "made", "[I", false)
  | 23 => ("InterchangeDeskModel", "loaded", "Z", false)
  | 24 => ("InterchangeDeskModel", "segments", "I", false)
  | 25 => ("InterchangeDeskModel", "tagOf", "[I", false)
  | 26 => ("InterchangeDeskModel", "elementFrom", "[I", false)
  | 27 => ("InterchangeDeskModel", "elements", "I", false)
  | 28 => ("InterchangeDeskModel", "componentFrom", "[I", false)
  | 29 => ("InterchangeDeskModel", "components", "I", false)
  | 30 => ("InterchangeDeskModel", "characterFrom", "[I", false)
  | 31 => ("InterchangeDeskModel", "character", "[I", false)
  | 32 => ("InterchangeDeskModel", "code", "I", false)
  | 33 => ("InterchangeDeskModel", "messages", "I", false)
  | 34 => ("InterchangeDeskModel", "messageFrom", "[I", false)
  | 35 => ("InterchangeDeskModel", "messageTo", "[I", false)
  | 36 => ("InterchangeDeskModel", "messageGroup", "[I", false)
  | 37 => ("InterchangeDeskModel", "messageCode", "[I", false)
  | 38 => ("InterchangeDeskModel", "messagePlace", "[I", false)
  | 39 => ("InterchangeDeskModel", "groups", "I", false)
  | 40 => ("InterchangeDeskModel", "groupFrom", "[I", false)
  | 41 => ("InterchangeDeskModel", "groupTo", "[I", false)
  | 42 => ("InterchangeDeskModel", "groupCode", "[I", false)
  | 43 => ("InterchangeDeskModel", "stands", "I", false)
  | 44 => ("InterchangeDeskModel", "had", "I", false)
  | 45 => ("InterchangeDeskModel", "deep", "I", false)
  | 46 => ("InterchangeDeskModel", "groupAt", "[I", false)
  | 47 => ("InterchangeDeskModel", "groupHad", "[I", false)
  | 48 => ("InterchangeDeskModel", "printed", "I", false)
  | 49 => ("InterchangeDeskModel", "print", "[I", false)
  | 50 => ("InterchangeDeskModel", "reported", "I", false)
  | 51 => ("InterchangeDeskModel", "report", "[I", false)
  | _ => ("InterchangeDeskModel", "reports", "Z", false)
def tyX7 : Nat → FieldType := fun k => match k with
  | 0 => .int
  | 1 => .int
  | 2 => .array .int
  | 3 => .array .int
  | 4 => .array .int
  | 5 => .array .boolean
  | 6 => .array .int
  | 7 => .array .int
  | 8 => .array .int
  | 9 => .int
  | 10 => .int
  | 11 => .int
  | 12 => .int
  | 13 => .int
  | 14 => .int
  | 15 => .array .int
  | 16 => .array .int
  | 17 => .int
  | 18 => .array .int
  | 19 => .int
  | 20 => .array .int
  | 21 => .int
  | 22 => .array .int
  | 23 => .boolean
  | 24 => .int
  | 25 => .array .int
  | 26 => .array .int
  | 27 => .int
  | 28 => .array .int
  | 29 => .int
  | 30 => .array .int
  | 31 => .array .int
  | 32 => .int
  | 33 => .int
  | 34 => .array .int
  | 35 => .array .int
  | 36 => .array .int
  | 37 => .array .int
  | 38 => .array .int
  | 39 => .int
  | 40 => .array .int
  | 41 => .array .int
  | 42 => .array .int
  | 43 => .int
  | 44 => .int
  | 45 => .int
  | 46 => .array .int
  | 47 => .array .int
  | 48 => .int
  | 49 => .array .int
  | 50 => .int
  | 51 => .array .int
  | _ => .boolean
abbrev wsX70 : List Cond := u_ws RX7 TX7 53
theorem nmX7 : ∀ a, a < 53 → ∀ b, b < 53 → a ≠ b → (TX7 a).2.1 ≠ (TX7 b).2.1 := by decide +kernel
theorem tyX7_ok : ∀ k, k < 53 → parseFieldDescriptor (TX7 k).2.2.1 = some (tyX7 k) := by decide +kernel
abbrev cX7_init : ByteArray := prog_9_method_1_code
def yX7_init : MethodName := ⟨RX7, "<init>", "()V"⟩
abbrev cX7_thrown : ByteArray := prog_9_method_2_code
def yX7_thrown : MethodName := ⟨RX7, "thrown", "()I"⟩
abbrev cX7_type : ByteArray := prog_9_method_3_code
def yX7_type : MethodName := ⟨RX7, "type", "(J)Z"⟩
abbrev cX7_wipe : ByteArray := prog_9_method_4_code
def yX7_wipe : MethodName := ⟨RX7, "wipe", "()V"⟩
abbrev cX7_length : ByteArray := prog_9_method_5_code
def yX7_length : MethodName := ⟨RX7, "length", "()I"⟩
abbrev cX7_isType : ByteArray := prog_9_method_6_code
def yX7_isType : MethodName := ⟨RX7, "isType", "(I)Z"⟩
abbrev cX7_isLetter : ByteArray := prog_9_method_7_code
def yX7_isLetter : MethodName := ⟨RX7, "isLetter", "(I)Z"⟩
abbrev cX7_isTag : ByteArray := prog_9_method_8_code
def yX7_isTag : MethodName := ⟨RX7, "isTag", "(I)Z"⟩
abbrev cX7_isEnvelope : ByteArray := prog_9_method_9_code
def yX7_isEnvelope : MethodName := ⟨RX7, "isEnvelope", "(I)Z"⟩
abbrev cX7_following : ByteArray := prog_9_method_10_code
def yX7_following : MethodName := ⟨RX7, "following", "(III)I"⟩
abbrev cX7_add : ByteArray := prog_9_method_11_code
def yX7_add : MethodName := ⟨RX7, "add", "(IIZI)I"⟩
abbrev cX7_isBare : ByteArray := prog_9_method_12_code
def yX7_isBare : MethodName := ⟨RX7, "isBare", "(I)Z"⟩
abbrev cX7_slot : ByteArray := prog_9_method_13_code
def yX7_slot : MethodName := ⟨RX7, "slot", "(IIZI)I"⟩
abbrev cX7_openGroups : ByteArray := prog_9_method_14_code
def yX7_openGroups : MethodName := ⟨RX7, "openGroups", "(I)I"⟩
abbrev cX7_open : ByteArray := prog_9_method_15_code
def yX7_open : MethodName := ⟨RX7, "open", "(IZI)I"⟩
abbrev cX7_close : ByteArray := prog_9_method_16_code
def yX7_close : MethodName := ⟨RX7, "close", "(I)Z"⟩
abbrev cX7_clear : ByteArray := prog_9_method_17_code
def yX7_clear : MethodName := ⟨RX7, "clear", "(I)Z"⟩
abbrev cX7_canMark : ByteArray := prog_9_method_18_code
def yX7_canMark : MethodName := ⟨RX7, "canMark", "(I)Z"⟩
abbrev cX7_marks : ByteArray := prog_9_method_19_code
def yX7_marks : MethodName := ⟨RX7, "marks", "()I"⟩
abbrev cX7_beginComponent : ByteArray := prog_9_method_20_code
def yX7_beginComponent : MethodName := ⟨RX7, "beginComponent", "()V"⟩
abbrev cX7_beginElement : ByteArray := prog_9_method_21_code
def yX7_beginElement : MethodName := ⟨RX7, "beginElement", "()V"⟩
abbrev cX7_put : ByteArray := prog_9_method_22_code
def yX7_put : MethodName := ⟨RX7, "put", "(I)V"⟩
abbrev cX7_next : ByteArray := prog_9_method_23_code
def yX7_next : MethodName := ⟨RX7, "next", "(II)I"⟩
abbrev cX7_scans : ByteArray := prog_9_method_24_code
def yX7_scans : MethodName := ⟨RX7, "scans", "()Z"⟩
abbrev cX7_wraps : ByteArray := prog_9_method_25_code
def yX7_wraps : MethodName := ⟨RX7, "wraps", "()Z"⟩
abbrev cX7_take : ByteArray := prog_9_method_26_code
def yX7_take : MethodName := ⟨RX7, "take", "()V"⟩
abbrev cX7_component : ByteArray := prog_9_method_27_code
def yX7_component : MethodName := ⟨RX7, "component", "(II)I"⟩
abbrev cX7_sizeOf : ByteArray := prog_9_method_28_code
def yX7_sizeOf : MethodName := ⟨RX7, "sizeOf", "(I)I"⟩
abbrev cX7_same : ByteArray := prog_9_method_29_code
def yX7_same : MethodName := ⟨RX7, "same", "(II)Z"⟩
abbrev cX7_isNumber : ByteArray := prog_9_method_30_code
def yX7_isNumber : MethodName := ⟨RX7, "isNumber", "(II)Z"⟩
abbrev cX7_check : ByteArray := prog_9_method_31_code
def yX7_check : MethodName := ⟨RX7, "check", "(IIII)I"⟩
abbrev cX7_begins : ByteArray := prog_9_method_32_code
def yX7_begins : MethodName := ⟨RX7, "begins", "(II)I"⟩
abbrev cX7_goOn : ByteArray := prog_9_method_33_code
def yX7_goOn : MethodName := ⟨RX7, "goOn", "(I)V"⟩
abbrev cX7_comes : ByteArray := prog_9_method_34_code
def yX7_comes : MethodName := ⟨RX7, "comes", "(II)I"⟩
abbrev cX7_lacks : ByteArray := prog_9_method_35_code
def yX7_lacks : MethodName := ⟨RX7, "lacks", "(I)Z"⟩
abbrev cX7_typeOf : ByteArray := prog_9_method_36_code
def yX7_typeOf : MethodName := ⟨RX7, "typeOf", "(I)I"⟩
abbrev cX7_judge : ByteArray := prog_9_method_37_code
def yX7_judge : MethodName := ⟨RX7, "judge", "(I)V"⟩
abbrev cX7_read : ByteArray := prog_9_method_38_code
def yX7_read : MethodName := ⟨RX7, "read", "()I"⟩
abbrev cX7_fault : ByteArray := prog_9_method_39_code
def yX7_fault : MethodName := ⟨RX7, "fault", "()I"⟩
abbrev cX7_write : ByteArray := prog_9_method_40_code
def yX7_write : MethodName := ⟨RX7, "write", "(I)V"⟩
abbrev cX7_writeComponent : ByteArray := prog_9_method_41_code
def yX7_writeComponent : MethodName := ⟨RX7, "writeComponent", "(I)V"⟩
abbrev cX7_writeNumber : ByteArray := prog_9_method_42_code
def yX7_writeNumber : MethodName := ⟨RX7, "writeNumber", "(I)V"⟩
abbrev cX7_writeTag : ByteArray := prog_9_method_43_code
def yX7_writeTag : MethodName := ⟨RX7, "writeTag", "(I)V"⟩
abbrev cX7_kept : ByteArray := prog_9_method_44_code
def yX7_kept : MethodName := ⟨RX7, "kept", "(I)I"⟩
abbrev cX7_writePrint : ByteArray := prog_9_method_45_code
def yX7_writePrint : MethodName := ⟨RX7, "writePrint", "()V"⟩
abbrev cX7_writeLine : ByteArray := prog_9_method_46_code
def yX7_writeLine : MethodName := ⟨RX7, "writeLine", "(IIII)V"⟩
abbrev cX7_writeReport : ByteArray := prog_9_method_47_code
def yX7_writeReport : MethodName := ⟨RX7, "writeReport", "()V"⟩
abbrev cX7_interchange : ByteArray := prog_9_method_48_code
def yX7_interchange : MethodName := ⟨RX7, "interchange", "(I)I"⟩
abbrev cX7_message : ByteArray := prog_9_method_49_code
def yX7_message : MethodName := ⟨RX7, "message", "(II)I"⟩
abbrev cX7_group : ByteArray := prog_9_method_50_code
def yX7_group : MethodName := ⟨RX7, "group", "(I)I"⟩
abbrev cX7_segment : ByteArray := prog_9_method_51_code
def yX7_segment : MethodName := ⟨RX7, "segment", "(IIII)I"⟩
abbrev cX7_print : ByteArray := prog_9_method_52_code
def yX7_print : MethodName := ⟨RX7, "print", "(I)I"⟩
abbrev cX7_report : ByteArray := prog_9_method_53_code
def yX7_report : MethodName := ⟨RX7, "report", "(I)I"⟩
def RJ9 : String := "java/lang/Math"
def TJ9 : u_T := fun k => match k with
  | _ => ("", "", "", false)
def tyJ9 : Nat → FieldType := fun k => match k with
  | _ => .int
abbrev wsJ90 : List Cond := u_ws RJ9 TJ9 0
theorem nmJ9 : ∀ a, a < 0 → ∀ b, b < 0 → a ≠ b → (TJ9 a).2.1 ≠ (TJ9 b).2.1 := by decide +kernel
theorem tyJ9_ok : ∀ k, k < 0 → parseFieldDescriptor (TJ9 k).2.2.1 = some (tyJ9 k) := by decide +kernel
abbrev cJ9_max_7cf53 : ByteArray := prog_13_method_65_code
def yJ9_max_7cf53 : MethodName := ⟨RJ9, "max", "(II)I"⟩
def RJ0 : String := "java/lang/String"
def TJ0 : u_T := fun k => match k with
  | _ => ("", "", "", false)
def tyJ0 : Nat → FieldType := fun k => match k with
  | _ => .int
abbrev wsJ00 : List Cond := u_ws RJ0 TJ0 0
theorem nmJ0 : ∀ a, a < 0 → ∀ b, b < 0 → a ≠ b → (TJ0 a).2.1 ≠ (TJ0 b).2.1 := by decide +kernel
theorem tyJ0_ok : ∀ k, k < 0 → parseFieldDescriptor (TJ0 k).2.2.1 = some (tyJ0 k) := by decide +kernel
def RL : String := "InterchangeDeskLaw"
abbrev cL_slot : ByteArray := method_3_code
def yL_slot : MethodName := ⟨RL, "slot", "(LInterchangeDesk;IIZI[J)I"⟩
abbrev cL_open : ByteArray := method_4_code
def yL_open : MethodName := ⟨RL, "open", "(LInterchangeDesk;IZI[J)I"⟩
abbrev cL_close : ByteArray := method_5_code
def yL_close : MethodName := ⟨RL, "close", "(LInterchangeDesk;I[J)I"⟩
abbrev cL_clear : ByteArray := method_6_code
def yL_clear : MethodName := ⟨RL, "clear", "(LInterchangeDesk;I[J)I"⟩
abbrev cL_read : ByteArray := method_7_code
def yL_read : MethodName := ⟨RL, "read", "(LInterchangeDesk;[J)I"⟩
abbrev cL_interchange : ByteArray := method_8_code
def yL_interchange : MethodName := ⟨RL, "interchange", "(LInterchangeDesk;I[J)I"⟩
abbrev cL_message : ByteArray := method_9_code
def yL_message : MethodName := ⟨RL, "message", "(LInterchangeDesk;II[J)I"⟩
abbrev cL_group : ByteArray := method_10_code
def yL_group : MethodName := ⟨RL, "group", "(LInterchangeDesk;I[J)I"⟩
abbrev cL_segment : ByteArray := method_11_code
def yL_segment : MethodName := ⟨RL, "segment", "(LInterchangeDesk;IIII[J)I"⟩
abbrev cL_print : ByteArray := method_12_code
def yL_print : MethodName := ⟨RL, "print", "(LInterchangeDesk;I[J)I"⟩
abbrev cL_report : ByteArray := method_13_code
def yL_report : MethodName := ⟨RL, "report", "(LInterchangeDesk;I[J)I"⟩
abbrev cL_law : ByteArray := code
def yL_law : MethodName := ⟨RL, "law", "([I)Z"⟩
abbrev vwCl : List vw_C := [(RX0, TX0, 12), (RX1, TX1, 1), (RX2, TX2, 5), (RX3, TX3, 2), (RX4, TX4, 9), (RX5, TX5, 6), (RX6, TX6, 8), (RX7, TX7, 53)]
end
section
theorem dX0_init_0 : decode cX0_init 0 = .ok (.aload_n 0, 1) := by decide +kernel
theorem dX0_init_1 : decode cX0_init 1 = .ok (.invokespecial 3, 3) := by decide +kernel
theorem dX0_init_4 : decode cX0_init 4 = .ok (.aload_n 0, 1) := by decide +kernel
theorem dX0_init_5 : decode cX0_init 5 = .ok (.new 9, 3) := by decide +kernel
theorem dX0_init_8 : decode cX0_init 8 = .ok (.dup, 1) := by decide +kernel
theorem dX0_init_9 : decode cX0_init 9 = .ok (.invokespecial 11, 3) := by decide +kernel
theorem dX0_init_12 : decode cX0_init 12 = .ok (.putfield 12, 3) := by decide +kernel
theorem dX0_init_15 : decode cX0_init 15 = .ok (.aload_n 0, 1) := by decide +kernel
theorem dX0_init_16 : decode cX0_init 16 = .ok (.new 18, 3) := by decide +kernel
theorem dX0_init_19 : decode cX0_init 19 = .ok (.dup, 1) := by decide +kernel
theorem dX0_init_20 : decode cX0_init 20 = .ok (.bipush 19, 2) := by decide +kernel
theorem dX0_init_22 : decode cX0_init 22 = .ok (.invokespecial 20, 3) := by decide +kernel
theorem dX0_init_25 : decode cX0_init 25 = .ok (.putfield 23, 3) := by decide +kernel
theorem dX0_init_28 : decode cX0_init 28 = .ok (.aload_n 0, 1) := by decide +kernel
theorem dX0_init_29 : decode cX0_init 29 = .ok (.new 18, 3) := by decide +kernel
theorem dX0_init_32 : decode cX0_init 32 = .ok (.dup, 1) := by decide +kernel
theorem dX0_init_33 : decode cX0_init 33 = .ok (.bipush 19, 2) := by decide +kernel
theorem dX0_init_35 : decode cX0_init 35 = .ok (.invokespecial 20, 3) := by decide +kernel
theorem dX0_init_38 : decode cX0_init 38 = .ok (.putfield 27, 3) := by decide +kernel
theorem dX0_init_41 : decode cX0_init 41 = .ok (.aload_n 0, 1) := by decide +kernel
theorem dX0_init_42 : decode cX0_init 42 = .ok (.new 18, 3) := by decide +kernel
theorem dX0_init_45 : decode cX0_init 45 = .ok (.dup, 1) := by decide +kernel
theorem dX0_init_46 : decode cX0_init 46 = .ok (.bipush 19, 2) := by decide +kernel
theorem dX0_init_48 : decode cX0_init 48 = .ok (.invokespecial 20, 3) := by decide +kernel
theorem dX0_init_51 : decode cX0_init 51 = .ok (.putfield 30, 3) := by decide +kernel
theorem dX0_init_54 : decode cX0_init 54 = .ok (.aload_n 0, 1) := by decide +kernel
theorem dX0_init_55 : decode cX0_init 55 = .ok (.new 18, 3) := by decide +kernel
theorem dX0_init_58 : decode cX0_init 58 = .ok (.dup, 1) := by decide +kernel
theorem dX0_init_59 : decode cX0_init 59 = .ok (.bipush 19, 2) := by decide +kernel
theorem dX0_init_61 : decode cX0_init 61 = .ok (.invokespecial 20, 3) := by decide +kernel
theorem dX0_init_64 : decode cX0_init 64 = .ok (.putfield 33, 3) := by decide +kernel
theorem dX0_init_67 : decode cX0_init 67 = .ok (.aload_n 0, 1) := by decide +kernel
theorem dX0_init_68 : decode cX0_init 68 = .ok (.new 18, 3) := by decide +kernel
theorem dX0_init_71 : decode cX0_init 71 = .ok (.dup, 1) := by decide +kernel
theorem dX0_init_72 : decode cX0_init 72 = .ok (.bipush 19, 2) := by decide +kernel
theorem dX0_init_74 : decode cX0_init 74 = .ok (.invokespecial 20, 3) := by decide +kernel
theorem dX0_init_77 : decode cX0_init 77 = .ok (.putfield 36, 3) := by decide +kernel
theorem dX0_init_80 : decode cX0_init 80 = .ok (.aload_n 0, 1) := by decide +kernel
theorem dX0_init_81 : decode cX0_init 81 = .ok (.new 18, 3) := by decide +kernel
theorem dX0_init_84 : decode cX0_init 84 = .ok (.dup, 1) := by decide +kernel
theorem dX0_init_85 : decode cX0_init 85 = .ok (.bipush 9, 2) := by decide +kernel
theorem dX0_init_87 : decode cX0_init 87 = .ok (.invokespecial 20, 3) := by decide +kernel
theorem dX0_init_90 : decode cX0_init 90 = .ok (.putfield 39, 3) := by decide +kernel
theorem dX0_init_93 : decode cX0_init 93 = .ok (.aload_n 0, 1) := by decide +kernel
theorem dX0_init_94 : decode cX0_init 94 = .ok (.new 18, 3) := by decide +kernel
theorem dX0_init_97 : decode cX0_init 97 = .ok (.dup, 1) := by decide +kernel
theorem dX0_init_98 : decode cX0_init 98 = .ok (.bipush 9, 2) := by decide +kernel
theorem dX0_init_100 : decode cX0_init 100 = .ok (.invokespecial 20, 3) := by decide +kernel
theorem dX0_init_103 : decode cX0_init 103 = .ok (.putfield 42, 3) := by decide +kernel
theorem dX0_init_106 : decode cX0_init 106 = .ok (.aload_n 0, 1) := by decide +kernel
theorem dX0_init_107 : decode cX0_init 107 = .ok (.new 18, 3) := by decide +kernel
theorem dX0_init_110 : decode cX0_init 110 = .ok (.dup, 1) := by decide +kernel
theorem dX0_init_111 : decode cX0_init 111 = .ok (.bipush 9, 2) := by decide +kernel
theorem dX0_init_113 : decode cX0_init 113 = .ok (.invokespecial 20, 3) := by decide +kernel
theorem dX0_init_116 : decode cX0_init 116 = .ok (.putfield 45, 3) := by decide +kernel
theorem dX0_init_119 : decode cX0_init 119 = .ok (.aload_n 0, 1) := by decide +kernel
theorem dX0_init_120 : decode cX0_init 120 = .ok (.new 18, 3) := by decide +kernel
theorem dX0_init_123 : decode cX0_init 123 = .ok (.dup, 1) := by decide +kernel
theorem dX0_init_124 : decode cX0_init 124 = .ok (.bipush 9, 2) := by decide +kernel
theorem dX0_init_126 : decode cX0_init 126 = .ok (.invokespecial 20, 3) := by decide +kernel
theorem dX0_init_129 : decode cX0_init 129 = .ok (.putfield 48, 3) := by decide +kernel
theorem dX0_init_132 : decode cX0_init 132 = .ok (.aload_n 0, 1) := by decide +kernel
theorem dX0_init_133 : decode cX0_init 133 = .ok (.iconst 0, 1) := by decide +kernel
theorem dX0_init_134 : decode cX0_init 134 = .ok (.putfield 51, 3) := by decide +kernel
theorem dX0_init_137 : decode cX0_init 137 = .ok (.aload_n 0, 1) := by decide +kernel
theorem dX0_init_138 : decode cX0_init 138 = .ok (.iconst 0, 1) := by decide +kernel
theorem dX0_init_139 : decode cX0_init 139 = .ok (.putfield 55, 3) := by decide +kernel
theorem dX0_init_142 : decode cX0_init 142 = .ok (.return_, 1) := by decide +kernel
theorem dX0_fit_0 : decode cX0_fit 0 = .ok (.aload_n 0, 1) := by decide +kernel
theorem dX0_fit_1 : decode cX0_fit 1 = .ok (.invokevirtual 58, 3) := by decide +kernel
theorem dX0_fit_4 : decode cX0_fit 4 = .ok (.aload_n 0, 1) := by decide +kernel
theorem dX0_fit_5 : decode cX0_fit 5 = .ok (.getfield 12, 3) := by decide +kernel
theorem dX0_fit_8 : decode cX0_fit 8 = .ok (.invokevirtual 61, 3) := by decide +kernel
theorem dX0_fit_11 : decode cX0_fit 11 = .ok (.iconst 1, 1) := by decide +kernel
theorem dX0_fit_12 : decode cX0_fit 12 = .ok (.isub, 1) := by decide +kernel
theorem dX0_fit_13 : decode cX0_fit 13 = .ok (.istore_n 1, 1) := by decide +kernel
theorem dX0_fit_14 : decode cX0_fit 14 = .ok (.aload_n 0, 1) := by decide +kernel
theorem dX0_fit_15 : decode cX0_fit 15 = .ok (.getfield 12, 3) := by decide +kernel
theorem dX0_fit_18 : decode cX0_fit 18 = .ok (.iconst 0, 1) := by decide +kernel
theorem dX0_fit_19 : decode cX0_fit 19 = .ok (.invokevirtual 65, 3) := by decide +kernel
theorem dX0_fit_22 : decode cX0_fit 22 = .ok (.ldc 69, 2) := by decide +kernel
theorem dX0_fit_24 : decode cX0_fit 24 = .ok (.if_icmp .ne 16, 3) := by decide +kernel
theorem dX0_fit_27 : decode cX0_fit 27 = .ok (.aload_n 0, 1) := by decide +kernel
theorem dX0_fit_28 : decode cX0_fit 28 = .ok (.getfield 12, 3) := by decide +kernel
theorem dX0_fit_31 : decode cX0_fit 31 = .ok (.iload_n 1, 1) := by decide +kernel
theorem dX0_fit_32 : decode cX0_fit 32 = .ok (.invokevirtual 65, 3) := by decide +kernel
theorem dX0_fit_35 : decode cX0_fit 35 = .ok (.ldc 70, 2) := by decide +kernel
theorem dX0_fit_37 : decode cX0_fit 37 = .ok (.if_icmp .eq 5, 3) := by decide +kernel
theorem dX0_fit_40 : decode cX0_fit 40 = .ok (.iconst 0, 1) := by decide +kernel
theorem dX0_fit_41 : decode cX0_fit 41 = .ok (.ireturn, 1) := by decide +kernel
theorem dX0_fit_42 : decode cX0_fit 42 = .ok (.aload_n 0, 1) := by decide +kernel
theorem dX0_fit_43 : decode cX0_fit 43 = .ok (.getfield 12, 3) := by decide +kernel
theorem dX0_fit_46 : decode cX0_fit 46 = .ok (.iconst 1, 1) := by decide +kernel
theorem dX0_fit_47 : decode cX0_fit 47 = .ok (.invokevirtual 65, 3) := by decide +kernel
theorem dX0_fit_50 : decode cX0_fit 50 = .ok (.ldc 71, 2) := by decide +kernel
theorem dX0_fit_52 : decode cX0_fit 52 = .ok (.if_icmp .ne 7, 3) := by decide +kernel
theorem dX0_fit_55 : decode cX0_fit 55 = .ok (.iconst 1, 1) := by decide +kernel
theorem dX0_fit_56 : decode cX0_fit 56 = .ok (.goto 4, 3) := by decide +kernel
theorem dX0_fit_59 : decode cX0_fit 59 = .ok (.iconst 0, 1) := by decide +kernel
theorem dX0_fit_60 : decode cX0_fit 60 = .ok (.istore_n 2, 1) := by decide +kernel
theorem dX0_fit_61 : decode cX0_fit 61 = .ok (.aload_n 0, 1) := by decide +kernel
theorem dX0_fit_62 : decode cX0_fit 62 = .ok (.iconst 1, 1) := by decide +kernel
theorem dX0_fit_63 : decode cX0_fit 63 = .ok (.putfield 55, 3) := by decide +kernel
theorem dX0_fit_66 : decode cX0_fit 66 = .ok (.iconst 0, 1) := by decide +kernel
theorem dX0_fit_67 : decode cX0_fit 67 = .ok (.istore_n 3, 1) := by decide +kernel
theorem dX0_fit_68 : decode cX0_fit 68 = .ok (.iload_n 3, 1) := by decide +kernel
theorem dX0_fit_69 : decode cX0_fit 69 = .ok (.bipush 19, 2) := by decide +kernel
theorem dX0_fit_71 : decode cX0_fit 71 = .ok (.if_icmp .ge 41, 3) := by decide +kernel
theorem dX0_fit_74 : decode cX0_fit 74 = .ok (.aload_n 0, 1) := by decide +kernel
theorem dX0_fit_75 : decode cX0_fit 75 = .ok (.getfield 55, 3) := by decide +kernel
theorem dX0_fit_78 : decode cX0_fit 78 = .ok (.iload_n 1, 1) := by decide +kernel
theorem dX0_fit_79 : decode cX0_fit 79 = .ok (.if_icmp .ge 33, 3) := by decide +kernel
theorem dX0_fit_82 : decode cX0_fit 82 = .ok (.iload_n 2, 1) := by decide +kernel
theorem dX0_fit_83 : decode cX0_fit 83 = .ok (.ifCond .eq 13, 3) := by decide +kernel
theorem dX0_fit_86 : decode cX0_fit 86 = .ok (.aload_n 0, 1) := by decide +kernel
theorem dX0_fit_87 : decode cX0_fit 87 = .ok (.invokevirtual 72, 3) := by decide +kernel
theorem dX0_fit_90 : decode cX0_fit 90 = .ok (.ifCond .eq 14, 3) := by decide +kernel
theorem dX0_fit_93 : decode cX0_fit 93 = .ok (.goto 13, 3) := by decide +kernel
theorem dX0_fit_96 : decode cX0_fit 96 = .ok (.aload_n 0, 1) := by decide +kernel
theorem dX0_fit_97 : decode cX0_fit 97 = .ok (.iconst (-1), 1) := by decide +kernel
theorem dX0_fit_98 : decode cX0_fit 98 = .ok (.invokevirtual 76, 3) := by decide +kernel
theorem dX0_fit_101 : decode cX0_fit 101 = .ok (.ifCond .ne 5, 3) := by decide +kernel
theorem dX0_fit_104 : decode cX0_fit 104 = .ok (.iconst 0, 1) := by decide +kernel
theorem dX0_fit_105 : decode cX0_fit 105 = .ok (.ireturn, 1) := by decide +kernel
theorem dX0_fit_106 : decode cX0_fit 106 = .ok (.iinc 3 1, 3) := by decide +kernel
theorem dX0_fit_109 : decode cX0_fit 109 = .ok (.goto (-41), 3) := by decide +kernel
theorem dX0_fit_112 : decode cX0_fit 112 = .ok (.aload_n 0, 1) := by decide +kernel
theorem dX0_fit_113 : decode cX0_fit 113 = .ok (.getfield 55, 3) := by decide +kernel
theorem dX0_fit_116 : decode cX0_fit 116 = .ok (.iload_n 1, 1) := by decide +kernel
theorem dX0_fit_117 : decode cX0_fit 117 = .ok (.if_icmp .ne 17, 3) := by decide +kernel
theorem dX0_fit_120 : decode cX0_fit 120 = .ok (.aload_n 0, 1) := by decide +kernel
theorem dX0_fit_121 : decode cX0_fit 121 = .ok (.getfield 23, 3) := by decide +kernel
theorem dX0_fit_124 : decode cX0_fit 124 = .ok (.invokevirtual 80, 3) := by decide +kernel
theorem dX0_fit_127 : decode cX0_fit 127 = .ok (.ifCond .le 7, 3) := by decide +kernel
theorem dX0_fit_130 : decode cX0_fit 130 = .ok (.iconst 1, 1) := by decide +kernel
theorem dX0_fit_131 : decode cX0_fit 131 = .ok (.goto 4, 3) := by decide +kernel
theorem dX0_fit_134 : decode cX0_fit 134 = .ok (.iconst 0, 1) := by decide +kernel
theorem dX0_fit_135 : decode cX0_fit 135 = .ok (.ireturn, 1) := by decide +kernel
theorem dX0_empty_0 : decode cX0_empty 0 = .ok (.aload_n 0, 1) := by decide +kernel
theorem dX0_empty_1 : decode cX0_empty 1 = .ok (.getfield 23, 3) := by decide +kernel
theorem dX0_empty_4 : decode cX0_empty 4 = .ok (.invokevirtual 83, 3) := by decide +kernel
theorem dX0_empty_7 : decode cX0_empty 7 = .ok (.aload_n 0, 1) := by decide +kernel
theorem dX0_empty_8 : decode cX0_empty 8 = .ok (.getfield 27, 3) := by decide +kernel
theorem dX0_empty_11 : decode cX0_empty 11 = .ok (.invokevirtual 83, 3) := by decide +kernel
theorem dX0_empty_14 : decode cX0_empty 14 = .ok (.aload_n 0, 1) := by decide +kernel
theorem dX0_empty_15 : decode cX0_empty 15 = .ok (.getfield 30, 3) := by decide +kernel
theorem dX0_empty_18 : decode cX0_empty 18 = .ok (.invokevirtual 83, 3) := by decide +kernel
theorem dX0_empty_21 : decode cX0_empty 21 = .ok (.aload_n 0, 1) := by decide +kernel
theorem dX0_empty_22 : decode cX0_empty 22 = .ok (.getfield 33, 3) := by decide +kernel
theorem dX0_empty_25 : decode cX0_empty 25 = .ok (.invokevirtual 83, 3) := by decide +kernel
theorem dX0_empty_28 : decode cX0_empty 28 = .ok (.aload_n 0, 1) := by decide +kernel
theorem dX0_empty_29 : decode cX0_empty 29 = .ok (.getfield 36, 3) := by decide +kernel
theorem dX0_empty_32 : decode cX0_empty 32 = .ok (.invokevirtual 83, 3) := by decide +kernel
theorem dX0_empty_35 : decode cX0_empty 35 = .ok (.aload_n 0, 1) := by decide +kernel
theorem dX0_empty_36 : decode cX0_empty 36 = .ok (.getfield 39, 3) := by decide +kernel
theorem dX0_empty_39 : decode cX0_empty 39 = .ok (.invokevirtual 83, 3) := by decide +kernel
theorem dX0_empty_42 : decode cX0_empty 42 = .ok (.aload_n 0, 1) := by decide +kernel
theorem dX0_empty_43 : decode cX0_empty 43 = .ok (.getfield 42, 3) := by decide +kernel
theorem dX0_empty_46 : decode cX0_empty 46 = .ok (.invokevirtual 83, 3) := by decide +kernel
theorem dX0_empty_49 : decode cX0_empty 49 = .ok (.aload_n 0, 1) := by decide +kernel
theorem dX0_empty_50 : decode cX0_empty 50 = .ok (.getfield 45, 3) := by decide +kernel
theorem dX0_empty_53 : decode cX0_empty 53 = .ok (.invokevirtual 83, 3) := by decide +kernel
theorem dX0_empty_56 : decode cX0_empty 56 = .ok (.aload_n 0, 1) := by decide +kernel
theorem dX0_empty_57 : decode cX0_empty 57 = .ok (.getfield 48, 3) := by decide +kernel
theorem dX0_empty_60 : decode cX0_empty 60 = .ok (.invokevirtual 83, 3) := by decide +kernel
theorem dX0_empty_63 : decode cX0_empty 63 = .ok (.return_, 1) := by decide +kernel
theorem dX0_takeGroup_0 : decode cX0_takeGroup 0 = .ok (.aload_n 0, 1) := by decide +kernel
theorem dX0_takeGroup_1 : decode cX0_takeGroup 1 = .ok (.getfield 12, 3) := by decide +kernel
theorem dX0_takeGroup_4 : decode cX0_takeGroup 4 = .ok (.aload_n 0, 1) := by decide +kernel
theorem dX0_takeGroup_5 : decode cX0_takeGroup 5 = .ok (.getfield 55, 3) := by decide +kernel
theorem dX0_takeGroup_8 : decode cX0_takeGroup 8 = .ok (.invokevirtual 65, 3) := by decide +kernel
theorem dX0_takeGroup_11 : decode cX0_takeGroup 11 = .ok (.ldc 71, 2) := by decide +kernel
theorem dX0_takeGroup_13 : decode cX0_takeGroup 13 = .ok (.if_icmp .eq 5, 3) := by decide +kernel
theorem dX0_takeGroup_16 : decode cX0_takeGroup 16 = .ok (.iconst 0, 1) := by decide +kernel
theorem dX0_takeGroup_17 : decode cX0_takeGroup 17 = .ok (.ireturn, 1) := by decide +kernel
theorem dX0_takeGroup_18 : decode cX0_takeGroup 18 = .ok (.aload_n 0, 1) := by decide +kernel
theorem dX0_takeGroup_19 : decode cX0_takeGroup 19 = .ok (.getfield 55, 3) := by decide +kernel
theorem dX0_takeGroup_22 : decode cX0_takeGroup 22 = .ok (.istore_n 1, 1) := by decide +kernel
theorem dX0_takeGroup_23 : decode cX0_takeGroup 23 = .ok (.aload_n 0, 1) := by decide +kernel
theorem dX0_takeGroup_24 : decode cX0_takeGroup 24 = .ok (.getfield 23, 3) := by decide +kernel
theorem dX0_takeGroup_27 : decode cX0_takeGroup 27 = .ok (.invokevirtual 80, 3) := by decide +kernel
theorem dX0_takeGroup_30 : decode cX0_takeGroup 30 = .ok (.istore_n 2, 1) := by decide +kernel
theorem dX0_takeGroup_31 : decode cX0_takeGroup 31 = .ok (.aload_n 0, 1) := by decide +kernel
theorem dX0_takeGroup_32 : decode cX0_takeGroup 32 = .ok (.dup, 1) := by decide +kernel
theorem dX0_takeGroup_33 : decode cX0_takeGroup 33 = .ok (.getfield 55, 3) := by decide +kernel
theorem dX0_takeGroup_36 : decode cX0_takeGroup 36 = .ok (.iconst 1, 1) := by decide +kernel
theorem dX0_takeGroup_37 : decode cX0_takeGroup 37 = .ok (.iadd, 1) := by decide +kernel
theorem dX0_takeGroup_38 : decode cX0_takeGroup 38 = .ok (.putfield 55, 3) := by decide +kernel
theorem dX0_takeGroup_41 : decode cX0_takeGroup 41 = .ok (.iconst 0, 1) := by decide +kernel
theorem dX0_takeGroup_42 : decode cX0_takeGroup 42 = .ok (.istore_n 3, 1) := by decide +kernel
theorem dX0_takeGroup_43 : decode cX0_takeGroup 43 = .ok (.iload_n 3, 1) := by decide +kernel
theorem dX0_takeGroup_44 : decode cX0_takeGroup 44 = .ok (.bipush 19, 2) := by decide +kernel
theorem dX0_takeGroup_46 : decode cX0_takeGroup 46 = .ok (.if_icmp .ge 41, 3) := by decide +kernel
theorem dX0_takeGroup_49 : decode cX0_takeGroup 49 = .ok (.aload_n 0, 1) := by decide +kernel
theorem dX0_takeGroup_50 : decode cX0_takeGroup 50 = .ok (.getfield 12, 3) := by decide +kernel
theorem dX0_takeGroup_53 : decode cX0_takeGroup 53 = .ok (.aload_n 0, 1) := by decide +kernel
theorem dX0_takeGroup_54 : decode cX0_takeGroup 54 = .ok (.getfield 55, 3) := by decide +kernel
theorem dX0_takeGroup_57 : decode cX0_takeGroup 57 = .ok (.invokevirtual 65, 3) := by decide +kernel
theorem dX0_takeGroup_60 : decode cX0_takeGroup 60 = .ok (.ldc 84, 2) := by decide +kernel
theorem dX0_takeGroup_62 : decode cX0_takeGroup 62 = .ok (.if_icmp .ne 25, 3) := by decide +kernel
theorem dX0_takeGroup_65 : decode cX0_takeGroup 65 = .ok (.aload_n 0, 1) := by decide +kernel
theorem dX0_takeGroup_66 : decode cX0_takeGroup 66 = .ok (.aload_n 0, 1) := by decide +kernel
theorem dX0_takeGroup_67 : decode cX0_takeGroup 67 = .ok (.getfield 39, 3) := by decide +kernel
theorem dX0_takeGroup_70 : decode cX0_takeGroup 70 = .ok (.invokevirtual 80, 3) := by decide +kernel
theorem dX0_takeGroup_73 : decode cX0_takeGroup 73 = .ok (.invokevirtual 76, 3) := by decide +kernel
theorem dX0_takeGroup_76 : decode cX0_takeGroup 76 = .ok (.ifCond .ne 5, 3) := by decide +kernel
theorem dX0_takeGroup_79 : decode cX0_takeGroup 79 = .ok (.iconst 0, 1) := by decide +kernel
theorem dX0_takeGroup_80 : decode cX0_takeGroup 80 = .ok (.ireturn, 1) := by decide +kernel
theorem dX0_takeGroup_81 : decode cX0_takeGroup 81 = .ok (.iinc 3 1, 3) := by decide +kernel
theorem dX0_takeGroup_84 : decode cX0_takeGroup 84 = .ok (.goto (-41), 3) := by decide +kernel
theorem dX0_takeGroup_87 : decode cX0_takeGroup 87 = .ok (.aload_n 0, 1) := by decide +kernel
theorem dX0_takeGroup_88 : decode cX0_takeGroup 88 = .ok (.getfield 12, 3) := by decide +kernel
theorem dX0_takeGroup_91 : decode cX0_takeGroup 91 = .ok (.aload_n 0, 1) := by decide +kernel
theorem dX0_takeGroup_92 : decode cX0_takeGroup 92 = .ok (.getfield 55, 3) := by decide +kernel
theorem dX0_takeGroup_95 : decode cX0_takeGroup 95 = .ok (.invokevirtual 65, 3) := by decide +kernel
theorem dX0_takeGroup_98 : decode cX0_takeGroup 98 = .ok (.ldc 85, 2) := by decide +kernel
theorem dX0_takeGroup_100 : decode cX0_takeGroup 100 = .ok (.if_icmp .ne 14, 3) := by decide +kernel
theorem dX0_takeGroup_103 : decode cX0_takeGroup 103 = .ok (.aload_n 0, 1) := by decide +kernel
theorem dX0_takeGroup_104 : decode cX0_takeGroup 104 = .ok (.getfield 23, 3) := by decide +kernel
theorem dX0_takeGroup_107 : decode cX0_takeGroup 107 = .ok (.invokevirtual 80, 3) := by decide +kernel
theorem dX0_takeGroup_110 : decode cX0_takeGroup 110 = .ok (.iload_n 2, 1) := by decide +kernel
theorem dX0_takeGroup_111 : decode cX0_takeGroup 111 = .ok (.if_icmp .ne 5, 3) := by decide +kernel
theorem dX0_takeGroup_114 : decode cX0_takeGroup 114 = .ok (.iconst 0, 1) := by decide +kernel
theorem dX0_takeGroup_115 : decode cX0_takeGroup 115 = .ok (.ireturn, 1) := by decide +kernel
theorem dX0_takeGroup_116 : decode cX0_takeGroup 116 = .ok (.aload_n 0, 1) := by decide +kernel
theorem dX0_takeGroup_117 : decode cX0_takeGroup 117 = .ok (.getfield 39, 3) := by decide +kernel
theorem dX0_takeGroup_120 : decode cX0_takeGroup 120 = .ok (.iload_n 1, 1) := by decide +kernel
theorem dX0_takeGroup_121 : decode cX0_takeGroup 121 = .ok (.invokevirtual 86, 3) := by decide +kernel
theorem dX0_takeGroup_124 : decode cX0_takeGroup 124 = .ok (.aload_n 0, 1) := by decide +kernel
theorem dX0_takeGroup_125 : decode cX0_takeGroup 125 = .ok (.getfield 42, 3) := by decide +kernel
theorem dX0_takeGroup_128 : decode cX0_takeGroup 128 = .ok (.aload_n 0, 1) := by decide +kernel
theorem dX0_takeGroup_129 : decode cX0_takeGroup 129 = .ok (.getfield 55, 3) := by decide +kernel
theorem dX0_takeGroup_132 : decode cX0_takeGroup 132 = .ok (.invokevirtual 86, 3) := by decide +kernel
theorem dX0_takeGroup_135 : decode cX0_takeGroup 135 = .ok (.aload_n 0, 1) := by decide +kernel
theorem dX0_takeGroup_136 : decode cX0_takeGroup 136 = .ok (.getfield 45, 3) := by decide +kernel
theorem dX0_takeGroup_139 : decode cX0_takeGroup 139 = .ok (.aload_n 0, 1) := by decide +kernel
theorem dX0_takeGroup_140 : decode cX0_takeGroup 140 = .ok (.getfield 23, 3) := by decide +kernel
theorem dX0_takeGroup_143 : decode cX0_takeGroup 143 = .ok (.invokevirtual 80, 3) := by decide +kernel
theorem dX0_takeGroup_146 : decode cX0_takeGroup 146 = .ok (.iload_n 2, 1) := by decide +kernel
theorem dX0_takeGroup_147 : decode cX0_takeGroup 147 = .ok (.isub, 1) := by decide +kernel
theorem dX0_takeGroup_148 : decode cX0_takeGroup 148 = .ok (.invokevirtual 86, 3) := by decide +kernel
theorem dX0_takeGroup_151 : decode cX0_takeGroup 151 = .ok (.aload_n 0, 1) := by decide +kernel
theorem dX0_takeGroup_152 : decode cX0_takeGroup 152 = .ok (.getfield 48, 3) := by decide +kernel
theorem dX0_takeGroup_155 : decode cX0_takeGroup 155 = .ok (.iconst 0, 1) := by decide +kernel
theorem dX0_takeGroup_156 : decode cX0_takeGroup 156 = .ok (.invokevirtual 86, 3) := by decide +kernel
theorem dX0_takeGroup_159 : decode cX0_takeGroup 159 = .ok (.aload_n 0, 1) := by decide +kernel
theorem dX0_takeGroup_160 : decode cX0_takeGroup 160 = .ok (.dup, 1) := by decide +kernel
theorem dX0_takeGroup_161 : decode cX0_takeGroup 161 = .ok (.getfield 55, 3) := by decide +kernel
theorem dX0_takeGroup_164 : decode cX0_takeGroup 164 = .ok (.iconst 1, 1) := by decide +kernel
theorem dX0_takeGroup_165 : decode cX0_takeGroup 165 = .ok (.iadd, 1) := by decide +kernel
theorem dX0_takeGroup_166 : decode cX0_takeGroup 166 = .ok (.putfield 55, 3) := by decide +kernel
theorem dX0_takeGroup_169 : decode cX0_takeGroup 169 = .ok (.iconst 1, 1) := by decide +kernel
theorem dX0_takeGroup_170 : decode cX0_takeGroup 170 = .ok (.ireturn, 1) := by decide +kernel
theorem dX0_takeMessage_0 : decode cX0_takeMessage 0 = .ok (.aload_n 0, 1) := by decide +kernel
theorem dX0_takeMessage_1 : decode cX0_takeMessage 1 = .ok (.getfield 12, 3) := by decide +kernel
theorem dX0_takeMessage_4 : decode cX0_takeMessage 4 = .ok (.aload_n 0, 1) := by decide +kernel
theorem dX0_takeMessage_5 : decode cX0_takeMessage 5 = .ok (.getfield 55, 3) := by decide +kernel
theorem dX0_takeMessage_8 : decode cX0_takeMessage 8 = .ok (.invokevirtual 65, 3) := by decide +kernel
theorem dX0_takeMessage_11 : decode cX0_takeMessage 11 = .ok (.ldc 84, 2) := by decide +kernel
theorem dX0_takeMessage_13 : decode cX0_takeMessage 13 = .ok (.if_icmp .eq 5, 3) := by decide +kernel
theorem dX0_takeMessage_16 : decode cX0_takeMessage 16 = .ok (.iconst 0, 1) := by decide +kernel
theorem dX0_takeMessage_17 : decode cX0_takeMessage 17 = .ok (.ireturn, 1) := by decide +kernel
theorem dX0_takeMessage_18 : decode cX0_takeMessage 18 = .ok (.aload_n 0, 1) := by decide +kernel
theorem dX0_takeMessage_19 : decode cX0_takeMessage 19 = .ok (.getfield 55, 3) := by decide +kernel
theorem dX0_takeMessage_22 : decode cX0_takeMessage 22 = .ok (.istore_n 2, 1) := by decide +kernel
theorem dX0_takeMessage_23 : decode cX0_takeMessage 23 = .ok (.aload_n 0, 1) := by decide +kernel
theorem dX0_takeMessage_24 : decode cX0_takeMessage 24 = .ok (.dup, 1) := by decide +kernel
theorem dX0_takeMessage_25 : decode cX0_takeMessage 25 = .ok (.getfield 55, 3) := by decide +kernel
theorem dX0_takeMessage_28 : decode cX0_takeMessage 28 = .ok (.iconst 1, 1) := by decide +kernel
theorem dX0_takeMessage_29 : decode cX0_takeMessage 29 = .ok (.iadd, 1) := by decide +kernel
theorem dX0_takeMessage_30 : decode cX0_takeMessage 30 = .ok (.putfield 55, 3) := by decide +kernel
theorem dX0_takeMessage_33 : decode cX0_takeMessage 33 = .ok (.iconst 0, 1) := by decide +kernel
theorem dX0_takeMessage_34 : decode cX0_takeMessage 34 = .ok (.istore_n 3, 1) := by decide +kernel
theorem dX0_takeMessage_35 : decode cX0_takeMessage 35 = .ok (.iload_n 3, 1) := by decide +kernel
theorem dX0_takeMessage_36 : decode cX0_takeMessage 36 = .ok (.bipush 40, 2) := by decide +kernel
theorem dX0_takeMessage_38 : decode cX0_takeMessage 38 = .ok (.if_icmp .ge 36, 3) := by decide +kernel
theorem dX0_takeMessage_41 : decode cX0_takeMessage 41 = .ok (.aload_n 0, 1) := by decide +kernel
theorem dX0_takeMessage_42 : decode cX0_takeMessage 42 = .ok (.getfield 12, 3) := by decide +kernel
theorem dX0_takeMessage_45 : decode cX0_takeMessage 45 = .ok (.aload_n 0, 1) := by decide +kernel
theorem dX0_takeMessage_46 : decode cX0_takeMessage 46 = .ok (.getfield 55, 3) := by decide +kernel
theorem dX0_takeMessage_49 : decode cX0_takeMessage 49 = .ok (.invokevirtual 65, 3) := by decide +kernel
theorem dX0_takeMessage_52 : decode cX0_takeMessage 52 = .ok (.invokestatic 89, 3) := by decide +kernel
theorem dX0_takeMessage_55 : decode cX0_takeMessage 55 = .ok (.ifCond .ne 19, 3) := by decide +kernel
theorem dX0_takeMessage_58 : decode cX0_takeMessage 58 = .ok (.aload_n 0, 1) := by decide +kernel
theorem dX0_takeMessage_59 : decode cX0_takeMessage 59 = .ok (.dup, 1) := by decide +kernel
theorem dX0_takeMessage_60 : decode cX0_takeMessage 60 = .ok (.getfield 55, 3) := by decide +kernel
theorem dX0_takeMessage_63 : decode cX0_takeMessage 63 = .ok (.iconst 1, 1) := by decide +kernel
theorem dX0_takeMessage_64 : decode cX0_takeMessage 64 = .ok (.iadd, 1) := by decide +kernel
theorem dX0_takeMessage_65 : decode cX0_takeMessage 65 = .ok (.putfield 55, 3) := by decide +kernel
theorem dX0_takeMessage_68 : decode cX0_takeMessage 68 = .ok (.iinc 3 1, 3) := by decide +kernel
theorem dX0_takeMessage_71 : decode cX0_takeMessage 71 = .ok (.goto (-36), 3) := by decide +kernel
theorem dX0_takeMessage_74 : decode cX0_takeMessage 74 = .ok (.aload_n 0, 1) := by decide +kernel
theorem dX0_takeMessage_75 : decode cX0_takeMessage 75 = .ok (.getfield 12, 3) := by decide +kernel
theorem dX0_takeMessage_78 : decode cX0_takeMessage 78 = .ok (.aload_n 0, 1) := by decide +kernel
theorem dX0_takeMessage_79 : decode cX0_takeMessage 79 = .ok (.getfield 55, 3) := by decide +kernel
theorem dX0_takeMessage_82 : decode cX0_takeMessage 82 = .ok (.invokevirtual 65, 3) := by decide +kernel
theorem dX0_takeMessage_85 : decode cX0_takeMessage 85 = .ok (.ldc 92, 2) := by decide +kernel
theorem dX0_takeMessage_87 : decode cX0_takeMessage 87 = .ok (.if_icmp .eq 5, 3) := by decide +kernel
theorem dX0_takeMessage_90 : decode cX0_takeMessage 90 = .ok (.iconst 0, 1) := by decide +kernel
theorem dX0_takeMessage_91 : decode cX0_takeMessage 91 = .ok (.ireturn, 1) := by decide +kernel
theorem dX0_takeMessage_92 : decode cX0_takeMessage 92 = .ok (.aload_n 0, 1) := by decide +kernel
theorem dX0_takeMessage_93 : decode cX0_takeMessage 93 = .ok (.getfield 23, 3) := by decide +kernel
theorem dX0_takeMessage_96 : decode cX0_takeMessage 96 = .ok (.iload_n 2, 1) := by decide +kernel
theorem dX0_takeMessage_97 : decode cX0_takeMessage 97 = .ok (.invokevirtual 86, 3) := by decide +kernel
theorem dX0_takeMessage_100 : decode cX0_takeMessage 100 = .ok (.aload_n 0, 1) := by decide +kernel
theorem dX0_takeMessage_101 : decode cX0_takeMessage 101 = .ok (.getfield 27, 3) := by decide +kernel
theorem dX0_takeMessage_104 : decode cX0_takeMessage 104 = .ok (.aload_n 0, 1) := by decide +kernel
theorem dX0_takeMessage_105 : decode cX0_takeMessage 105 = .ok (.getfield 55, 3) := by decide +kernel
theorem dX0_takeMessage_108 : decode cX0_takeMessage 108 = .ok (.invokevirtual 86, 3) := by decide +kernel
theorem dX0_takeMessage_111 : decode cX0_takeMessage 111 = .ok (.aload_n 0, 1) := by decide +kernel
theorem dX0_takeMessage_112 : decode cX0_takeMessage 112 = .ok (.getfield 30, 3) := by decide +kernel
theorem dX0_takeMessage_115 : decode cX0_takeMessage 115 = .ok (.iload_n 1, 1) := by decide +kernel
theorem dX0_takeMessage_116 : decode cX0_takeMessage 116 = .ok (.invokevirtual 86, 3) := by decide +kernel
theorem dX0_takeMessage_119 : decode cX0_takeMessage 119 = .ok (.aload_n 0, 1) := by decide +kernel
theorem dX0_takeMessage_120 : decode cX0_takeMessage 120 = .ok (.getfield 33, 3) := by decide +kernel
theorem dX0_takeMessage_123 : decode cX0_takeMessage 123 = .ok (.iconst 0, 1) := by decide +kernel
theorem dX0_takeMessage_124 : decode cX0_takeMessage 124 = .ok (.invokevirtual 86, 3) := by decide +kernel
theorem dX0_takeMessage_127 : decode cX0_takeMessage 127 = .ok (.aload_n 0, 1) := by decide +kernel
theorem dX0_takeMessage_128 : decode cX0_takeMessage 128 = .ok (.getfield 36, 3) := by decide +kernel
theorem dX0_takeMessage_131 : decode cX0_takeMessage 131 = .ok (.iconst (-1), 1) := by decide +kernel
theorem dX0_takeMessage_132 : decode cX0_takeMessage 132 = .ok (.invokevirtual 86, 3) := by decide +kernel
theorem dX0_takeMessage_135 : decode cX0_takeMessage 135 = .ok (.aload_n 0, 1) := by decide +kernel
theorem dX0_takeMessage_136 : decode cX0_takeMessage 136 = .ok (.dup, 1) := by decide +kernel
theorem dX0_takeMessage_137 : decode cX0_takeMessage 137 = .ok (.getfield 55, 3) := by decide +kernel
theorem dX0_takeMessage_140 : decode cX0_takeMessage 140 = .ok (.iconst 1, 1) := by decide +kernel
theorem dX0_takeMessage_141 : decode cX0_takeMessage 141 = .ok (.iadd, 1) := by decide +kernel
theorem dX0_takeMessage_142 : decode cX0_takeMessage 142 = .ok (.putfield 55, 3) := by decide +kernel
theorem dX0_takeMessage_145 : decode cX0_takeMessage 145 = .ok (.iconst 1, 1) := by decide +kernel
theorem dX0_takeMessage_146 : decode cX0_takeMessage 146 = .ok (.ireturn, 1) := by decide +kernel
theorem dX0_messageCount_0 : decode cX0_messageCount 0 = .ok (.aload_n 0, 1) := by decide +kernel
theorem dX0_messageCount_1 : decode cX0_messageCount 1 = .ok (.getfield 23, 3) := by decide +kernel
theorem dX0_messageCount_4 : decode cX0_messageCount 4 = .ok (.invokevirtual 80, 3) := by decide +kernel
theorem dX0_messageCount_7 : decode cX0_messageCount 7 = .ok (.ireturn, 1) := by decide +kernel
theorem dX0_groupCount_0 : decode cX0_groupCount 0 = .ok (.aload_n 0, 1) := by decide +kernel
theorem dX0_groupCount_1 : decode cX0_groupCount 1 = .ok (.getfield 39, 3) := by decide +kernel
theorem dX0_groupCount_4 : decode cX0_groupCount 4 = .ok (.invokevirtual 80, 3) := by decide +kernel
theorem dX0_groupCount_7 : decode cX0_groupCount 7 = .ok (.ireturn, 1) := by decide +kernel
theorem dX0_code_0 : decode cX0_code 0 = .ok (.aload_n 0, 1) := by decide +kernel
theorem dX0_code_1 : decode cX0_code 1 = .ok (.getfield 51, 3) := by decide +kernel
theorem dX0_code_4 : decode cX0_code 4 = .ok (.ireturn, 1) := by decide +kernel
theorem dX0_codeOfGroup_0 : decode cX0_codeOfGroup 0 = .ok (.aload_n 0, 1) := by decide +kernel
theorem dX0_codeOfGroup_1 : decode cX0_codeOfGroup 1 = .ok (.getfield 48, 3) := by decide +kernel
theorem dX0_codeOfGroup_4 : decode cX0_codeOfGroup 4 = .ok (.iload_n 1, 1) := by decide +kernel
theorem dX0_codeOfGroup_5 : decode cX0_codeOfGroup 5 = .ok (.invokevirtual 93, 3) := by decide +kernel
theorem dX0_codeOfGroup_8 : decode cX0_codeOfGroup 8 = .ok (.ireturn, 1) := by decide +kernel
theorem dX0_ofMessage_0 : decode cX0_ofMessage 0 = .ok (.iload_n 1, 1) := by decide +kernel
theorem dX0_ofMessage_1 : decode cX0_ofMessage 1 = .ok (.ifCond .lt 14, 3) := by decide +kernel
theorem dX0_ofMessage_4 : decode cX0_ofMessage 4 = .ok (.iload_n 1, 1) := by decide +kernel
theorem dX0_ofMessage_5 : decode cX0_ofMessage 5 = .ok (.aload_n 0, 1) := by decide +kernel
theorem dX0_ofMessage_6 : decode cX0_ofMessage 6 = .ok (.getfield 23, 3) := by decide +kernel
theorem dX0_ofMessage_9 : decode cX0_ofMessage 9 = .ok (.invokevirtual 80, 3) := by decide +kernel
theorem dX0_ofMessage_12 : decode cX0_ofMessage 12 = .ok (.if_icmp .lt 5, 3) := by decide +kernel
theorem dX0_ofMessage_15 : decode cX0_ofMessage 15 = .ok (.iconst (-1), 1) := by decide +kernel
theorem dX0_ofMessage_16 : decode cX0_ofMessage 16 = .ok (.ireturn, 1) := by decide +kernel
theorem dX0_ofMessage_17 : decode cX0_ofMessage 17 = .ok (.iload_n 2, 1) := by decide +kernel
theorem dX0_ofMessage_18 : decode cX0_ofMessage 18 = .ok (.tableswitch 77 0 3 #[30, 39, 48, 68], 30) := by decide +kernel
theorem dX0_ofMessage_48 : decode cX0_ofMessage 48 = .ok (.aload_n 0, 1) := by decide +kernel
theorem dX0_ofMessage_49 : decode cX0_ofMessage 49 = .ok (.getfield 33, 3) := by decide +kernel
theorem dX0_ofMessage_52 : decode cX0_ofMessage 52 = .ok (.iload_n 1, 1) := by decide +kernel
theorem dX0_ofMessage_53 : decode cX0_ofMessage 53 = .ok (.invokevirtual 93, 3) := by decide +kernel
theorem dX0_ofMessage_56 : decode cX0_ofMessage 56 = .ok (.ireturn, 1) := by decide +kernel
theorem dX0_ofMessage_57 : decode cX0_ofMessage 57 = .ok (.aload_n 0, 1) := by decide +kernel
theorem dX0_ofMessage_58 : decode cX0_ofMessage 58 = .ok (.getfield 36, 3) := by decide +kernel
theorem dX0_ofMessage_61 : decode cX0_ofMessage 61 = .ok (.iload_n 1, 1) := by decide +kernel
theorem dX0_ofMessage_62 : decode cX0_ofMessage 62 = .ok (.invokevirtual 93, 3) := by decide +kernel
theorem dX0_ofMessage_65 : decode cX0_ofMessage 65 = .ok (.ireturn, 1) := by decide +kernel
theorem dX0_ofMessage_66 : decode cX0_ofMessage 66 = .ok (.aload_n 0, 1) := by decide +kernel
theorem dX0_ofMessage_67 : decode cX0_ofMessage 67 = .ok (.getfield 27, 3) := by decide +kernel
theorem dX0_ofMessage_70 : decode cX0_ofMessage 70 = .ok (.iload_n 1, 1) := by decide +kernel
theorem dX0_ofMessage_71 : decode cX0_ofMessage 71 = .ok (.invokevirtual 93, 3) := by decide +kernel
theorem dX0_ofMessage_74 : decode cX0_ofMessage 74 = .ok (.aload_n 0, 1) := by decide +kernel
theorem dX0_ofMessage_75 : decode cX0_ofMessage 75 = .ok (.getfield 23, 3) := by decide +kernel
theorem dX0_ofMessage_78 : decode cX0_ofMessage 78 = .ok (.iload_n 1, 1) := by decide +kernel
theorem dX0_ofMessage_79 : decode cX0_ofMessage 79 = .ok (.invokevirtual 93, 3) := by decide +kernel
theorem dX0_ofMessage_82 : decode cX0_ofMessage 82 = .ok (.isub, 1) := by decide +kernel
theorem dX0_ofMessage_83 : decode cX0_ofMessage 83 = .ok (.iconst 1, 1) := by decide +kernel
theorem dX0_ofMessage_84 : decode cX0_ofMessage 84 = .ok (.iadd, 1) := by decide +kernel
theorem dX0_ofMessage_85 : decode cX0_ofMessage 85 = .ok (.ireturn, 1) := by decide +kernel
theorem dX0_ofMessage_86 : decode cX0_ofMessage 86 = .ok (.aload_n 0, 1) := by decide +kernel
theorem dX0_ofMessage_87 : decode cX0_ofMessage 87 = .ok (.getfield 30, 3) := by decide +kernel
theorem dX0_ofMessage_90 : decode cX0_ofMessage 90 = .ok (.iload_n 1, 1) := by decide +kernel
theorem dX0_ofMessage_91 : decode cX0_ofMessage 91 = .ok (.invokevirtual 93, 3) := by decide +kernel
theorem dX0_ofMessage_94 : decode cX0_ofMessage 94 = .ok (.ireturn, 1) := by decide +kernel
theorem dX0_ofMessage_95 : decode cX0_ofMessage 95 = .ok (.iconst (-1), 1) := by decide +kernel
theorem dX0_ofMessage_96 : decode cX0_ofMessage 96 = .ok (.ireturn, 1) := by decide +kernel
theorem dX0_reference_0 : decode cX0_reference 0 = .ok (.aload_n 0, 1) := by decide +kernel
theorem dX0_reference_1 : decode cX0_reference 1 = .ok (.getfield 12, 3) := by decide +kernel
theorem dX0_reference_4 : decode cX0_reference 4 = .ok (.iconst 0, 1) := by decide +kernel
theorem dX0_reference_5 : decode cX0_reference 5 = .ok (.iconst 2, 1) := by decide +kernel
theorem dX0_reference_6 : decode cX0_reference 6 = .ok (.iconst 0, 1) := by decide +kernel
theorem dX0_reference_7 : decode cX0_reference 7 = .ok (.invokevirtual 96, 3) := by decide +kernel
theorem dX0_reference_10 : decode cX0_reference 10 = .ok (.ireturn, 1) := by decide +kernel
theorem dX0_referenceOfGroup_0 : decode cX0_referenceOfGroup 0 = .ok (.aload_n 0, 1) := by decide +kernel
theorem dX0_referenceOfGroup_1 : decode cX0_referenceOfGroup 1 = .ok (.getfield 12, 3) := by decide +kernel
theorem dX0_referenceOfGroup_4 : decode cX0_referenceOfGroup 4 = .ok (.aload_n 0, 1) := by decide +kernel
theorem dX0_referenceOfGroup_5 : decode cX0_referenceOfGroup 5 = .ok (.getfield 39, 3) := by decide +kernel
theorem dX0_referenceOfGroup_8 : decode cX0_referenceOfGroup 8 = .ok (.iload_n 1, 1) := by decide +kernel
theorem dX0_referenceOfGroup_9 : decode cX0_referenceOfGroup 9 = .ok (.invokevirtual 93, 3) := by decide +kernel
theorem dX0_referenceOfGroup_12 : decode cX0_referenceOfGroup 12 = .ok (.iconst 0, 1) := by decide +kernel
theorem dX0_referenceOfGroup_13 : decode cX0_referenceOfGroup 13 = .ok (.iconst 0, 1) := by decide +kernel
theorem dX0_referenceOfGroup_14 : decode cX0_referenceOfGroup 14 = .ok (.invokevirtual 96, 3) := by decide +kernel
theorem dX0_referenceOfGroup_17 : decode cX0_referenceOfGroup 17 = .ok (.ireturn, 1) := by decide +kernel
theorem dX0_referenceOfMessage_0 : decode cX0_referenceOfMessage 0 = .ok (.aload_n 0, 1) := by decide +kernel
theorem dX0_referenceOfMessage_1 : decode cX0_referenceOfMessage 1 = .ok (.getfield 12, 3) := by decide +kernel
theorem dX0_referenceOfMessage_4 : decode cX0_referenceOfMessage 4 = .ok (.aload_n 0, 1) := by decide +kernel
theorem dX0_referenceOfMessage_5 : decode cX0_referenceOfMessage 5 = .ok (.getfield 23, 3) := by decide +kernel
theorem dX0_referenceOfMessage_8 : decode cX0_referenceOfMessage 8 = .ok (.iload_n 1, 1) := by decide +kernel
theorem dX0_referenceOfMessage_9 : decode cX0_referenceOfMessage 9 = .ok (.invokevirtual 93, 3) := by decide +kernel
theorem dX0_referenceOfMessage_12 : decode cX0_referenceOfMessage 12 = .ok (.iconst 0, 1) := by decide +kernel
theorem dX0_referenceOfMessage_13 : decode cX0_referenceOfMessage 13 = .ok (.iconst 0, 1) := by decide +kernel
theorem dX0_referenceOfMessage_14 : decode cX0_referenceOfMessage 14 = .ok (.invokevirtual 96, 3) := by decide +kernel
theorem dX0_referenceOfMessage_17 : decode cX0_referenceOfMessage 17 = .ok (.ireturn, 1) := by decide +kernel
theorem dX0_typeOf_0 : decode cX0_typeOf 0 = .ok (.aload_n 0, 1) := by decide +kernel
theorem dX0_typeOf_1 : decode cX0_typeOf 1 = .ok (.getfield 12, 3) := by decide +kernel
theorem dX0_typeOf_4 : decode cX0_typeOf 4 = .ok (.aload_n 0, 1) := by decide +kernel
theorem dX0_typeOf_5 : decode cX0_typeOf 5 = .ok (.getfield 23, 3) := by decide +kernel
theorem dX0_typeOf_8 : decode cX0_typeOf 8 = .ok (.iload_n 1, 1) := by decide +kernel
theorem dX0_typeOf_9 : decode cX0_typeOf 9 = .ok (.invokevirtual 93, 3) := by decide +kernel
theorem dX0_typeOf_12 : decode cX0_typeOf 12 = .ok (.iconst 1, 1) := by decide +kernel
theorem dX0_typeOf_13 : decode cX0_typeOf 13 = .ok (.iconst 0, 1) := by decide +kernel
theorem dX0_typeOf_14 : decode cX0_typeOf 14 = .ok (.invokevirtual 96, 3) := by decide +kernel
theorem dX0_typeOf_17 : decode cX0_typeOf 17 = .ok (.istore_n 2, 1) := by decide +kernel
theorem dX0_typeOf_18 : decode cX0_typeOf 18 = .ok (.aload_n 0, 1) := by decide +kernel
theorem dX0_typeOf_19 : decode cX0_typeOf 19 = .ok (.getfield 12, 3) := by decide +kernel
theorem dX0_typeOf_22 : decode cX0_typeOf 22 = .ok (.iload_n 2, 1) := by decide +kernel
theorem dX0_typeOf_23 : decode cX0_typeOf 23 = .ok (.iconst 0, 1) := by decide +kernel
theorem dX0_typeOf_24 : decode cX0_typeOf 24 = .ok (.invokevirtual 100, 3) := by decide +kernel
theorem dX0_typeOf_27 : decode cX0_typeOf 27 = .ok (.istore_n 3, 1) := by decide +kernel
theorem dX0_typeOf_28 : decode cX0_typeOf 28 = .ok (.aload_n 0, 1) := by decide +kernel
theorem dX0_typeOf_29 : decode cX0_typeOf 29 = .ok (.getfield 12, 3) := by decide +kernel
theorem dX0_typeOf_32 : decode cX0_typeOf 32 = .ok (.iload_n 2, 1) := by decide +kernel
theorem dX0_typeOf_33 : decode cX0_typeOf 33 = .ok (.invokevirtual 104, 3) := by decide +kernel
theorem dX0_typeOf_36 : decode cX0_typeOf 36 = .ok (.iconst 1, 1) := by decide +kernel
theorem dX0_typeOf_37 : decode cX0_typeOf 37 = .ok (.if_icmp .ne 17, 3) := by decide +kernel
theorem dX0_typeOf_40 : decode cX0_typeOf 40 = .ok (.iload_n 3, 1) := by decide +kernel
theorem dX0_typeOf_41 : decode cX0_typeOf 41 = .ok (.invokestatic 107, 3) := by decide +kernel
theorem dX0_typeOf_44 : decode cX0_typeOf 44 = .ok (.ifCond .eq 10, 3) := by decide +kernel
theorem dX0_typeOf_47 : decode cX0_typeOf 47 = .ok (.iload_n 3, 1) := by decide +kernel
theorem dX0_typeOf_48 : decode cX0_typeOf 48 = .ok (.bipush 48, 2) := by decide +kernel
theorem dX0_typeOf_50 : decode cX0_typeOf 50 = .ok (.isub, 1) := by decide +kernel
theorem dX0_typeOf_51 : decode cX0_typeOf 51 = .ok (.goto 4, 3) := by decide +kernel
theorem dX0_typeOf_54 : decode cX0_typeOf 54 = .ok (.iconst (-1), 1) := by decide +kernel
theorem dX0_typeOf_55 : decode cX0_typeOf 55 = .ok (.ireturn, 1) := by decide +kernel
theorem dX0_judgeEnds_0 : decode cX0_judgeEnds 0 = .ok (.aload_n 0, 1) := by decide +kernel
theorem dX0_judgeEnds_1 : decode cX0_judgeEnds 1 = .ok (.getfield 39, 3) := by decide +kernel
theorem dX0_judgeEnds_4 : decode cX0_judgeEnds 4 = .ok (.invokevirtual 80, 3) := by decide +kernel
theorem dX0_judgeEnds_7 : decode cX0_judgeEnds 7 = .ok (.ifCond .le 13, 3) := by decide +kernel
theorem dX0_judgeEnds_10 : decode cX0_judgeEnds 10 = .ok (.aload_n 0, 1) := by decide +kernel
theorem dX0_judgeEnds_11 : decode cX0_judgeEnds 11 = .ok (.getfield 39, 3) := by decide +kernel
theorem dX0_judgeEnds_14 : decode cX0_judgeEnds 14 = .ok (.invokevirtual 80, 3) := by decide +kernel
theorem dX0_judgeEnds_17 : decode cX0_judgeEnds 17 = .ok (.goto 10, 3) := by decide +kernel
theorem dX0_judgeEnds_20 : decode cX0_judgeEnds 20 = .ok (.aload_n 0, 1) := by decide +kernel
theorem dX0_judgeEnds_21 : decode cX0_judgeEnds 21 = .ok (.getfield 23, 3) := by decide +kernel
theorem dX0_judgeEnds_24 : decode cX0_judgeEnds 24 = .ok (.invokevirtual 80, 3) := by decide +kernel
theorem dX0_judgeEnds_27 : decode cX0_judgeEnds 27 = .ok (.istore_n 1, 1) := by decide +kernel
theorem dX0_judgeEnds_28 : decode cX0_judgeEnds 28 = .ok (.aload_n 0, 1) := by decide +kernel
theorem dX0_judgeEnds_29 : decode cX0_judgeEnds 29 = .ok (.aload_n 0, 1) := by decide +kernel
theorem dX0_judgeEnds_30 : decode cX0_judgeEnds 30 = .ok (.aload_n 0, 1) := by decide +kernel
theorem dX0_judgeEnds_31 : decode cX0_judgeEnds 31 = .ok (.invokevirtual 110, 3) := by decide +kernel
theorem dX0_judgeEnds_34 : decode cX0_judgeEnds 34 = .ok (.aload_n 0, 1) := by decide +kernel
theorem dX0_judgeEnds_35 : decode cX0_judgeEnds 35 = .ok (.getfield 12, 3) := by decide +kernel
theorem dX0_judgeEnds_38 : decode cX0_judgeEnds 38 = .ok (.invokevirtual 61, 3) := by decide +kernel
theorem dX0_judgeEnds_41 : decode cX0_judgeEnds 41 = .ok (.iconst 1, 1) := by decide +kernel
theorem dX0_judgeEnds_42 : decode cX0_judgeEnds 42 = .ok (.isub, 1) := by decide +kernel
theorem dX0_judgeEnds_43 : decode cX0_judgeEnds 43 = .ok (.iload_n 1, 1) := by decide +kernel
theorem dX0_judgeEnds_44 : decode cX0_judgeEnds 44 = .ok (.invokevirtual 113, 3) := by decide +kernel
theorem dX0_judgeEnds_47 : decode cX0_judgeEnds 47 = .ok (.putfield 51, 3) := by decide +kernel
theorem dX0_judgeEnds_50 : decode cX0_judgeEnds 50 = .ok (.iconst 0, 1) := by decide +kernel
theorem dX0_judgeEnds_51 : decode cX0_judgeEnds 51 = .ok (.istore_n 2, 1) := by decide +kernel
theorem dX0_judgeEnds_52 : decode cX0_judgeEnds 52 = .ok (.iload_n 2, 1) := by decide +kernel
theorem dX0_judgeEnds_53 : decode cX0_judgeEnds 53 = .ok (.aload_n 0, 1) := by decide +kernel
theorem dX0_judgeEnds_54 : decode cX0_judgeEnds 54 = .ok (.getfield 39, 3) := by decide +kernel
theorem dX0_judgeEnds_57 : decode cX0_judgeEnds 57 = .ok (.invokevirtual 80, 3) := by decide +kernel
theorem dX0_judgeEnds_60 : decode cX0_judgeEnds 60 = .ok (.if_icmp .ge 44, 3) := by decide +kernel
theorem dX0_judgeEnds_63 : decode cX0_judgeEnds 63 = .ok (.aload_n 0, 1) := by decide +kernel
theorem dX0_judgeEnds_64 : decode cX0_judgeEnds 64 = .ok (.aload_n 0, 1) := by decide +kernel
theorem dX0_judgeEnds_65 : decode cX0_judgeEnds 65 = .ok (.iload_n 2, 1) := by decide +kernel
theorem dX0_judgeEnds_66 : decode cX0_judgeEnds 66 = .ok (.invokevirtual 116, 3) := by decide +kernel
theorem dX0_judgeEnds_69 : decode cX0_judgeEnds 69 = .ok (.aload_n 0, 1) := by decide +kernel
theorem dX0_judgeEnds_70 : decode cX0_judgeEnds 70 = .ok (.getfield 42, 3) := by decide +kernel
theorem dX0_judgeEnds_73 : decode cX0_judgeEnds 73 = .ok (.iload_n 2, 1) := by decide +kernel
theorem dX0_judgeEnds_74 : decode cX0_judgeEnds 74 = .ok (.invokevirtual 93, 3) := by decide +kernel
theorem dX0_judgeEnds_77 : decode cX0_judgeEnds 77 = .ok (.aload_n 0, 1) := by decide +kernel
theorem dX0_judgeEnds_78 : decode cX0_judgeEnds 78 = .ok (.getfield 45, 3) := by decide +kernel
theorem dX0_judgeEnds_81 : decode cX0_judgeEnds 81 = .ok (.iload_n 2, 1) := by decide +kernel
theorem dX0_judgeEnds_82 : decode cX0_judgeEnds 82 = .ok (.invokevirtual 93, 3) := by decide +kernel
theorem dX0_judgeEnds_85 : decode cX0_judgeEnds 85 = .ok (.invokevirtual 113, 3) := by decide +kernel
theorem dX0_judgeEnds_88 : decode cX0_judgeEnds 88 = .ok (.istore_n 3, 1) := by decide +kernel
theorem dX0_judgeEnds_89 : decode cX0_judgeEnds 89 = .ok (.aload_n 0, 1) := by decide +kernel
theorem dX0_judgeEnds_90 : decode cX0_judgeEnds 90 = .ok (.getfield 48, 3) := by decide +kernel
theorem dX0_judgeEnds_93 : decode cX0_judgeEnds 93 = .ok (.iload_n 2, 1) := by decide +kernel
theorem dX0_judgeEnds_94 : decode cX0_judgeEnds 94 = .ok (.iload_n 3, 1) := by decide +kernel
theorem dX0_judgeEnds_95 : decode cX0_judgeEnds 95 = .ok (.invokevirtual 119, 3) := by decide +kernel
theorem dX0_judgeEnds_98 : decode cX0_judgeEnds 98 = .ok (.iinc 2 1, 3) := by decide +kernel
theorem dX0_judgeEnds_101 : decode cX0_judgeEnds 101 = .ok (.goto (-49), 3) := by decide +kernel
theorem dX0_judgeEnds_104 : decode cX0_judgeEnds 104 = .ok (.return_, 1) := by decide +kernel
theorem dX0_codeOfEnd_0 : decode cX0_codeOfEnd 0 = .ok (.aload_n 0, 1) := by decide +kernel
theorem dX0_codeOfEnd_1 : decode cX0_codeOfEnd 1 = .ok (.iload_n 1, 1) := by decide +kernel
theorem dX0_codeOfEnd_2 : decode cX0_codeOfEnd 2 = .ok (.iload_n 2, 1) := by decide +kernel
theorem dX0_codeOfEnd_3 : decode cX0_codeOfEnd 3 = .ok (.invokevirtual 123, 3) := by decide +kernel
theorem dX0_codeOfEnd_6 : decode cX0_codeOfEnd 6 = .ok (.ifCond .eq 7, 3) := by decide +kernel
theorem dX0_codeOfEnd_9 : decode cX0_codeOfEnd 9 = .ok (.iconst 0, 1) := by decide +kernel
theorem dX0_codeOfEnd_10 : decode cX0_codeOfEnd 10 = .ok (.goto 4, 3) := by decide +kernel
theorem dX0_codeOfEnd_13 : decode cX0_codeOfEnd 13 = .ok (.iconst 1, 1) := by decide +kernel
theorem dX0_codeOfEnd_14 : decode cX0_codeOfEnd 14 = .ok (.aload_n 0, 1) := by decide +kernel
theorem dX0_codeOfEnd_15 : decode cX0_codeOfEnd 15 = .ok (.iload_n 2, 1) := by decide +kernel
theorem dX0_codeOfEnd_16 : decode cX0_codeOfEnd 16 = .ok (.iload_n 3, 1) := by decide +kernel
theorem dX0_codeOfEnd_17 : decode cX0_codeOfEnd 17 = .ok (.invokevirtual 127, 3) := by decide +kernel
theorem dX0_codeOfEnd_20 : decode cX0_codeOfEnd 20 = .ok (.ifCond .eq 7, 3) := by decide +kernel
theorem dX0_codeOfEnd_23 : decode cX0_codeOfEnd 23 = .ok (.iconst 0, 1) := by decide +kernel
theorem dX0_codeOfEnd_24 : decode cX0_codeOfEnd 24 = .ok (.goto 4, 3) := by decide +kernel
theorem dX0_codeOfEnd_27 : decode cX0_codeOfEnd 27 = .ok (.iconst 2, 1) := by decide +kernel
theorem dX0_codeOfEnd_28 : decode cX0_codeOfEnd 28 = .ok (.iadd, 1) := by decide +kernel
theorem dX0_codeOfEnd_29 : decode cX0_codeOfEnd 29 = .ok (.ireturn, 1) := by decide +kernel
theorem dX0_isRightReference_0 : decode cX0_isRightReference 0 = .ok (.aload_n 0, 1) := by decide +kernel
theorem dX0_isRightReference_1 : decode cX0_isRightReference 1 = .ok (.getfield 12, 3) := by decide +kernel
theorem dX0_isRightReference_4 : decode cX0_isRightReference 4 = .ok (.iload_n 1, 1) := by decide +kernel
theorem dX0_isRightReference_5 : decode cX0_isRightReference 5 = .ok (.invokevirtual 104, 3) := by decide +kernel
theorem dX0_isRightReference_8 : decode cX0_isRightReference 8 = .ok (.ifCond .le 28, 3) := by decide +kernel
theorem dX0_isRightReference_11 : decode cX0_isRightReference 11 = .ok (.aload_n 0, 1) := by decide +kernel
theorem dX0_isRightReference_12 : decode cX0_isRightReference 12 = .ok (.getfield 12, 3) := by decide +kernel
theorem dX0_isRightReference_15 : decode cX0_isRightReference 15 = .ok (.iload_n 1, 1) := by decide +kernel
theorem dX0_isRightReference_16 : decode cX0_isRightReference 16 = .ok (.aload_n 0, 1) := by decide +kernel
theorem dX0_isRightReference_17 : decode cX0_isRightReference 17 = .ok (.getfield 12, 3) := by decide +kernel
theorem dX0_isRightReference_20 : decode cX0_isRightReference 20 = .ok (.iload_n 2, 1) := by decide +kernel
theorem dX0_isRightReference_21 : decode cX0_isRightReference 21 = .ok (.iconst 1, 1) := by decide +kernel
theorem dX0_isRightReference_22 : decode cX0_isRightReference 22 = .ok (.iconst 0, 1) := by decide +kernel
theorem dX0_isRightReference_23 : decode cX0_isRightReference 23 = .ok (.invokevirtual 96, 3) := by decide +kernel
theorem dX0_isRightReference_26 : decode cX0_isRightReference 26 = .ok (.invokevirtual 130, 3) := by decide +kernel
theorem dX0_isRightReference_29 : decode cX0_isRightReference 29 = .ok (.ifCond .eq 7, 3) := by decide +kernel
theorem dX0_isRightReference_32 : decode cX0_isRightReference 32 = .ok (.iconst 1, 1) := by decide +kernel
theorem dX0_isRightReference_33 : decode cX0_isRightReference 33 = .ok (.goto 4, 3) := by decide +kernel
theorem dX0_isRightReference_36 : decode cX0_isRightReference 36 = .ok (.iconst 0, 1) := by decide +kernel
theorem dX0_isRightReference_37 : decode cX0_isRightReference 37 = .ok (.ireturn, 1) := by decide +kernel
theorem dX0_isRightCount_0 : decode cX0_isRightCount 0 = .ok (.aload_n 0, 1) := by decide +kernel
theorem dX0_isRightCount_1 : decode cX0_isRightCount 1 = .ok (.getfield 12, 3) := by decide +kernel
theorem dX0_isRightCount_4 : decode cX0_isRightCount 4 = .ok (.aload_n 0, 1) := by decide +kernel
theorem dX0_isRightCount_5 : decode cX0_isRightCount 5 = .ok (.getfield 12, 3) := by decide +kernel
theorem dX0_isRightCount_8 : decode cX0_isRightCount 8 = .ok (.iload_n 1, 1) := by decide +kernel
theorem dX0_isRightCount_9 : decode cX0_isRightCount 9 = .ok (.iconst 0, 1) := by decide +kernel
theorem dX0_isRightCount_10 : decode cX0_isRightCount 10 = .ok (.iconst 0, 1) := by decide +kernel
theorem dX0_isRightCount_11 : decode cX0_isRightCount 11 = .ok (.invokevirtual 96, 3) := by decide +kernel
theorem dX0_isRightCount_14 : decode cX0_isRightCount 14 = .ok (.iload_n 2, 1) := by decide +kernel
theorem dX0_isRightCount_15 : decode cX0_isRightCount 15 = .ok (.invokevirtual 133, 3) := by decide +kernel
theorem dX0_isRightCount_18 : decode cX0_isRightCount 18 = .ok (.ireturn, 1) := by decide +kernel
theorem dX0_judgeMessage_0 : decode cX0_judgeMessage 0 = .ok (.aload_n 0, 1) := by decide +kernel
theorem dX0_judgeMessage_1 : decode cX0_judgeMessage 1 = .ok (.getfield 23, 3) := by decide +kernel
theorem dX0_judgeMessage_4 : decode cX0_judgeMessage 4 = .ok (.iload_n 1, 1) := by decide +kernel
theorem dX0_judgeMessage_5 : decode cX0_judgeMessage 5 = .ok (.invokevirtual 93, 3) := by decide +kernel
theorem dX0_judgeMessage_8 : decode cX0_judgeMessage 8 = .ok (.istore_n 3, 1) := by decide +kernel
theorem dX0_judgeMessage_9 : decode cX0_judgeMessage 9 = .ok (.aload_n 0, 1) := by decide +kernel
theorem dX0_judgeMessage_10 : decode cX0_judgeMessage 10 = .ok (.getfield 27, 3) := by decide +kernel
theorem dX0_judgeMessage_13 : decode cX0_judgeMessage 13 = .ok (.iload_n 1, 1) := by decide +kernel
theorem dX0_judgeMessage_14 : decode cX0_judgeMessage 14 = .ok (.invokevirtual 93, 3) := by decide +kernel
theorem dX0_judgeMessage_17 : decode cX0_judgeMessage 17 = .ok (.istore 4, 2) := by decide +kernel
theorem dX0_judgeMessage_19 : decode cX0_judgeMessage 19 = .ok (.aload_n 0, 1) := by decide +kernel
theorem dX0_judgeMessage_20 : decode cX0_judgeMessage 20 = .ok (.aload_n 0, 1) := by decide +kernel
theorem dX0_judgeMessage_21 : decode cX0_judgeMessage 21 = .ok (.iload_n 1, 1) := by decide +kernel
theorem dX0_judgeMessage_22 : decode cX0_judgeMessage 22 = .ok (.invokevirtual 136, 3) := by decide +kernel
theorem dX0_judgeMessage_25 : decode cX0_judgeMessage 25 = .ok (.iload 4, 2) := by decide +kernel
theorem dX0_judgeMessage_27 : decode cX0_judgeMessage 27 = .ok (.invokevirtual 123, 3) := by decide +kernel
theorem dX0_judgeMessage_30 : decode cX0_judgeMessage 30 = .ok (.ifCond .ne 14, 3) := by decide +kernel
theorem dX0_judgeMessage_33 : decode cX0_judgeMessage 33 = .ok (.aload_n 0, 1) := by decide +kernel
theorem dX0_judgeMessage_34 : decode cX0_judgeMessage 34 = .ok (.iload_n 1, 1) := by decide +kernel
theorem dX0_judgeMessage_35 : decode cX0_judgeMessage 35 = .ok (.iconst 1, 1) := by decide +kernel
theorem dX0_judgeMessage_36 : decode cX0_judgeMessage 36 = .ok (.iload 4, 2) := by decide +kernel
theorem dX0_judgeMessage_38 : decode cX0_judgeMessage 38 = .ok (.invokevirtual 139, 3) := by decide +kernel
theorem dX0_judgeMessage_41 : decode cX0_judgeMessage 41 = .ok (.goto 75, 3) := by decide +kernel
theorem dX0_judgeMessage_44 : decode cX0_judgeMessage 44 = .ok (.aload_n 0, 1) := by decide +kernel
theorem dX0_judgeMessage_45 : decode cX0_judgeMessage 45 = .ok (.iload 4, 2) := by decide +kernel
theorem dX0_judgeMessage_47 : decode cX0_judgeMessage 47 = .ok (.iload 4, 2) := by decide +kernel
theorem dX0_judgeMessage_49 : decode cX0_judgeMessage 49 = .ok (.iload_n 3, 1) := by decide +kernel
theorem dX0_judgeMessage_50 : decode cX0_judgeMessage 50 = .ok (.isub, 1) := by decide +kernel
theorem dX0_judgeMessage_51 : decode cX0_judgeMessage 51 = .ok (.iconst 1, 1) := by decide +kernel
theorem dX0_judgeMessage_52 : decode cX0_judgeMessage 52 = .ok (.iadd, 1) := by decide +kernel
theorem dX0_judgeMessage_53 : decode cX0_judgeMessage 53 = .ok (.invokevirtual 127, 3) := by decide +kernel
theorem dX0_judgeMessage_56 : decode cX0_judgeMessage 56 = .ok (.ifCond .ne 14, 3) := by decide +kernel
theorem dX0_judgeMessage_59 : decode cX0_judgeMessage 59 = .ok (.aload_n 0, 1) := by decide +kernel
theorem dX0_judgeMessage_60 : decode cX0_judgeMessage 60 = .ok (.iload_n 1, 1) := by decide +kernel
theorem dX0_judgeMessage_61 : decode cX0_judgeMessage 61 = .ok (.iconst 2, 1) := by decide +kernel
theorem dX0_judgeMessage_62 : decode cX0_judgeMessage 62 = .ok (.iload 4, 2) := by decide +kernel
theorem dX0_judgeMessage_64 : decode cX0_judgeMessage 64 = .ok (.invokevirtual 139, 3) := by decide +kernel
theorem dX0_judgeMessage_67 : decode cX0_judgeMessage 67 = .ok (.goto 49, 3) := by decide +kernel
theorem dX0_judgeMessage_70 : decode cX0_judgeMessage 70 = .ok (.aload_n 0, 1) := by decide +kernel
theorem dX0_judgeMessage_71 : decode cX0_judgeMessage 71 = .ok (.iload_n 1, 1) := by decide +kernel
theorem dX0_judgeMessage_72 : decode cX0_judgeMessage 72 = .ok (.invokevirtual 143, 3) := by decide +kernel
theorem dX0_judgeMessage_75 : decode cX0_judgeMessage 75 = .ok (.ifCond .eq 14, 3) := by decide +kernel
theorem dX0_judgeMessage_78 : decode cX0_judgeMessage 78 = .ok (.aload_n 0, 1) := by decide +kernel
theorem dX0_judgeMessage_79 : decode cX0_judgeMessage 79 = .ok (.iload_n 1, 1) := by decide +kernel
theorem dX0_judgeMessage_80 : decode cX0_judgeMessage 80 = .ok (.bipush 7, 2) := by decide +kernel
theorem dX0_judgeMessage_82 : decode cX0_judgeMessage 82 = .ok (.iload_n 3, 1) := by decide +kernel
theorem dX0_judgeMessage_83 : decode cX0_judgeMessage 83 = .ok (.invokevirtual 139, 3) := by decide +kernel
theorem dX0_judgeMessage_86 : decode cX0_judgeMessage 86 = .ok (.goto 30, 3) := by decide +kernel
theorem dX0_judgeMessage_89 : decode cX0_judgeMessage 89 = .ok (.aload_n 2, 1) := by decide +kernel
theorem dX0_judgeMessage_90 : decode cX0_judgeMessage 90 = .ok (.ifnull 10, 3) := by decide +kernel
theorem dX0_judgeMessage_93 : decode cX0_judgeMessage 93 = .ok (.aload_n 2, 1) := by decide +kernel
theorem dX0_judgeMessage_94 : decode cX0_judgeMessage 94 = .ok (.invokevirtual 146, 3) := by decide +kernel
theorem dX0_judgeMessage_97 : decode cX0_judgeMessage 97 = .ok (.ifCond .eq 13, 3) := by decide +kernel
theorem dX0_judgeMessage_100 : decode cX0_judgeMessage 100 = .ok (.aload_n 0, 1) := by decide +kernel
theorem dX0_judgeMessage_101 : decode cX0_judgeMessage 101 = .ok (.iload_n 1, 1) := by decide +kernel
theorem dX0_judgeMessage_102 : decode cX0_judgeMessage 102 = .ok (.iconst 3, 1) := by decide +kernel
theorem dX0_judgeMessage_103 : decode cX0_judgeMessage 103 = .ok (.iload_n 3, 1) := by decide +kernel
theorem dX0_judgeMessage_104 : decode cX0_judgeMessage 104 = .ok (.invokevirtual 139, 3) := by decide +kernel
theorem dX0_judgeMessage_107 : decode cX0_judgeMessage 107 = .ok (.goto 9, 3) := by decide +kernel
theorem dX0_judgeMessage_110 : decode cX0_judgeMessage 110 = .ok (.aload_n 0, 1) := by decide +kernel
theorem dX0_judgeMessage_111 : decode cX0_judgeMessage 111 = .ok (.iload_n 1, 1) := by decide +kernel
theorem dX0_judgeMessage_112 : decode cX0_judgeMessage 112 = .ok (.aload_n 2, 1) := by decide +kernel
theorem dX0_judgeMessage_113 : decode cX0_judgeMessage 113 = .ok (.invokevirtual 151, 3) := by decide +kernel
theorem dX0_judgeMessage_116 : decode cX0_judgeMessage 116 = .ok (.return_, 1) := by decide +kernel
theorem dX0_note_0 : decode cX0_note 0 = .ok (.aload_n 0, 1) := by decide +kernel
theorem dX0_note_1 : decode cX0_note 1 = .ok (.getfield 33, 3) := by decide +kernel
theorem dX0_note_4 : decode cX0_note 4 = .ok (.iload_n 1, 1) := by decide +kernel
theorem dX0_note_5 : decode cX0_note 5 = .ok (.iload_n 2, 1) := by decide +kernel
theorem dX0_note_6 : decode cX0_note 6 = .ok (.invokevirtual 119, 3) := by decide +kernel
theorem dX0_note_9 : decode cX0_note 9 = .ok (.aload_n 0, 1) := by decide +kernel
theorem dX0_note_10 : decode cX0_note 10 = .ok (.getfield 36, 3) := by decide +kernel
theorem dX0_note_13 : decode cX0_note 13 = .ok (.iload_n 1, 1) := by decide +kernel
theorem dX0_note_14 : decode cX0_note 14 = .ok (.iload_n 3, 1) := by decide +kernel
theorem dX0_note_15 : decode cX0_note 15 = .ok (.invokevirtual 119, 3) := by decide +kernel
theorem dX0_note_18 : decode cX0_note 18 = .ok (.return_, 1) := by decide +kernel
theorem dX0_isRepeated_0 : decode cX0_isRepeated 0 = .ok (.iconst 0, 1) := by decide +kernel
theorem dX0_isRepeated_1 : decode cX0_isRepeated 1 = .ok (.istore_n 2, 1) := by decide +kernel
theorem dX0_isRepeated_2 : decode cX0_isRepeated 2 = .ok (.iload_n 2, 1) := by decide +kernel
theorem dX0_isRepeated_3 : decode cX0_isRepeated 3 = .ok (.iload_n 1, 1) := by decide +kernel
theorem dX0_isRepeated_4 : decode cX0_isRepeated 4 = .ok (.if_icmp .ge 31, 3) := by decide +kernel
theorem dX0_isRepeated_7 : decode cX0_isRepeated 7 = .ok (.aload_n 0, 1) := by decide +kernel
theorem dX0_isRepeated_8 : decode cX0_isRepeated 8 = .ok (.getfield 12, 3) := by decide +kernel
theorem dX0_isRepeated_11 : decode cX0_isRepeated 11 = .ok (.aload_n 0, 1) := by decide +kernel
theorem dX0_isRepeated_12 : decode cX0_isRepeated 12 = .ok (.iload_n 2, 1) := by decide +kernel
theorem dX0_isRepeated_13 : decode cX0_isRepeated 13 = .ok (.invokevirtual 136, 3) := by decide +kernel
theorem dX0_isRepeated_16 : decode cX0_isRepeated 16 = .ok (.aload_n 0, 1) := by decide +kernel
theorem dX0_isRepeated_17 : decode cX0_isRepeated 17 = .ok (.iload_n 1, 1) := by decide +kernel
theorem dX0_isRepeated_18 : decode cX0_isRepeated 18 = .ok (.invokevirtual 136, 3) := by decide +kernel
theorem dX0_isRepeated_21 : decode cX0_isRepeated 21 = .ok (.invokevirtual 130, 3) := by decide +kernel
theorem dX0_isRepeated_24 : decode cX0_isRepeated 24 = .ok (.ifCond .eq 5, 3) := by decide +kernel
theorem dX0_isRepeated_27 : decode cX0_isRepeated 27 = .ok (.iconst 1, 1) := by decide +kernel
theorem dX0_isRepeated_28 : decode cX0_isRepeated 28 = .ok (.ireturn, 1) := by decide +kernel
theorem dX0_isRepeated_29 : decode cX0_isRepeated 29 = .ok (.iinc 2 1, 3) := by decide +kernel
theorem dX0_isRepeated_32 : decode cX0_isRepeated 32 = .ok (.goto (-30), 3) := by decide +kernel
theorem dX0_isRepeated_35 : decode cX0_isRepeated 35 = .ok (.iconst 0, 1) := by decide +kernel
theorem dX0_isRepeated_36 : decode cX0_isRepeated 36 = .ok (.ireturn, 1) := by decide +kernel
theorem dX0_matchMessage_0 : decode cX0_matchMessage 0 = .ok (.aload_n 0, 1) := by decide +kernel
theorem dX0_matchMessage_1 : decode cX0_matchMessage 1 = .ok (.getfield 27, 3) := by decide +kernel
theorem dX0_matchMessage_4 : decode cX0_matchMessage 4 = .ok (.iload_n 1, 1) := by decide +kernel
theorem dX0_matchMessage_5 : decode cX0_matchMessage 5 = .ok (.invokevirtual 93, 3) := by decide +kernel
theorem dX0_matchMessage_8 : decode cX0_matchMessage 8 = .ok (.istore_n 3, 1) := by decide +kernel
theorem dX0_matchMessage_9 : decode cX0_matchMessage 9 = .ok (.aload_n 2, 1) := by decide +kernel
theorem dX0_matchMessage_10 : decode cX0_matchMessage 10 = .ok (.invokevirtual 155, 3) := by decide +kernel
theorem dX0_matchMessage_13 : decode cX0_matchMessage 13 = .ok (.aload_n 0, 1) := by decide +kernel
theorem dX0_matchMessage_14 : decode cX0_matchMessage 14 = .ok (.getfield 23, 3) := by decide +kernel
theorem dX0_matchMessage_17 : decode cX0_matchMessage 17 = .ok (.iload_n 1, 1) := by decide +kernel
theorem dX0_matchMessage_18 : decode cX0_matchMessage 18 = .ok (.invokevirtual 93, 3) := by decide +kernel
theorem dX0_matchMessage_21 : decode cX0_matchMessage 21 = .ok (.iconst 1, 1) := by decide +kernel
theorem dX0_matchMessage_22 : decode cX0_matchMessage 22 = .ok (.iadd, 1) := by decide +kernel
theorem dX0_matchMessage_23 : decode cX0_matchMessage 23 = .ok (.istore 4, 2) := by decide +kernel
theorem dX0_matchMessage_25 : decode cX0_matchMessage 25 = .ok (.iload 4, 2) := by decide +kernel
theorem dX0_matchMessage_27 : decode cX0_matchMessage 27 = .ok (.iload_n 3, 1) := by decide +kernel
theorem dX0_matchMessage_28 : decode cX0_matchMessage 28 = .ok (.if_icmp .ge 39, 3) := by decide +kernel
theorem dX0_matchMessage_31 : decode cX0_matchMessage 31 = .ok (.aload_n 2, 1) := by decide +kernel
theorem dX0_matchMessage_32 : decode cX0_matchMessage 32 = .ok (.aload_n 0, 1) := by decide +kernel
theorem dX0_matchMessage_33 : decode cX0_matchMessage 33 = .ok (.getfield 12, 3) := by decide +kernel
theorem dX0_matchMessage_36 : decode cX0_matchMessage 36 = .ok (.iload 4, 2) := by decide +kernel
theorem dX0_matchMessage_38 : decode cX0_matchMessage 38 = .ok (.invokevirtual 65, 3) := by decide +kernel
theorem dX0_matchMessage_41 : decode cX0_matchMessage 41 = .ok (.invokevirtual 158, 3) := by decide +kernel
theorem dX0_matchMessage_44 : decode cX0_matchMessage 44 = .ok (.istore 5, 2) := by decide +kernel
theorem dX0_matchMessage_46 : decode cX0_matchMessage 46 = .ok (.iload 5, 2) := by decide +kernel
theorem dX0_matchMessage_48 : decode cX0_matchMessage 48 = .ok (.ifCond .eq 13, 3) := by decide +kernel
theorem dX0_matchMessage_51 : decode cX0_matchMessage 51 = .ok (.aload_n 0, 1) := by decide +kernel
theorem dX0_matchMessage_52 : decode cX0_matchMessage 52 = .ok (.iload_n 1, 1) := by decide +kernel
theorem dX0_matchMessage_53 : decode cX0_matchMessage 53 = .ok (.iload 5, 2) := by decide +kernel
theorem dX0_matchMessage_55 : decode cX0_matchMessage 55 = .ok (.iload 4, 2) := by decide +kernel
theorem dX0_matchMessage_57 : decode cX0_matchMessage 57 = .ok (.invokevirtual 139, 3) := by decide +kernel
theorem dX0_matchMessage_60 : decode cX0_matchMessage 60 = .ok (.return_, 1) := by decide +kernel
theorem dX0_matchMessage_61 : decode cX0_matchMessage 61 = .ok (.iinc 4 1, 3) := by decide +kernel
theorem dX0_matchMessage_64 : decode cX0_matchMessage 64 = .ok (.goto (-39), 3) := by decide +kernel
theorem dX0_matchMessage_67 : decode cX0_matchMessage 67 = .ok (.aload_n 2, 1) := by decide +kernel
theorem dX0_matchMessage_68 : decode cX0_matchMessage 68 = .ok (.invokevirtual 161, 3) := by decide +kernel
theorem dX0_matchMessage_71 : decode cX0_matchMessage 71 = .ok (.istore 4, 2) := by decide +kernel
theorem dX0_matchMessage_73 : decode cX0_matchMessage 73 = .ok (.aload_n 0, 1) := by decide +kernel
theorem dX0_matchMessage_74 : decode cX0_matchMessage 74 = .ok (.iload_n 1, 1) := by decide +kernel
theorem dX0_matchMessage_75 : decode cX0_matchMessage 75 = .ok (.iload 4, 2) := by decide +kernel
theorem dX0_matchMessage_77 : decode cX0_matchMessage 77 = .ok (.iload 4, 2) := by decide +kernel
theorem dX0_matchMessage_79 : decode cX0_matchMessage 79 = .ok (.ifCond .ne 7, 3) := by decide +kernel
theorem dX0_matchMessage_82 : decode cX0_matchMessage 82 = .ok (.iconst (-1), 1) := by decide +kernel
theorem dX0_matchMessage_83 : decode cX0_matchMessage 83 = .ok (.goto 4, 3) := by decide +kernel
theorem dX0_matchMessage_86 : decode cX0_matchMessage 86 = .ok (.iload_n 3, 1) := by decide +kernel
theorem dX0_matchMessage_87 : decode cX0_matchMessage 87 = .ok (.invokevirtual 139, 3) := by decide +kernel
theorem dX0_matchMessage_90 : decode cX0_matchMessage 90 = .ok (.return_, 1) := by decide +kernel
theorem dX1_init_0 : decode cX1_init 0 = .ok (.aload_n 0, 1) := by decide +kernel
theorem dX1_init_1 : decode cX1_init 1 = .ok (.invokespecial 3, 3) := by decide +kernel
theorem dX1_init_4 : decode cX1_init 4 = .ok (.aload_n 0, 1) := by decide +kernel
theorem dX1_init_5 : decode cX1_init 5 = .ok (.new 9, 3) := by decide +kernel
theorem dX1_init_8 : decode cX1_init 8 = .ok (.dup, 1) := by decide +kernel
theorem dX1_init_9 : decode cX1_init 9 = .ok (.iload_n 1, 1) := by decide +kernel
theorem dX1_init_10 : decode cX1_init 10 = .ok (.invokespecial 11, 3) := by decide +kernel
theorem dX1_init_13 : decode cX1_init 13 = .ok (.putfield 14, 3) := by decide +kernel
theorem dX1_init_16 : decode cX1_init 16 = .ok (.return_, 1) := by decide +kernel
theorem dX1_look_0 : decode cX1_look 0 = .ok (.iload_n 1, 1) := by decide +kernel
theorem dX1_look_1 : decode cX1_look 1 = .ok (.iconst (-1), 1) := by decide +kernel
theorem dX1_look_2 : decode cX1_look 2 = .ok (.if_icmp .ne 13, 3) := by decide +kernel
theorem dX1_look_5 : decode cX1_look 5 = .ok (.aload_n 0, 1) := by decide +kernel
theorem dX1_look_6 : decode cX1_look 6 = .ok (.getfield 14, 3) := by decide +kernel
theorem dX1_look_9 : decode cX1_look 9 = .ok (.invokevirtual 20, 3) := by decide +kernel
theorem dX1_look_12 : decode cX1_look 12 = .ok (.goto 11, 3) := by decide +kernel
theorem dX1_look_15 : decode cX1_look 15 = .ok (.aload_n 0, 1) := by decide +kernel
theorem dX1_look_16 : decode cX1_look 16 = .ok (.getfield 14, 3) := by decide +kernel
theorem dX1_look_19 : decode cX1_look 19 = .ok (.iload_n 1, 1) := by decide +kernel
theorem dX1_look_20 : decode cX1_look 20 = .ok (.invokevirtual 24, 3) := by decide +kernel
theorem dX1_look_23 : decode cX1_look 23 = .ok (.ireturn, 1) := by decide +kernel
theorem dX1_writePrint_0 : decode cX1_writePrint 0 = .ok (.aload_n 0, 1) := by decide +kernel
theorem dX1_writePrint_1 : decode cX1_writePrint 1 = .ok (.getfield 14, 3) := by decide +kernel
theorem dX1_writePrint_4 : decode cX1_writePrint 4 = .ok (.invokevirtual 28, 3) := by decide +kernel
theorem dX1_writePrint_7 : decode cX1_writePrint 7 = .ok (.iconst 0, 1) := by decide +kernel
theorem dX1_writePrint_8 : decode cX1_writePrint 8 = .ok (.istore_n 2, 1) := by decide +kernel
theorem dX1_writePrint_9 : decode cX1_writePrint 9 = .ok (.iload_n 2, 1) := by decide +kernel
theorem dX1_writePrint_10 : decode cX1_writePrint 10 = .ok (.aload_n 1, 1) := by decide +kernel
theorem dX1_writePrint_11 : decode cX1_writePrint 11 = .ok (.invokevirtual 31, 3) := by decide +kernel
theorem dX1_writePrint_14 : decode cX1_writePrint 14 = .ok (.if_icmp .ge 68, 3) := by decide +kernel
theorem dX1_writePrint_17 : decode cX1_writePrint 17 = .ok (.aload_n 0, 1) := by decide +kernel
theorem dX1_writePrint_18 : decode cX1_writePrint 18 = .ok (.aload_n 1, 1) := by decide +kernel
theorem dX1_writePrint_19 : decode cX1_writePrint 19 = .ok (.iload_n 2, 1) := by decide +kernel
theorem dX1_writePrint_20 : decode cX1_writePrint 20 = .ok (.invokevirtual 36, 3) := by decide +kernel
theorem dX1_writePrint_23 : decode cX1_writePrint 23 = .ok (.invokevirtual 39, 3) := by decide +kernel
theorem dX1_writePrint_26 : decode cX1_writePrint 26 = .ok (.aload_n 1, 1) := by decide +kernel
theorem dX1_writePrint_27 : decode cX1_writePrint 27 = .ok (.iload_n 2, 1) := by decide +kernel
theorem dX1_writePrint_28 : decode cX1_writePrint 28 = .ok (.invokevirtual 42, 3) := by decide +kernel
theorem dX1_writePrint_31 : decode cX1_writePrint 31 = .ok (.istore_n 3, 1) := by decide +kernel
theorem dX1_writePrint_32 : decode cX1_writePrint 32 = .ok (.aload_n 1, 1) := by decide +kernel
theorem dX1_writePrint_33 : decode cX1_writePrint 33 = .ok (.iload_n 2, 1) := by decide +kernel
theorem dX1_writePrint_34 : decode cX1_writePrint 34 = .ok (.invokevirtual 45, 3) := by decide +kernel
theorem dX1_writePrint_37 : decode cX1_writePrint 37 = .ok (.istore 4, 2) := by decide +kernel
theorem dX1_writePrint_39 : decode cX1_writePrint 39 = .ok (.iload 4, 2) := by decide +kernel
theorem dX1_writePrint_41 : decode cX1_writePrint 41 = .ok (.iload_n 3, 1) := by decide +kernel
theorem dX1_writePrint_42 : decode cX1_writePrint 42 = .ok (.if_icmp .ge 25, 3) := by decide +kernel
theorem dX1_writePrint_45 : decode cX1_writePrint 45 = .ok (.aload_n 0, 1) := by decide +kernel
theorem dX1_writePrint_46 : decode cX1_writePrint 46 = .ok (.getfield 14, 3) := by decide +kernel
theorem dX1_writePrint_49 : decode cX1_writePrint 49 = .ok (.bipush 43, 2) := by decide +kernel
theorem dX1_writePrint_51 : decode cX1_writePrint 51 = .ok (.invokevirtual 48, 3) := by decide +kernel
theorem dX1_writePrint_54 : decode cX1_writePrint 54 = .ok (.aload_n 0, 1) := by decide +kernel
theorem dX1_writePrint_55 : decode cX1_writePrint 55 = .ok (.aload_n 1, 1) := by decide +kernel
theorem dX1_writePrint_56 : decode cX1_writePrint 56 = .ok (.iload 4, 2) := by decide +kernel
theorem dX1_writePrint_58 : decode cX1_writePrint 58 = .ok (.invokevirtual 51, 3) := by decide +kernel
theorem dX1_writePrint_61 : decode cX1_writePrint 61 = .ok (.iinc 4 1, 3) := by decide +kernel
theorem dX1_writePrint_64 : decode cX1_writePrint 64 = .ok (.goto (-25), 3) := by decide +kernel
theorem dX1_writePrint_67 : decode cX1_writePrint 67 = .ok (.aload_n 0, 1) := by decide +kernel
theorem dX1_writePrint_68 : decode cX1_writePrint 68 = .ok (.getfield 14, 3) := by decide +kernel
theorem dX1_writePrint_71 : decode cX1_writePrint 71 = .ok (.bipush 39, 2) := by decide +kernel
theorem dX1_writePrint_73 : decode cX1_writePrint 73 = .ok (.invokevirtual 48, 3) := by decide +kernel
theorem dX1_writePrint_76 : decode cX1_writePrint 76 = .ok (.iinc 2 1, 3) := by decide +kernel
theorem dX1_writePrint_79 : decode cX1_writePrint 79 = .ok (.goto (-70), 3) := by decide +kernel
theorem dX1_writePrint_82 : decode cX1_writePrint 82 = .ok (.return_, 1) := by decide +kernel
theorem dX1_writeReport_0 : decode cX1_writeReport 0 = .ok (.aload_n 1, 1) := by decide +kernel
theorem dX1_writeReport_1 : decode cX1_writeReport 1 = .ok (.getfield 55, 3) := by decide +kernel
theorem dX1_writeReport_4 : decode cX1_writeReport 4 = .ok (.astore_n 2, 1) := by decide +kernel
theorem dX1_writeReport_5 : decode cX1_writeReport 5 = .ok (.aload_n 0, 1) := by decide +kernel
theorem dX1_writeReport_6 : decode cX1_writeReport 6 = .ok (.getfield 14, 3) := by decide +kernel
theorem dX1_writeReport_9 : decode cX1_writeReport 9 = .ok (.invokevirtual 28, 3) := by decide +kernel
theorem dX1_writeReport_12 : decode cX1_writeReport 12 = .ok (.aload_n 0, 1) := by decide +kernel
theorem dX1_writeReport_13 : decode cX1_writeReport 13 = .ok (.ldc 61, 2) := by decide +kernel
theorem dX1_writeReport_15 : decode cX1_writeReport 15 = .ok (.aload_n 2, 1) := by decide +kernel
theorem dX1_writeReport_16 : decode cX1_writeReport 16 = .ok (.aload_n 1, 1) := by decide +kernel
theorem dX1_writeReport_17 : decode cX1_writeReport 17 = .ok (.invokevirtual 62, 3) := by decide +kernel
theorem dX1_writeReport_20 : decode cX1_writeReport 20 = .ok (.aload_n 1, 1) := by decide +kernel
theorem dX1_writeReport_21 : decode cX1_writeReport 21 = .ok (.invokevirtual 65, 3) := by decide +kernel
theorem dX1_writeReport_24 : decode cX1_writeReport 24 = .ok (.invokevirtual 68, 3) := by decide +kernel
theorem dX1_writeReport_27 : decode cX1_writeReport 27 = .ok (.aload_n 0, 1) := by decide +kernel
theorem dX1_writeReport_28 : decode cX1_writeReport 28 = .ok (.getfield 14, 3) := by decide +kernel
theorem dX1_writeReport_31 : decode cX1_writeReport 31 = .ok (.bipush 39, 2) := by decide +kernel
theorem dX1_writeReport_33 : decode cX1_writeReport 33 = .ok (.invokevirtual 48, 3) := by decide +kernel
theorem dX1_writeReport_36 : decode cX1_writeReport 36 = .ok (.iconst (-1), 1) := by decide +kernel
theorem dX1_writeReport_37 : decode cX1_writeReport 37 = .ok (.istore_n 3, 1) := by decide +kernel
theorem dX1_writeReport_38 : decode cX1_writeReport 38 = .ok (.iconst 0, 1) := by decide +kernel
theorem dX1_writeReport_39 : decode cX1_writeReport 39 = .ok (.istore 4, 2) := by decide +kernel
theorem dX1_writeReport_41 : decode cX1_writeReport 41 = .ok (.iload 4, 2) := by decide +kernel
theorem dX1_writeReport_43 : decode cX1_writeReport 43 = .ok (.aload_n 1, 1) := by decide +kernel
theorem dX1_writeReport_44 : decode cX1_writeReport 44 = .ok (.invokevirtual 72, 3) := by decide +kernel
theorem dX1_writeReport_47 : decode cX1_writeReport 47 = .ok (.if_icmp .ge 116, 3) := by decide +kernel
theorem dX1_writeReport_50 : decode cX1_writeReport 50 = .ok (.aload_n 1, 1) := by decide +kernel
theorem dX1_writeReport_51 : decode cX1_writeReport 51 = .ok (.iload 4, 2) := by decide +kernel
theorem dX1_writeReport_53 : decode cX1_writeReport 53 = .ok (.iconst 3, 1) := by decide +kernel
theorem dX1_writeReport_54 : decode cX1_writeReport 54 = .ok (.invokevirtual 75, 3) := by decide +kernel
theorem dX1_writeReport_57 : decode cX1_writeReport 57 = .ok (.iload_n 3, 1) := by decide +kernel
theorem dX1_writeReport_58 : decode cX1_writeReport 58 = .ok (.if_icmp .eq 41, 3) := by decide +kernel
theorem dX1_writeReport_61 : decode cX1_writeReport 61 = .ok (.aload_n 1, 1) := by decide +kernel
theorem dX1_writeReport_62 : decode cX1_writeReport 62 = .ok (.iload 4, 2) := by decide +kernel
theorem dX1_writeReport_64 : decode cX1_writeReport 64 = .ok (.iconst 3, 1) := by decide +kernel
theorem dX1_writeReport_65 : decode cX1_writeReport 65 = .ok (.invokevirtual 75, 3) := by decide +kernel
theorem dX1_writeReport_68 : decode cX1_writeReport 68 = .ok (.istore_n 3, 1) := by decide +kernel
theorem dX1_writeReport_69 : decode cX1_writeReport 69 = .ok (.aload_n 1, 1) := by decide +kernel
theorem dX1_writeReport_70 : decode cX1_writeReport 70 = .ok (.iload_n 3, 1) := by decide +kernel
theorem dX1_writeReport_71 : decode cX1_writeReport 71 = .ok (.invokevirtual 79, 3) := by decide +kernel
theorem dX1_writeReport_74 : decode cX1_writeReport 74 = .ok (.istore 5, 2) := by decide +kernel
theorem dX1_writeReport_76 : decode cX1_writeReport 76 = .ok (.aload_n 0, 1) := by decide +kernel
theorem dX1_writeReport_77 : decode cX1_writeReport 77 = .ok (.ldc 82, 2) := by decide +kernel
theorem dX1_writeReport_79 : decode cX1_writeReport 79 = .ok (.aload_n 2, 1) := by decide +kernel
theorem dX1_writeReport_80 : decode cX1_writeReport 80 = .ok (.iload 5, 2) := by decide +kernel
theorem dX1_writeReport_82 : decode cX1_writeReport 82 = .ok (.aload_n 1, 1) := by decide +kernel
theorem dX1_writeReport_83 : decode cX1_writeReport 83 = .ok (.iload_n 3, 1) := by decide +kernel
theorem dX1_writeReport_84 : decode cX1_writeReport 84 = .ok (.invokevirtual 83, 3) := by decide +kernel
theorem dX1_writeReport_87 : decode cX1_writeReport 87 = .ok (.invokevirtual 68, 3) := by decide +kernel
theorem dX1_writeReport_90 : decode cX1_writeReport 90 = .ok (.aload_n 0, 1) := by decide +kernel
theorem dX1_writeReport_91 : decode cX1_writeReport 91 = .ok (.getfield 14, 3) := by decide +kernel
theorem dX1_writeReport_94 : decode cX1_writeReport 94 = .ok (.bipush 39, 2) := by decide +kernel
theorem dX1_writeReport_96 : decode cX1_writeReport 96 = .ok (.invokevirtual 48, 3) := by decide +kernel
theorem dX1_writeReport_99 : decode cX1_writeReport 99 = .ok (.aload_n 1, 1) := by decide +kernel
theorem dX1_writeReport_100 : decode cX1_writeReport 100 = .ok (.iload 4, 2) := by decide +kernel
theorem dX1_writeReport_102 : decode cX1_writeReport 102 = .ok (.iconst 0, 1) := by decide +kernel
theorem dX1_writeReport_103 : decode cX1_writeReport 103 = .ok (.invokevirtual 75, 3) := by decide +kernel
theorem dX1_writeReport_106 : decode cX1_writeReport 106 = .ok (.istore 5, 2) := by decide +kernel
theorem dX1_writeReport_108 : decode cX1_writeReport 108 = .ok (.aload_n 0, 1) := by decide +kernel
theorem dX1_writeReport_109 : decode cX1_writeReport 109 = .ok (.ldc 86, 2) := by decide +kernel
theorem dX1_writeReport_111 : decode cX1_writeReport 111 = .ok (.aload_n 2, 1) := by decide +kernel
theorem dX1_writeReport_112 : decode cX1_writeReport 112 = .ok (.aload_n 1, 1) := by decide +kernel
theorem dX1_writeReport_113 : decode cX1_writeReport 113 = .ok (.iload 4, 2) := by decide +kernel
theorem dX1_writeReport_115 : decode cX1_writeReport 115 = .ok (.invokevirtual 87, 3) := by decide +kernel
theorem dX1_writeReport_118 : decode cX1_writeReport 118 = .ok (.iload 5, 2) := by decide +kernel
theorem dX1_writeReport_120 : decode cX1_writeReport 120 = .ok (.invokevirtual 68, 3) := by decide +kernel
theorem dX1_writeReport_123 : decode cX1_writeReport 123 = .ok (.iload 5, 2) := by decide +kernel
theorem dX1_writeReport_125 : decode cX1_writeReport 125 = .ok (.ifCond .eq 23, 3) := by decide +kernel
theorem dX1_writeReport_128 : decode cX1_writeReport 128 = .ok (.aload_n 0, 1) := by decide +kernel
theorem dX1_writeReport_129 : decode cX1_writeReport 129 = .ok (.getfield 14, 3) := by decide +kernel
theorem dX1_writeReport_132 : decode cX1_writeReport 132 = .ok (.bipush 43, 2) := by decide +kernel
theorem dX1_writeReport_134 : decode cX1_writeReport 134 = .ok (.invokevirtual 48, 3) := by decide +kernel
theorem dX1_writeReport_137 : decode cX1_writeReport 137 = .ok (.aload_n 0, 1) := by decide +kernel
theorem dX1_writeReport_138 : decode cX1_writeReport 138 = .ok (.aload_n 1, 1) := by decide +kernel
theorem dX1_writeReport_139 : decode cX1_writeReport 139 = .ok (.iload 4, 2) := by decide +kernel
theorem dX1_writeReport_141 : decode cX1_writeReport 141 = .ok (.iconst 1, 1) := by decide +kernel
theorem dX1_writeReport_142 : decode cX1_writeReport 142 = .ok (.invokevirtual 75, 3) := by decide +kernel
theorem dX1_writeReport_145 : decode cX1_writeReport 145 = .ok (.invokevirtual 90, 3) := by decide +kernel
theorem dX1_writeReport_148 : decode cX1_writeReport 148 = .ok (.aload_n 0, 1) := by decide +kernel
theorem dX1_writeReport_149 : decode cX1_writeReport 149 = .ok (.getfield 14, 3) := by decide +kernel
theorem dX1_writeReport_152 : decode cX1_writeReport 152 = .ok (.bipush 39, 2) := by decide +kernel
theorem dX1_writeReport_154 : decode cX1_writeReport 154 = .ok (.invokevirtual 48, 3) := by decide +kernel
theorem dX1_writeReport_157 : decode cX1_writeReport 157 = .ok (.iinc 4 1, 3) := by decide +kernel
theorem dX1_writeReport_160 : decode cX1_writeReport 160 = .ok (.goto (-119), 3) := by decide +kernel
theorem dX1_writeReport_163 : decode cX1_writeReport 163 = .ok (.return_, 1) := by decide +kernel
theorem dX1_putVerdict_0 : decode cX1_putVerdict 0 = .ok (.aload_n 0, 1) := by decide +kernel
theorem dX1_putVerdict_1 : decode cX1_putVerdict 1 = .ok (.iload_n 1, 1) := by decide +kernel
theorem dX1_putVerdict_2 : decode cX1_putVerdict 2 = .ok (.invokevirtual 39, 3) := by decide +kernel
theorem dX1_putVerdict_5 : decode cX1_putVerdict 5 = .ok (.aload_n 0, 1) := by decide +kernel
theorem dX1_putVerdict_6 : decode cX1_putVerdict 6 = .ok (.getfield 14, 3) := by decide +kernel
theorem dX1_putVerdict_9 : decode cX1_putVerdict 9 = .ok (.bipush 43, 2) := by decide +kernel
theorem dX1_putVerdict_11 : decode cX1_putVerdict 11 = .ok (.invokevirtual 48, 3) := by decide +kernel
theorem dX1_putVerdict_14 : decode cX1_putVerdict 14 = .ok (.aload_n 0, 1) := by decide +kernel
theorem dX1_putVerdict_15 : decode cX1_putVerdict 15 = .ok (.aload_n 2, 1) := by decide +kernel
theorem dX1_putVerdict_16 : decode cX1_putVerdict 16 = .ok (.iload_n 3, 1) := by decide +kernel
theorem dX1_putVerdict_17 : decode cX1_putVerdict 17 = .ok (.invokevirtual 93, 3) := by decide +kernel
theorem dX1_putVerdict_20 : decode cX1_putVerdict 20 = .ok (.aload_n 0, 1) := by decide +kernel
theorem dX1_putVerdict_21 : decode cX1_putVerdict 21 = .ok (.getfield 14, 3) := by decide +kernel
theorem dX1_putVerdict_24 : decode cX1_putVerdict 24 = .ok (.bipush 43, 2) := by decide +kernel
theorem dX1_putVerdict_26 : decode cX1_putVerdict 26 = .ok (.invokevirtual 48, 3) := by decide +kernel
theorem dX1_putVerdict_29 : decode cX1_putVerdict 29 = .ok (.aload_n 0, 1) := by decide +kernel
theorem dX1_putVerdict_30 : decode cX1_putVerdict 30 = .ok (.iload 4, 2) := by decide +kernel
theorem dX1_putVerdict_32 : decode cX1_putVerdict 32 = .ok (.invokevirtual 90, 3) := by decide +kernel
theorem dX1_putVerdict_35 : decode cX1_putVerdict 35 = .ok (.return_, 1) := by decide +kernel
theorem dX1_putTag_0 : decode cX1_putTag 0 = .ok (.aload_n 0, 1) := by decide +kernel
theorem dX1_putTag_1 : decode cX1_putTag 1 = .ok (.getfield 14, 3) := by decide +kernel
theorem dX1_putTag_4 : decode cX1_putTag 4 = .ok (.iload_n 1, 1) := by decide +kernel
theorem dX1_putTag_5 : decode cX1_putTag 5 = .ok (.bipush 16, 2) := by decide +kernel
theorem dX1_putTag_7 : decode cX1_putTag 7 = .ok (.iushr, 1) := by decide +kernel
theorem dX1_putTag_8 : decode cX1_putTag 8 = .ok (.sipush 255, 3) := by decide +kernel
theorem dX1_putTag_11 : decode cX1_putTag 11 = .ok (.iand, 1) := by decide +kernel
theorem dX1_putTag_12 : decode cX1_putTag 12 = .ok (.invokevirtual 48, 3) := by decide +kernel
theorem dX1_putTag_15 : decode cX1_putTag 15 = .ok (.aload_n 0, 1) := by decide +kernel
theorem dX1_putTag_16 : decode cX1_putTag 16 = .ok (.getfield 14, 3) := by decide +kernel
theorem dX1_putTag_19 : decode cX1_putTag 19 = .ok (.iload_n 1, 1) := by decide +kernel
theorem dX1_putTag_20 : decode cX1_putTag 20 = .ok (.bipush 8, 2) := by decide +kernel
theorem dX1_putTag_22 : decode cX1_putTag 22 = .ok (.iushr, 1) := by decide +kernel
theorem dX1_putTag_23 : decode cX1_putTag 23 = .ok (.sipush 255, 3) := by decide +kernel
theorem dX1_putTag_26 : decode cX1_putTag 26 = .ok (.iand, 1) := by decide +kernel
theorem dX1_putTag_27 : decode cX1_putTag 27 = .ok (.invokevirtual 48, 3) := by decide +kernel
theorem dX1_putTag_30 : decode cX1_putTag 30 = .ok (.aload_n 0, 1) := by decide +kernel
theorem dX1_putTag_31 : decode cX1_putTag 31 = .ok (.getfield 14, 3) := by decide +kernel
theorem dX1_putTag_34 : decode cX1_putTag 34 = .ok (.iload_n 1, 1) := by decide +kernel
theorem dX1_putTag_35 : decode cX1_putTag 35 = .ok (.sipush 255, 3) := by decide +kernel
theorem dX1_putTag_38 : decode cX1_putTag 38 = .ok (.iand, 1) := by decide +kernel
theorem dX1_putTag_39 : decode cX1_putTag 39 = .ok (.invokevirtual 48, 3) := by decide +kernel
theorem dX1_putTag_42 : decode cX1_putTag 42 = .ok (.return_, 1) := by decide +kernel
theorem dX1_putElement_0 : decode cX1_putElement 0 = .ok (.aload_n 1, 1) := by decide +kernel
theorem dX1_putElement_1 : decode cX1_putElement 1 = .ok (.iload_n 2, 1) := by decide +kernel
theorem dX1_putElement_2 : decode cX1_putElement 2 = .ok (.invokevirtual 96, 3) := by decide +kernel
theorem dX1_putElement_5 : decode cX1_putElement 5 = .ok (.istore_n 3, 1) := by decide +kernel
theorem dX1_putElement_6 : decode cX1_putElement 6 = .ok (.aload_n 1, 1) := by decide +kernel
theorem dX1_putElement_7 : decode cX1_putElement 7 = .ok (.iload_n 2, 1) := by decide +kernel
theorem dX1_putElement_8 : decode cX1_putElement 8 = .ok (.invokevirtual 99, 3) := by decide +kernel
theorem dX1_putElement_11 : decode cX1_putElement 11 = .ok (.istore 4, 2) := by decide +kernel
theorem dX1_putElement_13 : decode cX1_putElement 13 = .ok (.iload_n 3, 1) := by decide +kernel
theorem dX1_putElement_14 : decode cX1_putElement 14 = .ok (.istore 5, 2) := by decide +kernel
theorem dX1_putElement_16 : decode cX1_putElement 16 = .ok (.iload 5, 2) := by decide +kernel
theorem dX1_putElement_18 : decode cX1_putElement 18 = .ok (.iload 4, 2) := by decide +kernel
theorem dX1_putElement_20 : decode cX1_putElement 20 = .ok (.if_icmp .ge 31, 3) := by decide +kernel
theorem dX1_putElement_23 : decode cX1_putElement 23 = .ok (.iload 5, 2) := by decide +kernel
theorem dX1_putElement_25 : decode cX1_putElement 25 = .ok (.iload_n 3, 1) := by decide +kernel
theorem dX1_putElement_26 : decode cX1_putElement 26 = .ok (.if_icmp .le 12, 3) := by decide +kernel
theorem dX1_putElement_29 : decode cX1_putElement 29 = .ok (.aload_n 0, 1) := by decide +kernel
theorem dX1_putElement_30 : decode cX1_putElement 30 = .ok (.getfield 14, 3) := by decide +kernel
theorem dX1_putElement_33 : decode cX1_putElement 33 = .ok (.bipush 58, 2) := by decide +kernel
theorem dX1_putElement_35 : decode cX1_putElement 35 = .ok (.invokevirtual 48, 3) := by decide +kernel
theorem dX1_putElement_38 : decode cX1_putElement 38 = .ok (.aload_n 0, 1) := by decide +kernel
theorem dX1_putElement_39 : decode cX1_putElement 39 = .ok (.aload_n 1, 1) := by decide +kernel
theorem dX1_putElement_40 : decode cX1_putElement 40 = .ok (.iload 5, 2) := by decide +kernel
theorem dX1_putElement_42 : decode cX1_putElement 42 = .ok (.invokevirtual 93, 3) := by decide +kernel
theorem dX1_putElement_45 : decode cX1_putElement 45 = .ok (.iinc 5 1, 3) := by decide +kernel
theorem dX1_putElement_48 : decode cX1_putElement 48 = .ok (.goto (-32), 3) := by decide +kernel
theorem dX1_putElement_51 : decode cX1_putElement 51 = .ok (.return_, 1) := by decide +kernel
theorem dX1_putComponent_0 : decode cX1_putComponent 0 = .ok (.aload_n 1, 1) := by decide +kernel
theorem dX1_putComponent_1 : decode cX1_putComponent 1 = .ok (.iload_n 2, 1) := by decide +kernel
theorem dX1_putComponent_2 : decode cX1_putComponent 2 = .ok (.invokevirtual 102, 3) := by decide +kernel
theorem dX1_putComponent_5 : decode cX1_putComponent 5 = .ok (.istore_n 3, 1) := by decide +kernel
theorem dX1_putComponent_6 : decode cX1_putComponent 6 = .ok (.iconst 0, 1) := by decide +kernel
theorem dX1_putComponent_7 : decode cX1_putComponent 7 = .ok (.istore 4, 2) := by decide +kernel
theorem dX1_putComponent_9 : decode cX1_putComponent 9 = .ok (.iload 4, 2) := by decide +kernel
theorem dX1_putComponent_11 : decode cX1_putComponent 11 = .ok (.iload_n 3, 1) := by decide +kernel
theorem dX1_putComponent_12 : decode cX1_putComponent 12 = .ok (.if_icmp .ge 44, 3) := by decide +kernel
theorem dX1_putComponent_15 : decode cX1_putComponent 15 = .ok (.aload_n 1, 1) := by decide +kernel
theorem dX1_putComponent_16 : decode cX1_putComponent 16 = .ok (.iload_n 2, 1) := by decide +kernel
theorem dX1_putComponent_17 : decode cX1_putComponent 17 = .ok (.iload 4, 2) := by decide +kernel
theorem dX1_putComponent_19 : decode cX1_putComponent 19 = .ok (.invokevirtual 105, 3) := by decide +kernel
theorem dX1_putComponent_22 : decode cX1_putComponent 22 = .ok (.istore 5, 2) := by decide +kernel
theorem dX1_putComponent_24 : decode cX1_putComponent 24 = .ok (.iload 5, 2) := by decide +kernel
theorem dX1_putComponent_26 : decode cX1_putComponent 26 = .ok (.invokestatic 108, 3) := by decide +kernel
theorem dX1_putComponent_29 : decode cX1_putComponent 29 = .ok (.ifCond .eq 12, 3) := by decide +kernel
theorem dX1_putComponent_32 : decode cX1_putComponent 32 = .ok (.aload_n 0, 1) := by decide +kernel
theorem dX1_putComponent_33 : decode cX1_putComponent 33 = .ok (.getfield 14, 3) := by decide +kernel
theorem dX1_putComponent_36 : decode cX1_putComponent 36 = .ok (.bipush 63, 2) := by decide +kernel
theorem dX1_putComponent_38 : decode cX1_putComponent 38 = .ok (.invokevirtual 48, 3) := by decide +kernel
theorem dX1_putComponent_41 : decode cX1_putComponent 41 = .ok (.aload_n 0, 1) := by decide +kernel
theorem dX1_putComponent_42 : decode cX1_putComponent 42 = .ok (.getfield 14, 3) := by decide +kernel
theorem dX1_putComponent_45 : decode cX1_putComponent 45 = .ok (.iload 5, 2) := by decide +kernel
theorem dX1_putComponent_47 : decode cX1_putComponent 47 = .ok (.invokevirtual 48, 3) := by decide +kernel
theorem dX1_putComponent_50 : decode cX1_putComponent 50 = .ok (.iinc 4 1, 3) := by decide +kernel
theorem dX1_putComponent_53 : decode cX1_putComponent 53 = .ok (.goto (-44), 3) := by decide +kernel
theorem dX1_putComponent_56 : decode cX1_putComponent 56 = .ok (.return_, 1) := by decide +kernel
theorem dX1_isPrintMark_0 : decode cX1_isPrintMark 0 = .ok (.iload_n 0, 1) := by decide +kernel
theorem dX1_isPrintMark_1 : decode cX1_isPrintMark 1 = .ok (.bipush 58, 2) := by decide +kernel
theorem dX1_isPrintMark_3 : decode cX1_isPrintMark 3 = .ok (.if_icmp .eq 21, 3) := by decide +kernel
theorem dX1_isPrintMark_6 : decode cX1_isPrintMark 6 = .ok (.iload_n 0, 1) := by decide +kernel
theorem dX1_isPrintMark_7 : decode cX1_isPrintMark 7 = .ok (.bipush 43, 2) := by decide +kernel
theorem dX1_isPrintMark_9 : decode cX1_isPrintMark 9 = .ok (.if_icmp .eq 15, 3) := by decide +kernel
theorem dX1_isPrintMark_12 : decode cX1_isPrintMark 12 = .ok (.iload_n 0, 1) := by decide +kernel
theorem dX1_isPrintMark_13 : decode cX1_isPrintMark 13 = .ok (.bipush 63, 2) := by decide +kernel
theorem dX1_isPrintMark_15 : decode cX1_isPrintMark 15 = .ok (.if_icmp .eq 9, 3) := by decide +kernel
theorem dX1_isPrintMark_18 : decode cX1_isPrintMark 18 = .ok (.iload_n 0, 1) := by decide +kernel
theorem dX1_isPrintMark_19 : decode cX1_isPrintMark 19 = .ok (.bipush 39, 2) := by decide +kernel
theorem dX1_isPrintMark_21 : decode cX1_isPrintMark 21 = .ok (.if_icmp .ne 7, 3) := by decide +kernel
theorem dX1_isPrintMark_24 : decode cX1_isPrintMark 24 = .ok (.iconst 1, 1) := by decide +kernel
theorem dX1_isPrintMark_25 : decode cX1_isPrintMark 25 = .ok (.goto 4, 3) := by decide +kernel
theorem dX1_isPrintMark_28 : decode cX1_isPrintMark 28 = .ok (.iconst 0, 1) := by decide +kernel
theorem dX1_isPrintMark_29 : decode cX1_isPrintMark 29 = .ok (.ireturn, 1) := by decide +kernel
theorem dX1_putNumber_0 : decode cX1_putNumber 0 = .ok (.iload_n 1, 1) := by decide +kernel
theorem dX1_putNumber_1 : decode cX1_putNumber 1 = .ok (.bipush 10, 2) := by decide +kernel
theorem dX1_putNumber_3 : decode cX1_putNumber 3 = .ok (.if_icmp .lt 17, 3) := by decide +kernel
theorem dX1_putNumber_6 : decode cX1_putNumber 6 = .ok (.aload_n 0, 1) := by decide +kernel
theorem dX1_putNumber_7 : decode cX1_putNumber 7 = .ok (.getfield 14, 3) := by decide +kernel
theorem dX1_putNumber_10 : decode cX1_putNumber 10 = .ok (.bipush 48, 2) := by decide +kernel
theorem dX1_putNumber_12 : decode cX1_putNumber 12 = .ok (.iload_n 1, 1) := by decide +kernel
theorem dX1_putNumber_13 : decode cX1_putNumber 13 = .ok (.bipush 10, 2) := by decide +kernel
theorem dX1_putNumber_15 : decode cX1_putNumber 15 = .ok (.idiv, 1) := by decide +kernel
theorem dX1_putNumber_16 : decode cX1_putNumber 16 = .ok (.iadd, 1) := by decide +kernel
theorem dX1_putNumber_17 : decode cX1_putNumber 17 = .ok (.invokevirtual 48, 3) := by decide +kernel
theorem dX1_putNumber_20 : decode cX1_putNumber 20 = .ok (.aload_n 0, 1) := by decide +kernel
theorem dX1_putNumber_21 : decode cX1_putNumber 21 = .ok (.getfield 14, 3) := by decide +kernel
theorem dX1_putNumber_24 : decode cX1_putNumber 24 = .ok (.bipush 48, 2) := by decide +kernel
theorem dX1_putNumber_26 : decode cX1_putNumber 26 = .ok (.iload_n 1, 1) := by decide +kernel
theorem dX1_putNumber_27 : decode cX1_putNumber 27 = .ok (.bipush 10, 2) := by decide +kernel
theorem dX1_putNumber_29 : decode cX1_putNumber 29 = .ok (.irem, 1) := by decide +kernel
theorem dX1_putNumber_30 : decode cX1_putNumber 30 = .ok (.iadd, 1) := by decide +kernel
theorem dX1_putNumber_31 : decode cX1_putNumber 31 = .ok (.invokevirtual 48, 3) := by decide +kernel
theorem dX1_putNumber_34 : decode cX1_putNumber 34 = .ok (.return_, 1) := by decide +kernel
theorem dX2_init_0 : decode cX2_init 0 = .ok (.aload_n 0, 1) := by decide +kernel
theorem dX2_init_1 : decode cX2_init 1 = .ok (.invokespecial 3, 3) := by decide +kernel
theorem dX2_init_4 : decode cX2_init 4 = .ok (.aload_n 0, 1) := by decide +kernel
theorem dX2_init_5 : decode cX2_init 5 = .ok (.new 9, 3) := by decide +kernel
theorem dX2_init_8 : decode cX2_init 8 = .ok (.dup, 1) := by decide +kernel
theorem dX2_init_9 : decode cX2_init 9 = .ok (.bipush 40, 2) := by decide +kernel
theorem dX2_init_11 : decode cX2_init 11 = .ok (.invokespecial 11, 3) := by decide +kernel
theorem dX2_init_14 : decode cX2_init 14 = .ok (.putfield 14, 3) := by decide +kernel
theorem dX2_init_17 : decode cX2_init 17 = .ok (.aload_n 0, 1) := by decide +kernel
theorem dX2_init_18 : decode cX2_init 18 = .ok (.new 9, 3) := by decide +kernel
theorem dX2_init_21 : decode cX2_init 21 = .ok (.dup, 1) := by decide +kernel
theorem dX2_init_22 : decode cX2_init 22 = .ok (.bipush 41, 2) := by decide +kernel
theorem dX2_init_24 : decode cX2_init 24 = .ok (.invokespecial 11, 3) := by decide +kernel
theorem dX2_init_27 : decode cX2_init 27 = .ok (.putfield 20, 3) := by decide +kernel
theorem dX2_init_30 : decode cX2_init 30 = .ok (.aload_n 0, 1) := by decide +kernel
theorem dX2_init_31 : decode cX2_init 31 = .ok (.new 9, 3) := by decide +kernel
theorem dX2_init_34 : decode cX2_init 34 = .ok (.dup, 1) := by decide +kernel
theorem dX2_init_35 : decode cX2_init 35 = .ok (.bipush 121, 2) := by decide +kernel
theorem dX2_init_37 : decode cX2_init 37 = .ok (.invokespecial 11, 3) := by decide +kernel
theorem dX2_init_40 : decode cX2_init 40 = .ok (.putfield 23, 3) := by decide +kernel
theorem dX2_init_43 : decode cX2_init 43 = .ok (.aload_n 0, 1) := by decide +kernel
theorem dX2_init_44 : decode cX2_init 44 = .ok (.new 9, 3) := by decide +kernel
theorem dX2_init_47 : decode cX2_init 47 = .ok (.dup, 1) := by decide +kernel
theorem dX2_init_48 : decode cX2_init 48 = .ok (.bipush 121, 2) := by decide +kernel
theorem dX2_init_50 : decode cX2_init 50 = .ok (.invokespecial 11, 3) := by decide +kernel
theorem dX2_init_53 : decode cX2_init 53 = .ok (.putfield 26, 3) := by decide +kernel
theorem dX2_init_56 : decode cX2_init 56 = .ok (.aload_n 0, 1) := by decide +kernel
theorem dX2_init_57 : decode cX2_init 57 = .ok (.new 9, 3) := by decide +kernel
theorem dX2_init_60 : decode cX2_init 60 = .ok (.dup, 1) := by decide +kernel
theorem dX2_init_61 : decode cX2_init 61 = .ok (.sipush 400, 3) := by decide +kernel
theorem dX2_init_64 : decode cX2_init 64 = .ok (.invokespecial 11, 3) := by decide +kernel
theorem dX2_init_67 : decode cX2_init 67 = .ok (.putfield 29, 3) := by decide +kernel
theorem dX2_init_70 : decode cX2_init 70 = .ok (.return_, 1) := by decide +kernel
theorem dX2_empty_0 : decode cX2_empty 0 = .ok (.aload_n 0, 1) := by decide +kernel
theorem dX2_empty_1 : decode cX2_empty 1 = .ok (.getfield 14, 3) := by decide +kernel
theorem dX2_empty_4 : decode cX2_empty 4 = .ok (.invokevirtual 32, 3) := by decide +kernel
theorem dX2_empty_7 : decode cX2_empty 7 = .ok (.aload_n 0, 1) := by decide +kernel
theorem dX2_empty_8 : decode cX2_empty 8 = .ok (.getfield 20, 3) := by decide +kernel
theorem dX2_empty_11 : decode cX2_empty 11 = .ok (.invokevirtual 32, 3) := by decide +kernel
theorem dX2_empty_14 : decode cX2_empty 14 = .ok (.aload_n 0, 1) := by decide +kernel
theorem dX2_empty_15 : decode cX2_empty 15 = .ok (.getfield 23, 3) := by decide +kernel
theorem dX2_empty_18 : decode cX2_empty 18 = .ok (.invokevirtual 32, 3) := by decide +kernel
theorem dX2_empty_21 : decode cX2_empty 21 = .ok (.aload_n 0, 1) := by decide +kernel
theorem dX2_empty_22 : decode cX2_empty 22 = .ok (.getfield 26, 3) := by decide +kernel
theorem dX2_empty_25 : decode cX2_empty 25 = .ok (.invokevirtual 32, 3) := by decide +kernel
theorem dX2_empty_28 : decode cX2_empty 28 = .ok (.aload_n 0, 1) := by decide +kernel
theorem dX2_empty_29 : decode cX2_empty 29 = .ok (.getfield 29, 3) := by decide +kernel
theorem dX2_empty_32 : decode cX2_empty 32 = .ok (.invokevirtual 32, 3) := by decide +kernel
theorem dX2_empty_35 : decode cX2_empty 35 = .ok (.return_, 1) := by decide +kernel
theorem dX2_addSegment_0 : decode cX2_addSegment 0 = .ok (.aload_n 0, 1) := by decide +kernel
theorem dX2_addSegment_1 : decode cX2_addSegment 1 = .ok (.getfield 14, 3) := by decide +kernel
theorem dX2_addSegment_4 : decode cX2_addSegment 4 = .ok (.iload_n 1, 1) := by decide +kernel
theorem dX2_addSegment_5 : decode cX2_addSegment 5 = .ok (.invokevirtual 35, 3) := by decide +kernel
theorem dX2_addSegment_8 : decode cX2_addSegment 8 = .ok (.aload_n 0, 1) := by decide +kernel
theorem dX2_addSegment_9 : decode cX2_addSegment 9 = .ok (.getfield 20, 3) := by decide +kernel
theorem dX2_addSegment_12 : decode cX2_addSegment 12 = .ok (.aload_n 0, 1) := by decide +kernel
theorem dX2_addSegment_13 : decode cX2_addSegment 13 = .ok (.getfield 23, 3) := by decide +kernel
theorem dX2_addSegment_16 : decode cX2_addSegment 16 = .ok (.invokevirtual 38, 3) := by decide +kernel
theorem dX2_addSegment_19 : decode cX2_addSegment 19 = .ok (.invokevirtual 35, 3) := by decide +kernel
theorem dX2_addSegment_22 : decode cX2_addSegment 22 = .ok (.return_, 1) := by decide +kernel
theorem dX2_addElement_0 : decode cX2_addElement 0 = .ok (.aload_n 0, 1) := by decide +kernel
theorem dX2_addElement_1 : decode cX2_addElement 1 = .ok (.getfield 23, 3) := by decide +kernel
theorem dX2_addElement_4 : decode cX2_addElement 4 = .ok (.aload_n 0, 1) := by decide +kernel
theorem dX2_addElement_5 : decode cX2_addElement 5 = .ok (.getfield 26, 3) := by decide +kernel
theorem dX2_addElement_8 : decode cX2_addElement 8 = .ok (.invokevirtual 38, 3) := by decide +kernel
theorem dX2_addElement_11 : decode cX2_addElement 11 = .ok (.invokevirtual 35, 3) := by decide +kernel
theorem dX2_addElement_14 : decode cX2_addElement 14 = .ok (.return_, 1) := by decide +kernel
theorem dX2_addComponent_0 : decode cX2_addComponent 0 = .ok (.aload_n 0, 1) := by decide +kernel
theorem dX2_addComponent_1 : decode cX2_addComponent 1 = .ok (.getfield 26, 3) := by decide +kernel
theorem dX2_addComponent_4 : decode cX2_addComponent 4 = .ok (.aload_n 0, 1) := by decide +kernel
theorem dX2_addComponent_5 : decode cX2_addComponent 5 = .ok (.getfield 29, 3) := by decide +kernel
theorem dX2_addComponent_8 : decode cX2_addComponent 8 = .ok (.invokevirtual 38, 3) := by decide +kernel
theorem dX2_addComponent_11 : decode cX2_addComponent 11 = .ok (.invokevirtual 35, 3) := by decide +kernel
theorem dX2_addComponent_14 : decode cX2_addComponent 14 = .ok (.return_, 1) := by decide +kernel
theorem dX2_addCharacter_0 : decode cX2_addCharacter 0 = .ok (.aload_n 0, 1) := by decide +kernel
theorem dX2_addCharacter_1 : decode cX2_addCharacter 1 = .ok (.getfield 29, 3) := by decide +kernel
theorem dX2_addCharacter_4 : decode cX2_addCharacter 4 = .ok (.iload_n 1, 1) := by decide +kernel
theorem dX2_addCharacter_5 : decode cX2_addCharacter 5 = .ok (.invokevirtual 35, 3) := by decide +kernel
theorem dX2_addCharacter_8 : decode cX2_addCharacter 8 = .ok (.return_, 1) := by decide +kernel
theorem dX2_isFull_0 : decode cX2_isFull 0 = .ok (.aload_n 0, 1) := by decide +kernel
theorem dX2_isFull_1 : decode cX2_isFull 1 = .ok (.getfield 26, 3) := by decide +kernel
theorem dX2_isFull_4 : decode cX2_isFull 4 = .ok (.invokevirtual 38, 3) := by decide +kernel
theorem dX2_isFull_7 : decode cX2_isFull 7 = .ok (.bipush 120, 2) := by decide +kernel
theorem dX2_isFull_9 : decode cX2_isFull 9 = .ok (.if_icmp .lt 7, 3) := by decide +kernel
theorem dX2_isFull_12 : decode cX2_isFull 12 = .ok (.iconst 1, 1) := by decide +kernel
theorem dX2_isFull_13 : decode cX2_isFull 13 = .ok (.goto 4, 3) := by decide +kernel
theorem dX2_isFull_16 : decode cX2_isFull 16 = .ok (.iconst 0, 1) := by decide +kernel
theorem dX2_isFull_17 : decode cX2_isFull 17 = .ok (.ireturn, 1) := by decide +kernel
theorem dX2_finish_0 : decode cX2_finish 0 = .ok (.aload_n 0, 1) := by decide +kernel
theorem dX2_finish_1 : decode cX2_finish 1 = .ok (.getfield 20, 3) := by decide +kernel
theorem dX2_finish_4 : decode cX2_finish 4 = .ok (.aload_n 0, 1) := by decide +kernel
theorem dX2_finish_5 : decode cX2_finish 5 = .ok (.getfield 23, 3) := by decide +kernel
theorem dX2_finish_8 : decode cX2_finish 8 = .ok (.invokevirtual 38, 3) := by decide +kernel
theorem dX2_finish_11 : decode cX2_finish 11 = .ok (.invokevirtual 35, 3) := by decide +kernel
theorem dX2_finish_14 : decode cX2_finish 14 = .ok (.aload_n 0, 1) := by decide +kernel
theorem dX2_finish_15 : decode cX2_finish 15 = .ok (.getfield 23, 3) := by decide +kernel
theorem dX2_finish_18 : decode cX2_finish 18 = .ok (.aload_n 0, 1) := by decide +kernel
theorem dX2_finish_19 : decode cX2_finish 19 = .ok (.getfield 26, 3) := by decide +kernel
theorem dX2_finish_22 : decode cX2_finish 22 = .ok (.invokevirtual 38, 3) := by decide +kernel
theorem dX2_finish_25 : decode cX2_finish 25 = .ok (.invokevirtual 35, 3) := by decide +kernel
theorem dX2_finish_28 : decode cX2_finish 28 = .ok (.aload_n 0, 1) := by decide +kernel
theorem dX2_finish_29 : decode cX2_finish 29 = .ok (.getfield 26, 3) := by decide +kernel
theorem dX2_finish_32 : decode cX2_finish 32 = .ok (.aload_n 0, 1) := by decide +kernel
theorem dX2_finish_33 : decode cX2_finish 33 = .ok (.getfield 29, 3) := by decide +kernel
theorem dX2_finish_36 : decode cX2_finish 36 = .ok (.invokevirtual 38, 3) := by decide +kernel
theorem dX2_finish_39 : decode cX2_finish 39 = .ok (.invokevirtual 35, 3) := by decide +kernel
theorem dX2_finish_42 : decode cX2_finish 42 = .ok (.return_, 1) := by decide +kernel
theorem dX2_segmentCount_0 : decode cX2_segmentCount 0 = .ok (.aload_n 0, 1) := by decide +kernel
theorem dX2_segmentCount_1 : decode cX2_segmentCount 1 = .ok (.getfield 14, 3) := by decide +kernel
theorem dX2_segmentCount_4 : decode cX2_segmentCount 4 = .ok (.invokevirtual 38, 3) := by decide +kernel
theorem dX2_segmentCount_7 : decode cX2_segmentCount 7 = .ok (.ireturn, 1) := by decide +kernel
theorem dX2_tagOf_0 : decode cX2_tagOf 0 = .ok (.aload_n 0, 1) := by decide +kernel
theorem dX2_tagOf_1 : decode cX2_tagOf 1 = .ok (.getfield 14, 3) := by decide +kernel
theorem dX2_tagOf_4 : decode cX2_tagOf 4 = .ok (.iload_n 1, 1) := by decide +kernel
theorem dX2_tagOf_5 : decode cX2_tagOf 5 = .ok (.invokevirtual 42, 3) := by decide +kernel
theorem dX2_tagOf_8 : decode cX2_tagOf 8 = .ok (.ireturn, 1) := by decide +kernel
theorem dX2_firstElement_0 : decode cX2_firstElement 0 = .ok (.aload_n 0, 1) := by decide +kernel
theorem dX2_firstElement_1 : decode cX2_firstElement 1 = .ok (.getfield 20, 3) := by decide +kernel
theorem dX2_firstElement_4 : decode cX2_firstElement 4 = .ok (.iload_n 1, 1) := by decide +kernel
theorem dX2_firstElement_5 : decode cX2_firstElement 5 = .ok (.invokevirtual 42, 3) := by decide +kernel
theorem dX2_firstElement_8 : decode cX2_firstElement 8 = .ok (.ireturn, 1) := by decide +kernel
theorem dX2_firstComponent_0 : decode cX2_firstComponent 0 = .ok (.aload_n 0, 1) := by decide +kernel
theorem dX2_firstComponent_1 : decode cX2_firstComponent 1 = .ok (.getfield 23, 3) := by decide +kernel
theorem dX2_firstComponent_4 : decode cX2_firstComponent 4 = .ok (.iload_n 1, 1) := by decide +kernel
theorem dX2_firstComponent_5 : decode cX2_firstComponent 5 = .ok (.invokevirtual 42, 3) := by decide +kernel
theorem dX2_firstComponent_8 : decode cX2_firstComponent 8 = .ok (.ireturn, 1) := by decide +kernel
theorem dX2_elementAt_0 : decode cX2_elementAt 0 = .ok (.iload_n 1, 1) := by decide +kernel
theorem dX2_elementAt_1 : decode cX2_elementAt 1 = .ok (.ifCond .lt 18, 3) := by decide +kernel
theorem dX2_elementAt_4 : decode cX2_elementAt 4 = .ok (.iload_n 1, 1) := by decide +kernel
theorem dX2_elementAt_5 : decode cX2_elementAt 5 = .ok (.aload_n 0, 1) := by decide +kernel
theorem dX2_elementAt_6 : decode cX2_elementAt 6 = .ok (.getfield 14, 3) := by decide +kernel
theorem dX2_elementAt_9 : decode cX2_elementAt 9 = .ok (.invokevirtual 38, 3) := by decide +kernel
theorem dX2_elementAt_12 : decode cX2_elementAt 12 = .ok (.if_icmp .ge 7, 3) := by decide +kernel
theorem dX2_elementAt_15 : decode cX2_elementAt 15 = .ok (.iload_n 2, 1) := by decide +kernel
theorem dX2_elementAt_16 : decode cX2_elementAt 16 = .ok (.ifCond .ge 5, 3) := by decide +kernel
theorem dX2_elementAt_19 : decode cX2_elementAt 19 = .ok (.iconst (-1), 1) := by decide +kernel
theorem dX2_elementAt_20 : decode cX2_elementAt 20 = .ok (.ireturn, 1) := by decide +kernel
theorem dX2_elementAt_21 : decode cX2_elementAt 21 = .ok (.aload_n 0, 1) := by decide +kernel
theorem dX2_elementAt_22 : decode cX2_elementAt 22 = .ok (.getfield 20, 3) := by decide +kernel
theorem dX2_elementAt_25 : decode cX2_elementAt 25 = .ok (.iload_n 1, 1) := by decide +kernel
theorem dX2_elementAt_26 : decode cX2_elementAt 26 = .ok (.invokevirtual 42, 3) := by decide +kernel
theorem dX2_elementAt_29 : decode cX2_elementAt 29 = .ok (.istore_n 3, 1) := by decide +kernel
theorem dX2_elementAt_30 : decode cX2_elementAt 30 = .ok (.iload_n 2, 1) := by decide +kernel
theorem dX2_elementAt_31 : decode cX2_elementAt 31 = .ok (.aload_n 0, 1) := by decide +kernel
theorem dX2_elementAt_32 : decode cX2_elementAt 32 = .ok (.getfield 20, 3) := by decide +kernel
theorem dX2_elementAt_35 : decode cX2_elementAt 35 = .ok (.iload_n 1, 1) := by decide +kernel
theorem dX2_elementAt_36 : decode cX2_elementAt 36 = .ok (.iconst 1, 1) := by decide +kernel
theorem dX2_elementAt_37 : decode cX2_elementAt 37 = .ok (.iadd, 1) := by decide +kernel
theorem dX2_elementAt_38 : decode cX2_elementAt 38 = .ok (.invokevirtual 42, 3) := by decide +kernel
theorem dX2_elementAt_41 : decode cX2_elementAt 41 = .ok (.iload_n 3, 1) := by decide +kernel
theorem dX2_elementAt_42 : decode cX2_elementAt 42 = .ok (.isub, 1) := by decide +kernel
theorem dX2_elementAt_43 : decode cX2_elementAt 43 = .ok (.if_icmp .ge 9, 3) := by decide +kernel
theorem dX2_elementAt_46 : decode cX2_elementAt 46 = .ok (.iload_n 3, 1) := by decide +kernel
theorem dX2_elementAt_47 : decode cX2_elementAt 47 = .ok (.iload_n 2, 1) := by decide +kernel
theorem dX2_elementAt_48 : decode cX2_elementAt 48 = .ok (.iadd, 1) := by decide +kernel
theorem dX2_elementAt_49 : decode cX2_elementAt 49 = .ok (.goto 4, 3) := by decide +kernel
theorem dX2_elementAt_52 : decode cX2_elementAt 52 = .ok (.iconst (-1), 1) := by decide +kernel
theorem dX2_elementAt_53 : decode cX2_elementAt 53 = .ok (.ireturn, 1) := by decide +kernel
theorem dX2_componentAt_0 : decode cX2_componentAt 0 = .ok (.aload_n 0, 1) := by decide +kernel
theorem dX2_componentAt_1 : decode cX2_componentAt 1 = .ok (.iload_n 1, 1) := by decide +kernel
theorem dX2_componentAt_2 : decode cX2_componentAt 2 = .ok (.iload_n 2, 1) := by decide +kernel
theorem dX2_componentAt_3 : decode cX2_componentAt 3 = .ok (.invokevirtual 46, 3) := by decide +kernel
theorem dX2_componentAt_6 : decode cX2_componentAt 6 = .ok (.istore 4, 2) := by decide +kernel
theorem dX2_componentAt_8 : decode cX2_componentAt 8 = .ok (.iload 4, 2) := by decide +kernel
theorem dX2_componentAt_10 : decode cX2_componentAt 10 = .ok (.iconst (-1), 1) := by decide +kernel
theorem dX2_componentAt_11 : decode cX2_componentAt 11 = .ok (.if_icmp .eq 7, 3) := by decide +kernel
theorem dX2_componentAt_14 : decode cX2_componentAt 14 = .ok (.iload_n 3, 1) := by decide +kernel
theorem dX2_componentAt_15 : decode cX2_componentAt 15 = .ok (.ifCond .ge 5, 3) := by decide +kernel
theorem dX2_componentAt_18 : decode cX2_componentAt 18 = .ok (.iconst (-1), 1) := by decide +kernel
theorem dX2_componentAt_19 : decode cX2_componentAt 19 = .ok (.ireturn, 1) := by decide +kernel
theorem dX2_componentAt_20 : decode cX2_componentAt 20 = .ok (.aload_n 0, 1) := by decide +kernel
theorem dX2_componentAt_21 : decode cX2_componentAt 21 = .ok (.getfield 23, 3) := by decide +kernel
theorem dX2_componentAt_24 : decode cX2_componentAt 24 = .ok (.iload 4, 2) := by decide +kernel
theorem dX2_componentAt_26 : decode cX2_componentAt 26 = .ok (.invokevirtual 42, 3) := by decide +kernel
theorem dX2_componentAt_29 : decode cX2_componentAt 29 = .ok (.istore 5, 2) := by decide +kernel
theorem dX2_componentAt_31 : decode cX2_componentAt 31 = .ok (.iload_n 3, 1) := by decide +kernel
theorem dX2_componentAt_32 : decode cX2_componentAt 32 = .ok (.aload_n 0, 1) := by decide +kernel
theorem dX2_componentAt_33 : decode cX2_componentAt 33 = .ok (.getfield 23, 3) := by decide +kernel
theorem dX2_componentAt_36 : decode cX2_componentAt 36 = .ok (.iload 4, 2) := by decide +kernel
theorem dX2_componentAt_38 : decode cX2_componentAt 38 = .ok (.iconst 1, 1) := by decide +kernel
theorem dX2_componentAt_39 : decode cX2_componentAt 39 = .ok (.iadd, 1) := by decide +kernel
theorem dX2_componentAt_40 : decode cX2_componentAt 40 = .ok (.invokevirtual 42, 3) := by decide +kernel
theorem dX2_componentAt_43 : decode cX2_componentAt 43 = .ok (.iload 5, 2) := by decide +kernel
theorem dX2_componentAt_45 : decode cX2_componentAt 45 = .ok (.isub, 1) := by decide +kernel
theorem dX2_componentAt_46 : decode cX2_componentAt 46 = .ok (.if_icmp .ge 10, 3) := by decide +kernel
theorem dX2_componentAt_49 : decode cX2_componentAt 49 = .ok (.iload 5, 2) := by decide +kernel
theorem dX2_componentAt_51 : decode cX2_componentAt 51 = .ok (.iload_n 3, 1) := by decide +kernel
theorem dX2_componentAt_52 : decode cX2_componentAt 52 = .ok (.iadd, 1) := by decide +kernel
theorem dX2_componentAt_53 : decode cX2_componentAt 53 = .ok (.goto 4, 3) := by decide +kernel
theorem dX2_componentAt_56 : decode cX2_componentAt 56 = .ok (.iconst (-1), 1) := by decide +kernel
theorem dX2_componentAt_57 : decode cX2_componentAt 57 = .ok (.ireturn, 1) := by decide +kernel
theorem dX2_widthOf_0 : decode cX2_widthOf 0 = .ok (.iload_n 1, 1) := by decide +kernel
theorem dX2_widthOf_1 : decode cX2_widthOf 1 = .ok (.iconst (-1), 1) := by decide +kernel
theorem dX2_widthOf_2 : decode cX2_widthOf 2 = .ok (.if_icmp .ne 7, 3) := by decide +kernel
theorem dX2_widthOf_5 : decode cX2_widthOf 5 = .ok (.iconst 0, 1) := by decide +kernel
theorem dX2_widthOf_6 : decode cX2_widthOf 6 = .ok (.goto 22, 3) := by decide +kernel
theorem dX2_widthOf_9 : decode cX2_widthOf 9 = .ok (.aload_n 0, 1) := by decide +kernel
theorem dX2_widthOf_10 : decode cX2_widthOf 10 = .ok (.getfield 26, 3) := by decide +kernel
theorem dX2_widthOf_13 : decode cX2_widthOf 13 = .ok (.iload_n 1, 1) := by decide +kernel
theorem dX2_widthOf_14 : decode cX2_widthOf 14 = .ok (.iconst 1, 1) := by decide +kernel
theorem dX2_widthOf_15 : decode cX2_widthOf 15 = .ok (.iadd, 1) := by decide +kernel
theorem dX2_widthOf_16 : decode cX2_widthOf 16 = .ok (.invokevirtual 42, 3) := by decide +kernel
theorem dX2_widthOf_19 : decode cX2_widthOf 19 = .ok (.aload_n 0, 1) := by decide +kernel
theorem dX2_widthOf_20 : decode cX2_widthOf 20 = .ok (.getfield 26, 3) := by decide +kernel
theorem dX2_widthOf_23 : decode cX2_widthOf 23 = .ok (.iload_n 1, 1) := by decide +kernel
theorem dX2_widthOf_24 : decode cX2_widthOf 24 = .ok (.invokevirtual 42, 3) := by decide +kernel
theorem dX2_widthOf_27 : decode cX2_widthOf 27 = .ok (.isub, 1) := by decide +kernel
theorem dX2_widthOf_28 : decode cX2_widthOf 28 = .ok (.ireturn, 1) := by decide +kernel
theorem dX2_characterOf_0 : decode cX2_characterOf 0 = .ok (.iload_n 2, 1) := by decide +kernel
theorem dX2_characterOf_1 : decode cX2_characterOf 1 = .ok (.ifCond .lt 32, 3) := by decide +kernel
theorem dX2_characterOf_4 : decode cX2_characterOf 4 = .ok (.iload_n 2, 1) := by decide +kernel
theorem dX2_characterOf_5 : decode cX2_characterOf 5 = .ok (.aload_n 0, 1) := by decide +kernel
theorem dX2_characterOf_6 : decode cX2_characterOf 6 = .ok (.iload_n 1, 1) := by decide +kernel
theorem dX2_characterOf_7 : decode cX2_characterOf 7 = .ok (.invokevirtual 50, 3) := by decide +kernel
theorem dX2_characterOf_10 : decode cX2_characterOf 10 = .ok (.if_icmp .ge 23, 3) := by decide +kernel
theorem dX2_characterOf_13 : decode cX2_characterOf 13 = .ok (.aload_n 0, 1) := by decide +kernel
theorem dX2_characterOf_14 : decode cX2_characterOf 14 = .ok (.getfield 29, 3) := by decide +kernel
theorem dX2_characterOf_17 : decode cX2_characterOf 17 = .ok (.aload_n 0, 1) := by decide +kernel
theorem dX2_characterOf_18 : decode cX2_characterOf 18 = .ok (.getfield 26, 3) := by decide +kernel
theorem dX2_characterOf_21 : decode cX2_characterOf 21 = .ok (.iload_n 1, 1) := by decide +kernel
theorem dX2_characterOf_22 : decode cX2_characterOf 22 = .ok (.invokevirtual 42, 3) := by decide +kernel
theorem dX2_characterOf_25 : decode cX2_characterOf 25 = .ok (.iload_n 2, 1) := by decide +kernel
theorem dX2_characterOf_26 : decode cX2_characterOf 26 = .ok (.iadd, 1) := by decide +kernel
theorem dX2_characterOf_27 : decode cX2_characterOf 27 = .ok (.invokevirtual 42, 3) := by decide +kernel
theorem dX2_characterOf_30 : decode cX2_characterOf 30 = .ok (.goto 4, 3) := by decide +kernel
theorem dX2_characterOf_33 : decode cX2_characterOf 33 = .ok (.iconst (-1), 1) := by decide +kernel
theorem dX2_characterOf_34 : decode cX2_characterOf 34 = .ok (.ireturn, 1) := by decide +kernel
theorem dX2_look_0 : decode cX2_look 0 = .ok (.iload_n 1, 1) := by decide +kernel
theorem dX2_look_1 : decode cX2_look 1 = .ok (.ifCond .lt 14, 3) := by decide +kernel
theorem dX2_look_4 : decode cX2_look 4 = .ok (.iload_n 1, 1) := by decide +kernel
theorem dX2_look_5 : decode cX2_look 5 = .ok (.aload_n 0, 1) := by decide +kernel
theorem dX2_look_6 : decode cX2_look 6 = .ok (.getfield 14, 3) := by decide +kernel
theorem dX2_look_9 : decode cX2_look 9 = .ok (.invokevirtual 38, 3) := by decide +kernel
theorem dX2_look_12 : decode cX2_look 12 = .ok (.if_icmp .lt 5, 3) := by decide +kernel
theorem dX2_look_15 : decode cX2_look 15 = .ok (.iconst (-1), 1) := by decide +kernel
theorem dX2_look_16 : decode cX2_look 16 = .ok (.ireturn, 1) := by decide +kernel
theorem dX2_look_17 : decode cX2_look 17 = .ok (.iload_n 2, 1) := by decide +kernel
theorem dX2_look_18 : decode cX2_look 18 = .ok (.bipush (-2), 2) := by decide +kernel
theorem dX2_look_20 : decode cX2_look 20 = .ok (.if_icmp .ne 12, 3) := by decide +kernel
theorem dX2_look_23 : decode cX2_look 23 = .ok (.aload_n 0, 1) := by decide +kernel
theorem dX2_look_24 : decode cX2_look 24 = .ok (.getfield 14, 3) := by decide +kernel
theorem dX2_look_27 : decode cX2_look 27 = .ok (.iload_n 1, 1) := by decide +kernel
theorem dX2_look_28 : decode cX2_look 28 = .ok (.invokevirtual 42, 3) := by decide +kernel
theorem dX2_look_31 : decode cX2_look 31 = .ok (.ireturn, 1) := by decide +kernel
theorem dX2_look_32 : decode cX2_look 32 = .ok (.iload_n 2, 1) := by decide +kernel
theorem dX2_look_33 : decode cX2_look 33 = .ok (.iconst (-1), 1) := by decide +kernel
theorem dX2_look_34 : decode cX2_look 34 = .ok (.if_icmp .ne 23, 3) := by decide +kernel
theorem dX2_look_37 : decode cX2_look 37 = .ok (.aload_n 0, 1) := by decide +kernel
theorem dX2_look_38 : decode cX2_look 38 = .ok (.getfield 20, 3) := by decide +kernel
theorem dX2_look_41 : decode cX2_look 41 = .ok (.iload_n 1, 1) := by decide +kernel
theorem dX2_look_42 : decode cX2_look 42 = .ok (.iconst 1, 1) := by decide +kernel
theorem dX2_look_43 : decode cX2_look 43 = .ok (.iadd, 1) := by decide +kernel
theorem dX2_look_44 : decode cX2_look 44 = .ok (.invokevirtual 42, 3) := by decide +kernel
theorem dX2_look_47 : decode cX2_look 47 = .ok (.aload_n 0, 1) := by decide +kernel
theorem dX2_look_48 : decode cX2_look 48 = .ok (.getfield 20, 3) := by decide +kernel
theorem dX2_look_51 : decode cX2_look 51 = .ok (.iload_n 1, 1) := by decide +kernel
theorem dX2_look_52 : decode cX2_look 52 = .ok (.invokevirtual 42, 3) := by decide +kernel
theorem dX2_look_55 : decode cX2_look 55 = .ok (.isub, 1) := by decide +kernel
theorem dX2_look_56 : decode cX2_look 56 = .ok (.ireturn, 1) := by decide +kernel
theorem dX2_look_57 : decode cX2_look 57 = .ok (.aload_n 0, 1) := by decide +kernel
theorem dX2_look_58 : decode cX2_look 58 = .ok (.iload_n 1, 1) := by decide +kernel
theorem dX2_look_59 : decode cX2_look 59 = .ok (.iload_n 2, 1) := by decide +kernel
theorem dX2_look_60 : decode cX2_look 60 = .ok (.invokevirtual 46, 3) := by decide +kernel
theorem dX2_look_63 : decode cX2_look 63 = .ok (.istore 5, 2) := by decide +kernel
theorem dX2_look_65 : decode cX2_look 65 = .ok (.iload 5, 2) := by decide +kernel
theorem dX2_look_67 : decode cX2_look 67 = .ok (.iconst (-1), 1) := by decide +kernel
theorem dX2_look_68 : decode cX2_look 68 = .ok (.if_icmp .ne 5, 3) := by decide +kernel
theorem dX2_look_71 : decode cX2_look 71 = .ok (.iconst (-1), 1) := by decide +kernel
theorem dX2_look_72 : decode cX2_look 72 = .ok (.ireturn, 1) := by decide +kernel
theorem dX2_look_73 : decode cX2_look 73 = .ok (.iload_n 3, 1) := by decide +kernel
theorem dX2_look_74 : decode cX2_look 74 = .ok (.iconst (-1), 1) := by decide +kernel
theorem dX2_look_75 : decode cX2_look 75 = .ok (.if_icmp .ne 25, 3) := by decide +kernel
theorem dX2_look_78 : decode cX2_look 78 = .ok (.aload_n 0, 1) := by decide +kernel
theorem dX2_look_79 : decode cX2_look 79 = .ok (.getfield 23, 3) := by decide +kernel
theorem dX2_look_82 : decode cX2_look 82 = .ok (.iload 5, 2) := by decide +kernel
theorem dX2_look_84 : decode cX2_look 84 = .ok (.iconst 1, 1) := by decide +kernel
theorem dX2_look_85 : decode cX2_look 85 = .ok (.iadd, 1) := by decide +kernel
theorem dX2_look_86 : decode cX2_look 86 = .ok (.invokevirtual 42, 3) := by decide +kernel
theorem dX2_look_89 : decode cX2_look 89 = .ok (.aload_n 0, 1) := by decide +kernel
theorem dX2_look_90 : decode cX2_look 90 = .ok (.getfield 23, 3) := by decide +kernel
theorem dX2_look_93 : decode cX2_look 93 = .ok (.iload 5, 2) := by decide +kernel
theorem dX2_look_95 : decode cX2_look 95 = .ok (.invokevirtual 42, 3) := by decide +kernel
theorem dX2_look_98 : decode cX2_look 98 = .ok (.isub, 1) := by decide +kernel
theorem dX2_look_99 : decode cX2_look 99 = .ok (.ireturn, 1) := by decide +kernel
theorem dX2_look_100 : decode cX2_look 100 = .ok (.aload_n 0, 1) := by decide +kernel
theorem dX2_look_101 : decode cX2_look 101 = .ok (.iload_n 1, 1) := by decide +kernel
theorem dX2_look_102 : decode cX2_look 102 = .ok (.iload_n 2, 1) := by decide +kernel
theorem dX2_look_103 : decode cX2_look 103 = .ok (.iload_n 3, 1) := by decide +kernel
theorem dX2_look_104 : decode cX2_look 104 = .ok (.invokevirtual 53, 3) := by decide +kernel
theorem dX2_look_107 : decode cX2_look 107 = .ok (.istore 6, 2) := by decide +kernel
theorem dX2_look_109 : decode cX2_look 109 = .ok (.iload 6, 2) := by decide +kernel
theorem dX2_look_111 : decode cX2_look 111 = .ok (.iconst (-1), 1) := by decide +kernel
theorem dX2_look_112 : decode cX2_look 112 = .ok (.if_icmp .ne 5, 3) := by decide +kernel
theorem dX2_look_115 : decode cX2_look 115 = .ok (.iconst (-1), 1) := by decide +kernel
theorem dX2_look_116 : decode cX2_look 116 = .ok (.ireturn, 1) := by decide +kernel
theorem dX2_look_117 : decode cX2_look 117 = .ok (.iload 4, 2) := by decide +kernel
theorem dX2_look_119 : decode cX2_look 119 = .ok (.iconst (-1), 1) := by decide +kernel
theorem dX2_look_120 : decode cX2_look 120 = .ok (.if_icmp .ne 12, 3) := by decide +kernel
theorem dX2_look_123 : decode cX2_look 123 = .ok (.aload_n 0, 1) := by decide +kernel
theorem dX2_look_124 : decode cX2_look 124 = .ok (.iload 6, 2) := by decide +kernel
theorem dX2_look_126 : decode cX2_look 126 = .ok (.invokevirtual 50, 3) := by decide +kernel
theorem dX2_look_129 : decode cX2_look 129 = .ok (.goto 11, 3) := by decide +kernel
theorem dX2_look_132 : decode cX2_look 132 = .ok (.aload_n 0, 1) := by decide +kernel
theorem dX2_look_133 : decode cX2_look 133 = .ok (.iload 6, 2) := by decide +kernel
theorem dX2_look_135 : decode cX2_look 135 = .ok (.iload 4, 2) := by decide +kernel
theorem dX2_look_137 : decode cX2_look 137 = .ok (.invokevirtual 57, 3) := by decide +kernel
theorem dX2_look_140 : decode cX2_look 140 = .ok (.ireturn, 1) := by decide +kernel
theorem dX2_filledEnd_0 : decode cX2_filledEnd 0 = .ok (.aload_n 0, 1) := by decide +kernel
theorem dX2_filledEnd_1 : decode cX2_filledEnd 1 = .ok (.getfield 23, 3) := by decide +kernel
theorem dX2_filledEnd_4 : decode cX2_filledEnd 4 = .ok (.iload_n 1, 1) := by decide +kernel
theorem dX2_filledEnd_5 : decode cX2_filledEnd 5 = .ok (.invokevirtual 42, 3) := by decide +kernel
theorem dX2_filledEnd_8 : decode cX2_filledEnd 8 = .ok (.istore_n 2, 1) := by decide +kernel
theorem dX2_filledEnd_9 : decode cX2_filledEnd 9 = .ok (.aload_n 0, 1) := by decide +kernel
theorem dX2_filledEnd_10 : decode cX2_filledEnd 10 = .ok (.getfield 23, 3) := by decide +kernel
theorem dX2_filledEnd_13 : decode cX2_filledEnd 13 = .ok (.iload_n 1, 1) := by decide +kernel
theorem dX2_filledEnd_14 : decode cX2_filledEnd 14 = .ok (.iconst 1, 1) := by decide +kernel
theorem dX2_filledEnd_15 : decode cX2_filledEnd 15 = .ok (.iadd, 1) := by decide +kernel
theorem dX2_filledEnd_16 : decode cX2_filledEnd 16 = .ok (.invokevirtual 42, 3) := by decide +kernel
theorem dX2_filledEnd_19 : decode cX2_filledEnd 19 = .ok (.istore_n 3, 1) := by decide +kernel
theorem dX2_filledEnd_20 : decode cX2_filledEnd 20 = .ok (.iload_n 3, 1) := by decide +kernel
theorem dX2_filledEnd_21 : decode cX2_filledEnd 21 = .ok (.iload_n 2, 1) := by decide +kernel
theorem dX2_filledEnd_22 : decode cX2_filledEnd 22 = .ok (.if_icmp .le 32, 3) := by decide +kernel
theorem dX2_filledEnd_25 : decode cX2_filledEnd 25 = .ok (.aload_n 0, 1) := by decide +kernel
theorem dX2_filledEnd_26 : decode cX2_filledEnd 26 = .ok (.getfield 26, 3) := by decide +kernel
theorem dX2_filledEnd_29 : decode cX2_filledEnd 29 = .ok (.iload_n 3, 1) := by decide +kernel
theorem dX2_filledEnd_30 : decode cX2_filledEnd 30 = .ok (.invokevirtual 42, 3) := by decide +kernel
theorem dX2_filledEnd_33 : decode cX2_filledEnd 33 = .ok (.aload_n 0, 1) := by decide +kernel
theorem dX2_filledEnd_34 : decode cX2_filledEnd 34 = .ok (.getfield 26, 3) := by decide +kernel
theorem dX2_filledEnd_37 : decode cX2_filledEnd 37 = .ok (.iload_n 3, 1) := by decide +kernel
theorem dX2_filledEnd_38 : decode cX2_filledEnd 38 = .ok (.iconst 1, 1) := by decide +kernel
theorem dX2_filledEnd_39 : decode cX2_filledEnd 39 = .ok (.isub, 1) := by decide +kernel
theorem dX2_filledEnd_40 : decode cX2_filledEnd 40 = .ok (.invokevirtual 42, 3) := by decide +kernel
theorem dX2_filledEnd_43 : decode cX2_filledEnd 43 = .ok (.if_icmp .le 5, 3) := by decide +kernel
theorem dX2_filledEnd_46 : decode cX2_filledEnd 46 = .ok (.iload_n 3, 1) := by decide +kernel
theorem dX2_filledEnd_47 : decode cX2_filledEnd 47 = .ok (.ireturn, 1) := by decide +kernel
theorem dX2_filledEnd_48 : decode cX2_filledEnd 48 = .ok (.iinc 3 (-1), 3) := by decide +kernel
theorem dX2_filledEnd_51 : decode cX2_filledEnd 51 = .ok (.goto (-31), 3) := by decide +kernel
theorem dX2_filledEnd_54 : decode cX2_filledEnd 54 = .ok (.iload_n 2, 1) := by decide +kernel
theorem dX2_filledEnd_55 : decode cX2_filledEnd 55 = .ok (.ireturn, 1) := by decide +kernel
theorem dX2_filledElementEnd_0 : decode cX2_filledElementEnd 0 = .ok (.aload_n 0, 1) := by decide +kernel
theorem dX2_filledElementEnd_1 : decode cX2_filledElementEnd 1 = .ok (.getfield 20, 3) := by decide +kernel
theorem dX2_filledElementEnd_4 : decode cX2_filledElementEnd 4 = .ok (.iload_n 1, 1) := by decide +kernel
theorem dX2_filledElementEnd_5 : decode cX2_filledElementEnd 5 = .ok (.invokevirtual 42, 3) := by decide +kernel
theorem dX2_filledElementEnd_8 : decode cX2_filledElementEnd 8 = .ok (.istore_n 2, 1) := by decide +kernel
theorem dX2_filledElementEnd_9 : decode cX2_filledElementEnd 9 = .ok (.aload_n 0, 1) := by decide +kernel
theorem dX2_filledElementEnd_10 : decode cX2_filledElementEnd 10 = .ok (.getfield 20, 3) := by decide +kernel
theorem dX2_filledElementEnd_13 : decode cX2_filledElementEnd 13 = .ok (.iload_n 1, 1) := by decide +kernel
theorem dX2_filledElementEnd_14 : decode cX2_filledElementEnd 14 = .ok (.iconst 1, 1) := by decide +kernel
theorem dX2_filledElementEnd_15 : decode cX2_filledElementEnd 15 = .ok (.iadd, 1) := by decide +kernel
theorem dX2_filledElementEnd_16 : decode cX2_filledElementEnd 16 = .ok (.invokevirtual 42, 3) := by decide +kernel
theorem dX2_filledElementEnd_19 : decode cX2_filledElementEnd 19 = .ok (.istore_n 3, 1) := by decide +kernel
theorem dX2_filledElementEnd_20 : decode cX2_filledElementEnd 20 = .ok (.iload_n 3, 1) := by decide +kernel
theorem dX2_filledElementEnd_21 : decode cX2_filledElementEnd 21 = .ok (.iload_n 2, 1) := by decide +kernel
theorem dX2_filledElementEnd_22 : decode cX2_filledElementEnd 22 = .ok (.if_icmp .le 31, 3) := by decide +kernel
theorem dX2_filledElementEnd_25 : decode cX2_filledElementEnd 25 = .ok (.aload_n 0, 1) := by decide +kernel
theorem dX2_filledElementEnd_26 : decode cX2_filledElementEnd 26 = .ok (.iload_n 3, 1) := by decide +kernel
theorem dX2_filledElementEnd_27 : decode cX2_filledElementEnd 27 = .ok (.iconst 1, 1) := by decide +kernel
theorem dX2_filledElementEnd_28 : decode cX2_filledElementEnd 28 = .ok (.isub, 1) := by decide +kernel
theorem dX2_filledElementEnd_29 : decode cX2_filledElementEnd 29 = .ok (.invokevirtual 60, 3) := by decide +kernel
theorem dX2_filledElementEnd_32 : decode cX2_filledElementEnd 32 = .ok (.aload_n 0, 1) := by decide +kernel
theorem dX2_filledElementEnd_33 : decode cX2_filledElementEnd 33 = .ok (.getfield 23, 3) := by decide +kernel
theorem dX2_filledElementEnd_36 : decode cX2_filledElementEnd 36 = .ok (.iload_n 3, 1) := by decide +kernel
theorem dX2_filledElementEnd_37 : decode cX2_filledElementEnd 37 = .ok (.iconst 1, 1) := by decide +kernel
theorem dX2_filledElementEnd_38 : decode cX2_filledElementEnd 38 = .ok (.isub, 1) := by decide +kernel
theorem dX2_filledElementEnd_39 : decode cX2_filledElementEnd 39 = .ok (.invokevirtual 42, 3) := by decide +kernel
theorem dX2_filledElementEnd_42 : decode cX2_filledElementEnd 42 = .ok (.if_icmp .le 5, 3) := by decide +kernel
theorem dX2_filledElementEnd_45 : decode cX2_filledElementEnd 45 = .ok (.iload_n 3, 1) := by decide +kernel
theorem dX2_filledElementEnd_46 : decode cX2_filledElementEnd 46 = .ok (.ireturn, 1) := by decide +kernel
theorem dX2_filledElementEnd_47 : decode cX2_filledElementEnd 47 = .ok (.iinc 3 (-1), 3) := by decide +kernel
theorem dX2_filledElementEnd_50 : decode cX2_filledElementEnd 50 = .ok (.goto (-30), 3) := by decide +kernel
theorem dX2_filledElementEnd_53 : decode cX2_filledElementEnd 53 = .ok (.iload_n 2, 1) := by decide +kernel
theorem dX2_filledElementEnd_54 : decode cX2_filledElementEnd 54 = .ok (.ireturn, 1) := by decide +kernel
theorem dX2_areSame_0 : decode cX2_areSame 0 = .ok (.aload_n 0, 1) := by decide +kernel
theorem dX2_areSame_1 : decode cX2_areSame 1 = .ok (.iload_n 1, 1) := by decide +kernel
theorem dX2_areSame_2 : decode cX2_areSame 2 = .ok (.invokevirtual 50, 3) := by decide +kernel
theorem dX2_areSame_5 : decode cX2_areSame 5 = .ok (.istore_n 3, 1) := by decide +kernel
theorem dX2_areSame_6 : decode cX2_areSame 6 = .ok (.iload_n 3, 1) := by decide +kernel
theorem dX2_areSame_7 : decode cX2_areSame 7 = .ok (.aload_n 0, 1) := by decide +kernel
theorem dX2_areSame_8 : decode cX2_areSame 8 = .ok (.iload_n 2, 1) := by decide +kernel
theorem dX2_areSame_9 : decode cX2_areSame 9 = .ok (.invokevirtual 50, 3) := by decide +kernel
theorem dX2_areSame_12 : decode cX2_areSame 12 = .ok (.if_icmp .eq 5, 3) := by decide +kernel
theorem dX2_areSame_15 : decode cX2_areSame 15 = .ok (.iconst 0, 1) := by decide +kernel
theorem dX2_areSame_16 : decode cX2_areSame 16 = .ok (.ireturn, 1) := by decide +kernel
theorem dX2_areSame_17 : decode cX2_areSame 17 = .ok (.iconst 0, 1) := by decide +kernel
theorem dX2_areSame_18 : decode cX2_areSame 18 = .ok (.istore 4, 2) := by decide +kernel
theorem dX2_areSame_20 : decode cX2_areSame 20 = .ok (.iload 4, 2) := by decide +kernel
theorem dX2_areSame_22 : decode cX2_areSame 22 = .ok (.iload_n 3, 1) := by decide +kernel
theorem dX2_areSame_23 : decode cX2_areSame 23 = .ok (.if_icmp .ge 28, 3) := by decide +kernel
theorem dX2_areSame_26 : decode cX2_areSame 26 = .ok (.aload_n 0, 1) := by decide +kernel
theorem dX2_areSame_27 : decode cX2_areSame 27 = .ok (.iload_n 1, 1) := by decide +kernel
theorem dX2_areSame_28 : decode cX2_areSame 28 = .ok (.iload 4, 2) := by decide +kernel
theorem dX2_areSame_30 : decode cX2_areSame 30 = .ok (.invokevirtual 57, 3) := by decide +kernel
theorem dX2_areSame_33 : decode cX2_areSame 33 = .ok (.aload_n 0, 1) := by decide +kernel
theorem dX2_areSame_34 : decode cX2_areSame 34 = .ok (.iload_n 2, 1) := by decide +kernel
theorem dX2_areSame_35 : decode cX2_areSame 35 = .ok (.iload 4, 2) := by decide +kernel
theorem dX2_areSame_37 : decode cX2_areSame 37 = .ok (.invokevirtual 57, 3) := by decide +kernel
theorem dX2_areSame_40 : decode cX2_areSame 40 = .ok (.if_icmp .eq 5, 3) := by decide +kernel
theorem dX2_areSame_43 : decode cX2_areSame 43 = .ok (.iconst 0, 1) := by decide +kernel
theorem dX2_areSame_44 : decode cX2_areSame 44 = .ok (.ireturn, 1) := by decide +kernel
theorem dX2_areSame_45 : decode cX2_areSame 45 = .ok (.iinc 4 1, 3) := by decide +kernel
theorem dX2_areSame_48 : decode cX2_areSame 48 = .ok (.goto (-28), 3) := by decide +kernel
theorem dX2_areSame_51 : decode cX2_areSame 51 = .ok (.iconst 1, 1) := by decide +kernel
theorem dX2_areSame_52 : decode cX2_areSame 52 = .ok (.ireturn, 1) := by decide +kernel
theorem dX2_isNumber_0 : decode cX2_isNumber 0 = .ok (.aload_n 0, 1) := by decide +kernel
theorem dX2_isNumber_1 : decode cX2_isNumber 1 = .ok (.iload_n 1, 1) := by decide +kernel
theorem dX2_isNumber_2 : decode cX2_isNumber 2 = .ok (.invokevirtual 50, 3) := by decide +kernel
theorem dX2_isNumber_5 : decode cX2_isNumber 5 = .ok (.istore_n 3, 1) := by decide +kernel
theorem dX2_isNumber_6 : decode cX2_isNumber 6 = .ok (.iload_n 3, 1) := by decide +kernel
theorem dX2_isNumber_7 : decode cX2_isNumber 7 = .ok (.iconst 1, 1) := by decide +kernel
theorem dX2_isNumber_8 : decode cX2_isNumber 8 = .ok (.if_icmp .lt 24, 3) := by decide +kernel
theorem dX2_isNumber_11 : decode cX2_isNumber 11 = .ok (.iload_n 3, 1) := by decide +kernel
theorem dX2_isNumber_12 : decode cX2_isNumber 12 = .ok (.iconst 3, 1) := by decide +kernel
theorem dX2_isNumber_13 : decode cX2_isNumber 13 = .ok (.if_icmp .gt 19, 3) := by decide +kernel
theorem dX2_isNumber_16 : decode cX2_isNumber 16 = .ok (.iload_n 3, 1) := by decide +kernel
theorem dX2_isNumber_17 : decode cX2_isNumber 17 = .ok (.iconst 1, 1) := by decide +kernel
theorem dX2_isNumber_18 : decode cX2_isNumber 18 = .ok (.if_icmp .le 16, 3) := by decide +kernel
theorem dX2_isNumber_21 : decode cX2_isNumber 21 = .ok (.aload_n 0, 1) := by decide +kernel
theorem dX2_isNumber_22 : decode cX2_isNumber 22 = .ok (.iload_n 1, 1) := by decide +kernel
theorem dX2_isNumber_23 : decode cX2_isNumber 23 = .ok (.iconst 0, 1) := by decide +kernel
theorem dX2_isNumber_24 : decode cX2_isNumber 24 = .ok (.invokevirtual 57, 3) := by decide +kernel
theorem dX2_isNumber_27 : decode cX2_isNumber 27 = .ok (.bipush 48, 2) := by decide +kernel
theorem dX2_isNumber_29 : decode cX2_isNumber 29 = .ok (.if_icmp .ne 5, 3) := by decide +kernel
theorem dX2_isNumber_32 : decode cX2_isNumber 32 = .ok (.iconst 0, 1) := by decide +kernel
theorem dX2_isNumber_33 : decode cX2_isNumber 33 = .ok (.ireturn, 1) := by decide +kernel
theorem dX2_isNumber_34 : decode cX2_isNumber 34 = .ok (.iconst 0, 1) := by decide +kernel
theorem dX2_isNumber_35 : decode cX2_isNumber 35 = .ok (.istore 4, 2) := by decide +kernel
theorem dX2_isNumber_37 : decode cX2_isNumber 37 = .ok (.iconst 0, 1) := by decide +kernel
theorem dX2_isNumber_38 : decode cX2_isNumber 38 = .ok (.istore 5, 2) := by decide +kernel
theorem dX2_isNumber_40 : decode cX2_isNumber 40 = .ok (.iload 5, 2) := by decide +kernel
theorem dX2_isNumber_42 : decode cX2_isNumber 42 = .ok (.iload_n 3, 1) := by decide +kernel
theorem dX2_isNumber_43 : decode cX2_isNumber 43 = .ok (.if_icmp .ge 41, 3) := by decide +kernel
theorem dX2_isNumber_46 : decode cX2_isNumber 46 = .ok (.aload_n 0, 1) := by decide +kernel
theorem dX2_isNumber_47 : decode cX2_isNumber 47 = .ok (.iload_n 1, 1) := by decide +kernel
theorem dX2_isNumber_48 : decode cX2_isNumber 48 = .ok (.iload 5, 2) := by decide +kernel
theorem dX2_isNumber_50 : decode cX2_isNumber 50 = .ok (.invokevirtual 57, 3) := by decide +kernel
theorem dX2_isNumber_53 : decode cX2_isNumber 53 = .ok (.istore 6, 2) := by decide +kernel
theorem dX2_isNumber_55 : decode cX2_isNumber 55 = .ok (.iload 6, 2) := by decide +kernel
theorem dX2_isNumber_57 : decode cX2_isNumber 57 = .ok (.invokestatic 63, 3) := by decide +kernel
theorem dX2_isNumber_60 : decode cX2_isNumber 60 = .ok (.ifCond .ne 5, 3) := by decide +kernel
theorem dX2_isNumber_63 : decode cX2_isNumber 63 = .ok (.iconst 0, 1) := by decide +kernel
theorem dX2_isNumber_64 : decode cX2_isNumber 64 = .ok (.ireturn, 1) := by decide +kernel
theorem dX2_isNumber_65 : decode cX2_isNumber 65 = .ok (.bipush 10, 2) := by decide +kernel
theorem dX2_isNumber_67 : decode cX2_isNumber 67 = .ok (.iload 4, 2) := by decide +kernel
theorem dX2_isNumber_69 : decode cX2_isNumber 69 = .ok (.imul, 1) := by decide +kernel
theorem dX2_isNumber_70 : decode cX2_isNumber 70 = .ok (.iload 6, 2) := by decide +kernel
theorem dX2_isNumber_72 : decode cX2_isNumber 72 = .ok (.bipush 48, 2) := by decide +kernel
theorem dX2_isNumber_74 : decode cX2_isNumber 74 = .ok (.isub, 1) := by decide +kernel
theorem dX2_isNumber_75 : decode cX2_isNumber 75 = .ok (.iadd, 1) := by decide +kernel
theorem dX2_isNumber_76 : decode cX2_isNumber 76 = .ok (.istore 4, 2) := by decide +kernel
theorem dX2_isNumber_78 : decode cX2_isNumber 78 = .ok (.iinc 5 1, 3) := by decide +kernel
theorem dX2_isNumber_81 : decode cX2_isNumber 81 = .ok (.goto (-41), 3) := by decide +kernel
theorem dX2_isNumber_84 : decode cX2_isNumber 84 = .ok (.iload 4, 2) := by decide +kernel
theorem dX2_isNumber_86 : decode cX2_isNumber 86 = .ok (.iload_n 2, 1) := by decide +kernel
theorem dX2_isNumber_87 : decode cX2_isNumber 87 = .ok (.if_icmp .ne 7, 3) := by decide +kernel
theorem dX2_isNumber_90 : decode cX2_isNumber 90 = .ok (.iconst 1, 1) := by decide +kernel
theorem dX2_isNumber_91 : decode cX2_isNumber 91 = .ok (.goto 4, 3) := by decide +kernel
theorem dX2_isNumber_94 : decode cX2_isNumber 94 = .ok (.iconst 0, 1) := by decide +kernel
theorem dX2_isNumber_95 : decode cX2_isNumber 95 = .ok (.ireturn, 1) := by decide +kernel
theorem dX3_init_0 : decode cX3_init 0 = .ok (.aload_n 0, 1) := by decide +kernel
theorem dX3_init_1 : decode cX3_init 1 = .ok (.invokespecial 3, 3) := by decide +kernel
theorem dX3_init_4 : decode cX3_init 4 = .ok (.aload_n 0, 1) := by decide +kernel
theorem dX3_init_5 : decode cX3_init 5 = .ok (.iconst 0, 1) := by decide +kernel
theorem dX3_init_6 : decode cX3_init 6 = .ok (.putfield 9, 3) := by decide +kernel
theorem dX3_init_9 : decode cX3_init 9 = .ok (.aload_n 0, 1) := by decide +kernel
theorem dX3_init_10 : decode cX3_init 10 = .ok (.iload_n 1, 1) := by decide +kernel
theorem dX3_init_11 : decode cX3_init 11 = .ok (.iconst 0, 1) := by decide +kernel
theorem dX3_init_12 : decode cX3_init 12 = .ok (.invokestatic 15, 3) := by decide +kernel
theorem dX3_init_15 : decode cX3_init 15 = .ok (.newarray .int, 2) := by decide +kernel
theorem dX3_init_17 : decode cX3_init 17 = .ok (.putfield 21, 3) := by decide +kernel
theorem dX3_init_20 : decode cX3_init 20 = .ok (.return_, 1) := by decide +kernel
theorem dX3_size_0 : decode cX3_size 0 = .ok (.aload_n 0, 1) := by decide +kernel
theorem dX3_size_1 : decode cX3_size 1 = .ok (.getfield 9, 3) := by decide +kernel
theorem dX3_size_4 : decode cX3_size 4 = .ok (.ireturn, 1) := by decide +kernel
theorem dX3_at_0 : decode cX3_at 0 = .ok (.iload_n 1, 1) := by decide +kernel
theorem dX3_at_1 : decode cX3_at 1 = .ok (.ifCond .lt 29, 3) := by decide +kernel
theorem dX3_at_4 : decode cX3_at 4 = .ok (.iload_n 1, 1) := by decide +kernel
theorem dX3_at_5 : decode cX3_at 5 = .ok (.aload_n 0, 1) := by decide +kernel
theorem dX3_at_6 : decode cX3_at 6 = .ok (.getfield 9, 3) := by decide +kernel
theorem dX3_at_9 : decode cX3_at 9 = .ok (.if_icmp .ge 21, 3) := by decide +kernel
theorem dX3_at_12 : decode cX3_at 12 = .ok (.iload_n 1, 1) := by decide +kernel
theorem dX3_at_13 : decode cX3_at 13 = .ok (.aload_n 0, 1) := by decide +kernel
theorem dX3_at_14 : decode cX3_at 14 = .ok (.getfield 21, 3) := by decide +kernel
theorem dX3_at_17 : decode cX3_at 17 = .ok (.arraylength, 1) := by decide +kernel
theorem dX3_at_18 : decode cX3_at 18 = .ok (.if_icmp .ge 12, 3) := by decide +kernel
theorem dX3_at_21 : decode cX3_at 21 = .ok (.aload_n 0, 1) := by decide +kernel
theorem dX3_at_22 : decode cX3_at 22 = .ok (.getfield 21, 3) := by decide +kernel
theorem dX3_at_25 : decode cX3_at 25 = .ok (.iload_n 1, 1) := by decide +kernel
theorem dX3_at_26 : decode cX3_at 26 = .ok (.iaload, 1) := by decide +kernel
theorem dX3_at_27 : decode cX3_at 27 = .ok (.goto 4, 3) := by decide +kernel
theorem dX3_at_30 : decode cX3_at 30 = .ok (.iconst (-1), 1) := by decide +kernel
theorem dX3_at_31 : decode cX3_at 31 = .ok (.ireturn, 1) := by decide +kernel
theorem dX3_add_0 : decode cX3_add 0 = .ok (.aload_n 0, 1) := by decide +kernel
theorem dX3_add_1 : decode cX3_add 1 = .ok (.getfield 9, 3) := by decide +kernel
theorem dX3_add_4 : decode cX3_add 4 = .ok (.ifCond .lt 35, 3) := by decide +kernel
theorem dX3_add_7 : decode cX3_add 7 = .ok (.aload_n 0, 1) := by decide +kernel
theorem dX3_add_8 : decode cX3_add 8 = .ok (.getfield 9, 3) := by decide +kernel
theorem dX3_add_11 : decode cX3_add 11 = .ok (.aload_n 0, 1) := by decide +kernel
theorem dX3_add_12 : decode cX3_add 12 = .ok (.getfield 21, 3) := by decide +kernel
theorem dX3_add_15 : decode cX3_add 15 = .ok (.arraylength, 1) := by decide +kernel
theorem dX3_add_16 : decode cX3_add 16 = .ok (.if_icmp .ge 23, 3) := by decide +kernel
theorem dX3_add_19 : decode cX3_add 19 = .ok (.aload_n 0, 1) := by decide +kernel
theorem dX3_add_20 : decode cX3_add 20 = .ok (.getfield 21, 3) := by decide +kernel
theorem dX3_add_23 : decode cX3_add 23 = .ok (.aload_n 0, 1) := by decide +kernel
theorem dX3_add_24 : decode cX3_add 24 = .ok (.getfield 9, 3) := by decide +kernel
theorem dX3_add_27 : decode cX3_add 27 = .ok (.iload_n 1, 1) := by decide +kernel
theorem dX3_add_28 : decode cX3_add 28 = .ok (.iastore, 1) := by decide +kernel
theorem dX3_add_29 : decode cX3_add 29 = .ok (.aload_n 0, 1) := by decide +kernel
theorem dX3_add_30 : decode cX3_add 30 = .ok (.dup, 1) := by decide +kernel
theorem dX3_add_31 : decode cX3_add 31 = .ok (.getfield 9, 3) := by decide +kernel
theorem dX3_add_34 : decode cX3_add 34 = .ok (.iconst 1, 1) := by decide +kernel
theorem dX3_add_35 : decode cX3_add 35 = .ok (.iadd, 1) := by decide +kernel
theorem dX3_add_36 : decode cX3_add 36 = .ok (.putfield 9, 3) := by decide +kernel
theorem dX3_add_39 : decode cX3_add 39 = .ok (.return_, 1) := by decide +kernel
theorem dX3_put_0 : decode cX3_put 0 = .ok (.iload_n 1, 1) := by decide +kernel
theorem dX3_put_1 : decode cX3_put 1 = .ok (.ifCond .lt 27, 3) := by decide +kernel
theorem dX3_put_4 : decode cX3_put 4 = .ok (.iload_n 1, 1) := by decide +kernel
theorem dX3_put_5 : decode cX3_put 5 = .ok (.aload_n 0, 1) := by decide +kernel
theorem dX3_put_6 : decode cX3_put 6 = .ok (.getfield 9, 3) := by decide +kernel
theorem dX3_put_9 : decode cX3_put 9 = .ok (.if_icmp .ge 19, 3) := by decide +kernel
theorem dX3_put_12 : decode cX3_put 12 = .ok (.iload_n 1, 1) := by decide +kernel
theorem dX3_put_13 : decode cX3_put 13 = .ok (.aload_n 0, 1) := by decide +kernel
theorem dX3_put_14 : decode cX3_put 14 = .ok (.getfield 21, 3) := by decide +kernel
theorem dX3_put_17 : decode cX3_put 17 = .ok (.arraylength, 1) := by decide +kernel
theorem dX3_put_18 : decode cX3_put 18 = .ok (.if_icmp .ge 10, 3) := by decide +kernel
theorem dX3_put_21 : decode cX3_put 21 = .ok (.aload_n 0, 1) := by decide +kernel
theorem dX3_put_22 : decode cX3_put 22 = .ok (.getfield 21, 3) := by decide +kernel
theorem dX3_put_25 : decode cX3_put 25 = .ok (.iload_n 1, 1) := by decide +kernel
theorem dX3_put_26 : decode cX3_put 26 = .ok (.iload_n 2, 1) := by decide +kernel
theorem dX3_put_27 : decode cX3_put 27 = .ok (.iastore, 1) := by decide +kernel
theorem dX3_put_28 : decode cX3_put 28 = .ok (.return_, 1) := by decide +kernel
theorem dX3_empty_0 : decode cX3_empty 0 = .ok (.aload_n 0, 1) := by decide +kernel
theorem dX3_empty_1 : decode cX3_empty 1 = .ok (.iconst 0, 1) := by decide +kernel
theorem dX3_empty_2 : decode cX3_empty 2 = .ok (.putfield 9, 3) := by decide +kernel
theorem dX3_empty_5 : decode cX3_empty 5 = .ok (.return_, 1) := by decide +kernel
theorem dX4_init_0 : decode cX4_init 0 = .ok (.aload_n 0, 1) := by decide +kernel
theorem dX4_init_1 : decode cX4_init 1 = .ok (.invokespecial 3, 3) := by decide +kernel
theorem dX4_init_4 : decode cX4_init 4 = .ok (.aload_n 0, 1) := by decide +kernel
theorem dX4_init_5 : decode cX4_init 5 = .ok (.new 9, 3) := by decide +kernel
theorem dX4_init_8 : decode cX4_init 8 = .ok (.dup, 1) := by decide +kernel
theorem dX4_init_9 : decode cX4_init 9 = .ok (.bipush 24, 2) := by decide +kernel
theorem dX4_init_11 : decode cX4_init 11 = .ok (.invokespecial 11, 3) := by decide +kernel
theorem dX4_init_14 : decode cX4_init 14 = .ok (.putfield 14, 3) := by decide +kernel
theorem dX4_init_17 : decode cX4_init 17 = .ok (.aload_n 0, 1) := by decide +kernel
theorem dX4_init_18 : decode cX4_init 18 = .ok (.new 9, 3) := by decide +kernel
theorem dX4_init_21 : decode cX4_init 21 = .ok (.dup, 1) := by decide +kernel
theorem dX4_init_22 : decode cX4_init 22 = .ok (.bipush 24, 2) := by decide +kernel
theorem dX4_init_24 : decode cX4_init 24 = .ok (.invokespecial 11, 3) := by decide +kernel
theorem dX4_init_27 : decode cX4_init 27 = .ok (.putfield 20, 3) := by decide +kernel
theorem dX4_init_30 : decode cX4_init 30 = .ok (.aload_n 0, 1) := by decide +kernel
theorem dX4_init_31 : decode cX4_init 31 = .ok (.new 9, 3) := by decide +kernel
theorem dX4_init_34 : decode cX4_init 34 = .ok (.dup, 1) := by decide +kernel
theorem dX4_init_35 : decode cX4_init 35 = .ok (.bipush 24, 2) := by decide +kernel
theorem dX4_init_37 : decode cX4_init 37 = .ok (.invokespecial 11, 3) := by decide +kernel
theorem dX4_init_40 : decode cX4_init 40 = .ok (.putfield 23, 3) := by decide +kernel
theorem dX4_init_43 : decode cX4_init 43 = .ok (.aload_n 0, 1) := by decide +kernel
theorem dX4_init_44 : decode cX4_init 44 = .ok (.new 9, 3) := by decide +kernel
theorem dX4_init_47 : decode cX4_init 47 = .ok (.dup, 1) := by decide +kernel
theorem dX4_init_48 : decode cX4_init 48 = .ok (.bipush 24, 2) := by decide +kernel
theorem dX4_init_50 : decode cX4_init 50 = .ok (.invokespecial 11, 3) := by decide +kernel
theorem dX4_init_53 : decode cX4_init 53 = .ok (.putfield 26, 3) := by decide +kernel
theorem dX4_init_56 : decode cX4_init 56 = .ok (.aload_n 0, 1) := by decide +kernel
theorem dX4_init_57 : decode cX4_init 57 = .ok (.iconst (-1), 1) := by decide +kernel
theorem dX4_init_58 : decode cX4_init 58 = .ok (.putfield 29, 3) := by decide +kernel
theorem dX4_init_61 : decode cX4_init 61 = .ok (.aload_n 0, 1) := by decide +kernel
theorem dX4_init_62 : decode cX4_init 62 = .ok (.iconst 0, 1) := by decide +kernel
theorem dX4_init_63 : decode cX4_init 63 = .ok (.putfield 33, 3) := by decide +kernel
theorem dX4_init_66 : decode cX4_init 66 = .ok (.aload_n 0, 1) := by decide +kernel
theorem dX4_init_67 : decode cX4_init 67 = .ok (.new 9, 3) := by decide +kernel
theorem dX4_init_70 : decode cX4_init 70 = .ok (.dup, 1) := by decide +kernel
theorem dX4_init_71 : decode cX4_init 71 = .ok (.bipush 24, 2) := by decide +kernel
theorem dX4_init_73 : decode cX4_init 73 = .ok (.invokespecial 11, 3) := by decide +kernel
theorem dX4_init_76 : decode cX4_init 76 = .ok (.putfield 36, 3) := by decide +kernel
theorem dX4_init_79 : decode cX4_init 79 = .ok (.aload_n 0, 1) := by decide +kernel
theorem dX4_init_80 : decode cX4_init 80 = .ok (.iconst (-1), 1) := by decide +kernel
theorem dX4_init_81 : decode cX4_init 81 = .ok (.putfield 39, 3) := by decide +kernel
theorem dX4_init_84 : decode cX4_init 84 = .ok (.aload_n 0, 1) := by decide +kernel
theorem dX4_init_85 : decode cX4_init 85 = .ok (.iconst (-1), 1) := by decide +kernel
theorem dX4_init_86 : decode cX4_init 86 = .ok (.putfield 42, 3) := by decide +kernel
theorem dX4_init_89 : decode cX4_init 89 = .ok (.return_, 1) := by decide +kernel
theorem dX4_isEmpty_0 : decode cX4_isEmpty 0 = .ok (.aload_n 0, 1) := by decide +kernel
theorem dX4_isEmpty_1 : decode cX4_isEmpty 1 = .ok (.getfield 14, 3) := by decide +kernel
theorem dX4_isEmpty_4 : decode cX4_isEmpty 4 = .ok (.invokevirtual 45, 3) := by decide +kernel
theorem dX4_isEmpty_7 : decode cX4_isEmpty 7 = .ok (.ifCond .ne 7, 3) := by decide +kernel
theorem dX4_isEmpty_10 : decode cX4_isEmpty 10 = .ok (.iconst 1, 1) := by decide +kernel
theorem dX4_isEmpty_11 : decode cX4_isEmpty 11 = .ok (.goto 4, 3) := by decide +kernel
theorem dX4_isEmpty_14 : decode cX4_isEmpty 14 = .ok (.iconst 0, 1) := by decide +kernel
theorem dX4_isEmpty_15 : decode cX4_isEmpty 15 = .ok (.ireturn, 1) := by decide +kernel
theorem dX4_isFull_0 : decode cX4_isFull 0 = .ok (.aload_n 0, 1) := by decide +kernel
theorem dX4_isFull_1 : decode cX4_isFull 1 = .ok (.getfield 14, 3) := by decide +kernel
theorem dX4_isFull_4 : decode cX4_isFull 4 = .ok (.invokevirtual 45, 3) := by decide +kernel
theorem dX4_isFull_7 : decode cX4_isFull 7 = .ok (.bipush 24, 2) := by decide +kernel
theorem dX4_isFull_9 : decode cX4_isFull 9 = .ok (.if_icmp .lt 7, 3) := by decide +kernel
theorem dX4_isFull_12 : decode cX4_isFull 12 = .ok (.iconst 1, 1) := by decide +kernel
theorem dX4_isFull_13 : decode cX4_isFull 13 = .ok (.goto 4, 3) := by decide +kernel
theorem dX4_isFull_16 : decode cX4_isFull 16 = .ok (.iconst 0, 1) := by decide +kernel
theorem dX4_isFull_17 : decode cX4_isFull 17 = .ok (.ireturn, 1) := by decide +kernel
theorem dX4_isDeepest_0 : decode cX4_isDeepest 0 = .ok (.aload_n 0, 1) := by decide +kernel
theorem dX4_isDeepest_1 : decode cX4_isDeepest 1 = .ok (.getfield 33, 3) := by decide +kernel
theorem dX4_isDeepest_4 : decode cX4_isDeepest 4 = .ok (.iconst 3, 1) := by decide +kernel
theorem dX4_isDeepest_5 : decode cX4_isDeepest 5 = .ok (.if_icmp .lt 7, 3) := by decide +kernel
theorem dX4_isDeepest_8 : decode cX4_isDeepest 8 = .ok (.iconst 1, 1) := by decide +kernel
theorem dX4_isDeepest_9 : decode cX4_isDeepest 9 = .ok (.goto 4, 3) := by decide +kernel
theorem dX4_isDeepest_12 : decode cX4_isDeepest 12 = .ok (.iconst 0, 1) := by decide +kernel
theorem dX4_isDeepest_13 : decode cX4_isDeepest 13 = .ok (.ireturn, 1) := by decide +kernel
theorem dX4_wantsTrigger_0 : decode cX4_wantsTrigger 0 = .ok (.aload_n 0, 1) := by decide +kernel
theorem dX4_wantsTrigger_1 : decode cX4_wantsTrigger 1 = .ok (.getfield 29, 3) := by decide +kernel
theorem dX4_wantsTrigger_4 : decode cX4_wantsTrigger 4 = .ok (.iconst (-1), 1) := by decide +kernel
theorem dX4_wantsTrigger_5 : decode cX4_wantsTrigger 5 = .ok (.if_icmp .eq 23, 3) := by decide +kernel
theorem dX4_wantsTrigger_8 : decode cX4_wantsTrigger 8 = .ok (.aload_n 0, 1) := by decide +kernel
theorem dX4_wantsTrigger_9 : decode cX4_wantsTrigger 9 = .ok (.getfield 29, 3) := by decide +kernel
theorem dX4_wantsTrigger_12 : decode cX4_wantsTrigger 12 = .ok (.aload_n 0, 1) := by decide +kernel
theorem dX4_wantsTrigger_13 : decode cX4_wantsTrigger 13 = .ok (.getfield 14, 3) := by decide +kernel
theorem dX4_wantsTrigger_16 : decode cX4_wantsTrigger 16 = .ok (.invokevirtual 45, 3) := by decide +kernel
theorem dX4_wantsTrigger_19 : decode cX4_wantsTrigger 19 = .ok (.iconst 1, 1) := by decide +kernel
theorem dX4_wantsTrigger_20 : decode cX4_wantsTrigger 20 = .ok (.isub, 1) := by decide +kernel
theorem dX4_wantsTrigger_21 : decode cX4_wantsTrigger 21 = .ok (.if_icmp .ne 7, 3) := by decide +kernel
theorem dX4_wantsTrigger_24 : decode cX4_wantsTrigger 24 = .ok (.iconst 1, 1) := by decide +kernel
theorem dX4_wantsTrigger_25 : decode cX4_wantsTrigger 25 = .ok (.goto 4, 3) := by decide +kernel
theorem dX4_wantsTrigger_28 : decode cX4_wantsTrigger 28 = .ok (.iconst 0, 1) := by decide +kernel
theorem dX4_wantsTrigger_29 : decode cX4_wantsTrigger 29 = .ok (.ireturn, 1) := by decide +kernel
theorem dX4_addSegment_0 : decode cX4_addSegment 0 = .ok (.aload_n 0, 1) := by decide +kernel
theorem dX4_addSegment_1 : decode cX4_addSegment 1 = .ok (.getfield 14, 3) := by decide +kernel
theorem dX4_addSegment_4 : decode cX4_addSegment 4 = .ok (.iload_n 1, 1) := by decide +kernel
theorem dX4_addSegment_5 : decode cX4_addSegment 5 = .ok (.invokevirtual 49, 3) := by decide +kernel
theorem dX4_addSegment_8 : decode cX4_addSegment 8 = .ok (.aload_n 0, 1) := by decide +kernel
theorem dX4_addSegment_9 : decode cX4_addSegment 9 = .ok (.getfield 20, 3) := by decide +kernel
theorem dX4_addSegment_12 : decode cX4_addSegment 12 = .ok (.iload_n 2, 1) := by decide +kernel
theorem dX4_addSegment_13 : decode cX4_addSegment 13 = .ok (.ifCond .eq 7, 3) := by decide +kernel
theorem dX4_addSegment_16 : decode cX4_addSegment 16 = .ok (.iconst 1, 1) := by decide +kernel
theorem dX4_addSegment_17 : decode cX4_addSegment 17 = .ok (.goto 4, 3) := by decide +kernel
theorem dX4_addSegment_20 : decode cX4_addSegment 20 = .ok (.iconst 0, 1) := by decide +kernel
theorem dX4_addSegment_21 : decode cX4_addSegment 21 = .ok (.invokevirtual 49, 3) := by decide +kernel
theorem dX4_addSegment_24 : decode cX4_addSegment 24 = .ok (.aload_n 0, 1) := by decide +kernel
theorem dX4_addSegment_25 : decode cX4_addSegment 25 = .ok (.getfield 23, 3) := by decide +kernel
theorem dX4_addSegment_28 : decode cX4_addSegment 28 = .ok (.iload_n 3, 1) := by decide +kernel
theorem dX4_addSegment_29 : decode cX4_addSegment 29 = .ok (.invokevirtual 49, 3) := by decide +kernel
theorem dX4_addSegment_32 : decode cX4_addSegment 32 = .ok (.aload_n 0, 1) := by decide +kernel
theorem dX4_addSegment_33 : decode cX4_addSegment 33 = .ok (.getfield 26, 3) := by decide +kernel
theorem dX4_addSegment_36 : decode cX4_addSegment 36 = .ok (.aload_n 0, 1) := by decide +kernel
theorem dX4_addSegment_37 : decode cX4_addSegment 37 = .ok (.getfield 29, 3) := by decide +kernel
theorem dX4_addSegment_40 : decode cX4_addSegment 40 = .ok (.invokevirtual 49, 3) := by decide +kernel
theorem dX4_addSegment_43 : decode cX4_addSegment 43 = .ok (.aload_n 0, 1) := by decide +kernel
theorem dX4_addSegment_44 : decode cX4_addSegment 44 = .ok (.getfield 14, 3) := by decide +kernel
theorem dX4_addSegment_47 : decode cX4_addSegment 47 = .ok (.invokevirtual 45, 3) := by decide +kernel
theorem dX4_addSegment_50 : decode cX4_addSegment 50 = .ok (.ireturn, 1) := by decide +kernel
theorem dX4_addGroup_0 : decode cX4_addGroup 0 = .ok (.aload_n 0, 1) := by decide +kernel
theorem dX4_addGroup_1 : decode cX4_addGroup 1 = .ok (.iconst 0, 1) := by decide +kernel
theorem dX4_addGroup_2 : decode cX4_addGroup 2 = .ok (.iload_n 1, 1) := by decide +kernel
theorem dX4_addGroup_3 : decode cX4_addGroup 3 = .ok (.iload_n 2, 1) := by decide +kernel
theorem dX4_addGroup_4 : decode cX4_addGroup 4 = .ok (.invokevirtual 52, 3) := by decide +kernel
theorem dX4_addGroup_7 : decode cX4_addGroup 7 = .ok (.istore_n 3, 1) := by decide +kernel
theorem dX4_addGroup_8 : decode cX4_addGroup 8 = .ok (.aload_n 0, 1) := by decide +kernel
theorem dX4_addGroup_9 : decode cX4_addGroup 9 = .ok (.iload_n 3, 1) := by decide +kernel
theorem dX4_addGroup_10 : decode cX4_addGroup 10 = .ok (.iconst 1, 1) := by decide +kernel
theorem dX4_addGroup_11 : decode cX4_addGroup 11 = .ok (.isub, 1) := by decide +kernel
theorem dX4_addGroup_12 : decode cX4_addGroup 12 = .ok (.putfield 29, 3) := by decide +kernel
theorem dX4_addGroup_15 : decode cX4_addGroup 15 = .ok (.aload_n 0, 1) := by decide +kernel
theorem dX4_addGroup_16 : decode cX4_addGroup 16 = .ok (.dup, 1) := by decide +kernel
theorem dX4_addGroup_17 : decode cX4_addGroup 17 = .ok (.getfield 33, 3) := by decide +kernel
theorem dX4_addGroup_20 : decode cX4_addGroup 20 = .ok (.iconst 1, 1) := by decide +kernel
theorem dX4_addGroup_21 : decode cX4_addGroup 21 = .ok (.iadd, 1) := by decide +kernel
theorem dX4_addGroup_22 : decode cX4_addGroup 22 = .ok (.putfield 33, 3) := by decide +kernel
theorem dX4_addGroup_25 : decode cX4_addGroup 25 = .ok (.iload_n 3, 1) := by decide +kernel
theorem dX4_addGroup_26 : decode cX4_addGroup 26 = .ok (.ireturn, 1) := by decide +kernel
theorem dX4_closeList_0 : decode cX4_closeList 0 = .ok (.aload_n 0, 1) := by decide +kernel
theorem dX4_closeList_1 : decode cX4_closeList 1 = .ok (.getfield 29, 3) := by decide +kernel
theorem dX4_closeList_4 : decode cX4_closeList 4 = .ok (.iconst (-1), 1) := by decide +kernel
theorem dX4_closeList_5 : decode cX4_closeList 5 = .ok (.if_icmp .eq 10, 3) := by decide +kernel
theorem dX4_closeList_8 : decode cX4_closeList 8 = .ok (.aload_n 0, 1) := by decide +kernel
theorem dX4_closeList_9 : decode cX4_closeList 9 = .ok (.invokevirtual 56, 3) := by decide +kernel
theorem dX4_closeList_12 : decode cX4_closeList 12 = .ok (.ifCond .eq 5, 3) := by decide +kernel
theorem dX4_closeList_15 : decode cX4_closeList 15 = .ok (.iconst 0, 1) := by decide +kernel
theorem dX4_closeList_16 : decode cX4_closeList 16 = .ok (.ireturn, 1) := by decide +kernel
theorem dX4_closeList_17 : decode cX4_closeList 17 = .ok (.aload_n 0, 1) := by decide +kernel
theorem dX4_closeList_18 : decode cX4_closeList 18 = .ok (.aload_n 0, 1) := by decide +kernel
theorem dX4_closeList_19 : decode cX4_closeList 19 = .ok (.getfield 26, 3) := by decide +kernel
theorem dX4_closeList_22 : decode cX4_closeList 22 = .ok (.aload_n 0, 1) := by decide +kernel
theorem dX4_closeList_23 : decode cX4_closeList 23 = .ok (.getfield 29, 3) := by decide +kernel
theorem dX4_closeList_26 : decode cX4_closeList 26 = .ok (.invokevirtual 60, 3) := by decide +kernel
theorem dX4_closeList_29 : decode cX4_closeList 29 = .ok (.putfield 29, 3) := by decide +kernel
theorem dX4_closeList_32 : decode cX4_closeList 32 = .ok (.aload_n 0, 1) := by decide +kernel
theorem dX4_closeList_33 : decode cX4_closeList 33 = .ok (.dup, 1) := by decide +kernel
theorem dX4_closeList_34 : decode cX4_closeList 34 = .ok (.getfield 33, 3) := by decide +kernel
theorem dX4_closeList_37 : decode cX4_closeList 37 = .ok (.iconst 1, 1) := by decide +kernel
theorem dX4_closeList_38 : decode cX4_closeList 38 = .ok (.isub, 1) := by decide +kernel
theorem dX4_closeList_39 : decode cX4_closeList 39 = .ok (.putfield 33, 3) := by decide +kernel
theorem dX4_closeList_42 : decode cX4_closeList 42 = .ok (.iconst 1, 1) := by decide +kernel
theorem dX4_closeList_43 : decode cX4_closeList 43 = .ok (.ireturn, 1) := by decide +kernel
theorem dX4_empty_0 : decode cX4_empty 0 = .ok (.aload_n 0, 1) := by decide +kernel
theorem dX4_empty_1 : decode cX4_empty 1 = .ok (.getfield 14, 3) := by decide +kernel
theorem dX4_empty_4 : decode cX4_empty 4 = .ok (.invokevirtual 64, 3) := by decide +kernel
theorem dX4_empty_7 : decode cX4_empty 7 = .ok (.aload_n 0, 1) := by decide +kernel
theorem dX4_empty_8 : decode cX4_empty 8 = .ok (.getfield 20, 3) := by decide +kernel
theorem dX4_empty_11 : decode cX4_empty 11 = .ok (.invokevirtual 64, 3) := by decide +kernel
theorem dX4_empty_14 : decode cX4_empty 14 = .ok (.aload_n 0, 1) := by decide +kernel
theorem dX4_empty_15 : decode cX4_empty 15 = .ok (.getfield 23, 3) := by decide +kernel
theorem dX4_empty_18 : decode cX4_empty 18 = .ok (.invokevirtual 64, 3) := by decide +kernel
theorem dX4_empty_21 : decode cX4_empty 21 = .ok (.aload_n 0, 1) := by decide +kernel
theorem dX4_empty_22 : decode cX4_empty 22 = .ok (.getfield 26, 3) := by decide +kernel
theorem dX4_empty_25 : decode cX4_empty 25 = .ok (.invokevirtual 64, 3) := by decide +kernel
theorem dX4_empty_28 : decode cX4_empty 28 = .ok (.aload_n 0, 1) := by decide +kernel
theorem dX4_empty_29 : decode cX4_empty 29 = .ok (.iconst (-1), 1) := by decide +kernel
theorem dX4_empty_30 : decode cX4_empty 30 = .ok (.putfield 29, 3) := by decide +kernel
theorem dX4_empty_33 : decode cX4_empty 33 = .ok (.aload_n 0, 1) := by decide +kernel
theorem dX4_empty_34 : decode cX4_empty 34 = .ok (.iconst 0, 1) := by decide +kernel
theorem dX4_empty_35 : decode cX4_empty 35 = .ok (.putfield 33, 3) := by decide +kernel
theorem dX4_empty_38 : decode cX4_empty 38 = .ok (.return_, 1) := by decide +kernel
theorem dX4_startMatch_0 : decode cX4_startMatch 0 = .ok (.aload_n 0, 1) := by decide +kernel
theorem dX4_startMatch_1 : decode cX4_startMatch 1 = .ok (.getfield 36, 3) := by decide +kernel
theorem dX4_startMatch_4 : decode cX4_startMatch 4 = .ok (.invokevirtual 64, 3) := by decide +kernel
theorem dX4_startMatch_7 : decode cX4_startMatch 7 = .ok (.iconst 0, 1) := by decide +kernel
theorem dX4_startMatch_8 : decode cX4_startMatch 8 = .ok (.istore_n 1, 1) := by decide +kernel
theorem dX4_startMatch_9 : decode cX4_startMatch 9 = .ok (.iload_n 1, 1) := by decide +kernel
theorem dX4_startMatch_10 : decode cX4_startMatch 10 = .ok (.aload_n 0, 1) := by decide +kernel
theorem dX4_startMatch_11 : decode cX4_startMatch 11 = .ok (.getfield 14, 3) := by decide +kernel
theorem dX4_startMatch_14 : decode cX4_startMatch 14 = .ok (.invokevirtual 45, 3) := by decide +kernel
theorem dX4_startMatch_17 : decode cX4_startMatch 17 = .ok (.if_icmp .ge 17, 3) := by decide +kernel
theorem dX4_startMatch_20 : decode cX4_startMatch 20 = .ok (.aload_n 0, 1) := by decide +kernel
theorem dX4_startMatch_21 : decode cX4_startMatch 21 = .ok (.getfield 36, 3) := by decide +kernel
theorem dX4_startMatch_24 : decode cX4_startMatch 24 = .ok (.iconst 0, 1) := by decide +kernel
theorem dX4_startMatch_25 : decode cX4_startMatch 25 = .ok (.invokevirtual 49, 3) := by decide +kernel
theorem dX4_startMatch_28 : decode cX4_startMatch 28 = .ok (.iinc 1 1, 3) := by decide +kernel
theorem dX4_startMatch_31 : decode cX4_startMatch 31 = .ok (.goto (-22), 3) := by decide +kernel
theorem dX4_startMatch_34 : decode cX4_startMatch 34 = .ok (.aload_n 0, 1) := by decide +kernel
theorem dX4_startMatch_35 : decode cX4_startMatch 35 = .ok (.iconst (-1), 1) := by decide +kernel
theorem dX4_startMatch_36 : decode cX4_startMatch 36 = .ok (.putfield 39, 3) := by decide +kernel
theorem dX4_startMatch_39 : decode cX4_startMatch 39 = .ok (.aload_n 0, 1) := by decide +kernel
theorem dX4_startMatch_40 : decode cX4_startMatch 40 = .ok (.aload_n 0, 1) := by decide +kernel
theorem dX4_startMatch_41 : decode cX4_startMatch 41 = .ok (.getfield 14, 3) := by decide +kernel
theorem dX4_startMatch_44 : decode cX4_startMatch 44 = .ok (.invokevirtual 45, 3) := by decide +kernel
theorem dX4_startMatch_47 : decode cX4_startMatch 47 = .ok (.ifCond .le 7, 3) := by decide +kernel
theorem dX4_startMatch_50 : decode cX4_startMatch 50 = .ok (.iconst 0, 1) := by decide +kernel
theorem dX4_startMatch_51 : decode cX4_startMatch 51 = .ok (.goto 4, 3) := by decide +kernel
theorem dX4_startMatch_54 : decode cX4_startMatch 54 = .ok (.iconst (-1), 1) := by decide +kernel
theorem dX4_startMatch_55 : decode cX4_startMatch 55 = .ok (.putfield 42, 3) := by decide +kernel
theorem dX4_startMatch_58 : decode cX4_startMatch 58 = .ok (.return_, 1) := by decide +kernel
theorem dX4_match_0 : decode cX4_match 0 = .ok (.iconst 0, 1) := by decide +kernel
theorem dX4_match_1 : decode cX4_match 1 = .ok (.istore_n 2, 1) := by decide +kernel
theorem dX4_match_2 : decode cX4_match 2 = .ok (.iload_n 2, 1) := by decide +kernel
theorem dX4_match_3 : decode cX4_match 3 = .ok (.bipush 24, 2) := by decide +kernel
theorem dX4_match_5 : decode cX4_match 5 = .ok (.if_icmp .gt 44, 3) := by decide +kernel
theorem dX4_match_8 : decode cX4_match 8 = .ok (.aload_n 0, 1) := by decide +kernel
theorem dX4_match_9 : decode cX4_match 9 = .ok (.invokevirtual 67, 3) := by decide +kernel
theorem dX4_match_12 : decode cX4_match 12 = .ok (.ifCond .ne 5, 3) := by decide +kernel
theorem dX4_match_15 : decode cX4_match 15 = .ok (.iconst 4, 1) := by decide +kernel
theorem dX4_match_16 : decode cX4_match 16 = .ok (.ireturn, 1) := by decide +kernel
theorem dX4_match_17 : decode cX4_match 17 = .ok (.aload_n 0, 1) := by decide +kernel
theorem dX4_match_18 : decode cX4_match 18 = .ok (.invokevirtual 70, 3) := by decide +kernel
theorem dX4_match_21 : decode cX4_match 21 = .ok (.iload_n 1, 1) := by decide +kernel
theorem dX4_match_22 : decode cX4_match 22 = .ok (.if_icmp .ne 8, 3) := by decide +kernel
theorem dX4_match_25 : decode cX4_match 25 = .ok (.aload_n 0, 1) := by decide +kernel
theorem dX4_match_26 : decode cX4_match 26 = .ok (.invokevirtual 73, 3) := by decide +kernel
theorem dX4_match_29 : decode cX4_match 29 = .ok (.ireturn, 1) := by decide +kernel
theorem dX4_match_30 : decode cX4_match 30 = .ok (.aload_n 0, 1) := by decide +kernel
theorem dX4_match_31 : decode cX4_match 31 = .ok (.invokevirtual 76, 3) := by decide +kernel
theorem dX4_match_34 : decode cX4_match 34 = .ok (.ifCond .eq 5, 3) := by decide +kernel
theorem dX4_match_37 : decode cX4_match 37 = .ok (.iconst 5, 1) := by decide +kernel
theorem dX4_match_38 : decode cX4_match 38 = .ok (.ireturn, 1) := by decide +kernel
theorem dX4_match_39 : decode cX4_match 39 = .ok (.aload_n 0, 1) := by decide +kernel
theorem dX4_match_40 : decode cX4_match 40 = .ok (.invokevirtual 79, 3) := by decide +kernel
theorem dX4_match_43 : decode cX4_match 43 = .ok (.iinc 2 1, 3) := by decide +kernel
theorem dX4_match_46 : decode cX4_match 46 = .ok (.goto (-44), 3) := by decide +kernel
theorem dX4_match_49 : decode cX4_match 49 = .ok (.iconst 4, 1) := by decide +kernel
theorem dX4_match_50 : decode cX4_match 50 = .ok (.ireturn, 1) := by decide +kernel
theorem dX4_endMatch_0 : decode cX4_endMatch 0 = .ok (.iconst 0, 1) := by decide +kernel
theorem dX4_endMatch_1 : decode cX4_endMatch 1 = .ok (.istore_n 1, 1) := by decide +kernel
theorem dX4_endMatch_2 : decode cX4_endMatch 2 = .ok (.iload_n 1, 1) := by decide +kernel
theorem dX4_endMatch_3 : decode cX4_endMatch 3 = .ok (.bipush 24, 2) := by decide +kernel
theorem dX4_endMatch_5 : decode cX4_endMatch 5 = .ok (.if_icmp .gt 31, 3) := by decide +kernel
theorem dX4_endMatch_8 : decode cX4_endMatch 8 = .ok (.aload_n 0, 1) := by decide +kernel
theorem dX4_endMatch_9 : decode cX4_endMatch 9 = .ok (.invokevirtual 67, 3) := by decide +kernel
theorem dX4_endMatch_12 : decode cX4_endMatch 12 = .ok (.ifCond .ne 5, 3) := by decide +kernel
theorem dX4_endMatch_15 : decode cX4_endMatch 15 = .ok (.iconst 0, 1) := by decide +kernel
theorem dX4_endMatch_16 : decode cX4_endMatch 16 = .ok (.ireturn, 1) := by decide +kernel
theorem dX4_endMatch_17 : decode cX4_endMatch 17 = .ok (.aload_n 0, 1) := by decide +kernel
theorem dX4_endMatch_18 : decode cX4_endMatch 18 = .ok (.invokevirtual 76, 3) := by decide +kernel
theorem dX4_endMatch_21 : decode cX4_endMatch 21 = .ok (.ifCond .eq 5, 3) := by decide +kernel
theorem dX4_endMatch_24 : decode cX4_endMatch 24 = .ok (.iconst 5, 1) := by decide +kernel
theorem dX4_endMatch_25 : decode cX4_endMatch 25 = .ok (.ireturn, 1) := by decide +kernel
theorem dX4_endMatch_26 : decode cX4_endMatch 26 = .ok (.aload_n 0, 1) := by decide +kernel
theorem dX4_endMatch_27 : decode cX4_endMatch 27 = .ok (.invokevirtual 79, 3) := by decide +kernel
theorem dX4_endMatch_30 : decode cX4_endMatch 30 = .ok (.iinc 1 1, 3) := by decide +kernel
theorem dX4_endMatch_33 : decode cX4_endMatch 33 = .ok (.goto (-31), 3) := by decide +kernel
theorem dX4_endMatch_36 : decode cX4_endMatch 36 = .ok (.iconst 0, 1) := by decide +kernel
theorem dX4_endMatch_37 : decode cX4_endMatch 37 = .ok (.ireturn, 1) := by decide +kernel
theorem dX4_standAtItem_0 : decode cX4_standAtItem 0 = .ok (.aload_n 0, 1) := by decide +kernel
theorem dX4_standAtItem_1 : decode cX4_standAtItem 1 = .ok (.getfield 42, 3) := by decide +kernel
theorem dX4_standAtItem_4 : decode cX4_standAtItem 4 = .ok (.iconst (-1), 1) := by decide +kernel
theorem dX4_standAtItem_5 : decode cX4_standAtItem 5 = .ok (.if_icmp .ne 34, 3) := by decide +kernel
theorem dX4_standAtItem_8 : decode cX4_standAtItem 8 = .ok (.aload_n 0, 1) := by decide +kernel
theorem dX4_standAtItem_9 : decode cX4_standAtItem 9 = .ok (.getfield 39, 3) := by decide +kernel
theorem dX4_standAtItem_12 : decode cX4_standAtItem 12 = .ok (.iconst (-1), 1) := by decide +kernel
theorem dX4_standAtItem_13 : decode cX4_standAtItem 13 = .ok (.if_icmp .eq 26, 3) := by decide +kernel
theorem dX4_standAtItem_16 : decode cX4_standAtItem 16 = .ok (.aload_n 0, 1) := by decide +kernel
theorem dX4_standAtItem_17 : decode cX4_standAtItem 17 = .ok (.aload_n 0, 1) := by decide +kernel
theorem dX4_standAtItem_18 : decode cX4_standAtItem 18 = .ok (.getfield 39, 3) := by decide +kernel
theorem dX4_standAtItem_21 : decode cX4_standAtItem 21 = .ok (.putfield 42, 3) := by decide +kernel
theorem dX4_standAtItem_24 : decode cX4_standAtItem 24 = .ok (.aload_n 0, 1) := by decide +kernel
theorem dX4_standAtItem_25 : decode cX4_standAtItem 25 = .ok (.aload_n 0, 1) := by decide +kernel
theorem dX4_standAtItem_26 : decode cX4_standAtItem 26 = .ok (.getfield 26, 3) := by decide +kernel
theorem dX4_standAtItem_29 : decode cX4_standAtItem 29 = .ok (.aload_n 0, 1) := by decide +kernel
theorem dX4_standAtItem_30 : decode cX4_standAtItem 30 = .ok (.getfield 42, 3) := by decide +kernel
theorem dX4_standAtItem_33 : decode cX4_standAtItem 33 = .ok (.invokevirtual 60, 3) := by decide +kernel
theorem dX4_standAtItem_36 : decode cX4_standAtItem 36 = .ok (.putfield 39, 3) := by decide +kernel
theorem dX4_standAtItem_39 : decode cX4_standAtItem 39 = .ok (.aload_n 0, 1) := by decide +kernel
theorem dX4_standAtItem_40 : decode cX4_standAtItem 40 = .ok (.getfield 42, 3) := by decide +kernel
theorem dX4_standAtItem_43 : decode cX4_standAtItem 43 = .ok (.iconst (-1), 1) := by decide +kernel
theorem dX4_standAtItem_44 : decode cX4_standAtItem 44 = .ok (.if_icmp .eq 7, 3) := by decide +kernel
theorem dX4_standAtItem_47 : decode cX4_standAtItem 47 = .ok (.iconst 1, 1) := by decide +kernel
theorem dX4_standAtItem_48 : decode cX4_standAtItem 48 = .ok (.goto 4, 3) := by decide +kernel
theorem dX4_standAtItem_51 : decode cX4_standAtItem 51 = .ok (.iconst 0, 1) := by decide +kernel
theorem dX4_standAtItem_52 : decode cX4_standAtItem 52 = .ok (.ireturn, 1) := by decide +kernel
theorem dX4_firstTag_0 : decode cX4_firstTag 0 = .ok (.aload_n 0, 1) := by decide +kernel
theorem dX4_firstTag_1 : decode cX4_firstTag 1 = .ok (.getfield 14, 3) := by decide +kernel
theorem dX4_firstTag_4 : decode cX4_firstTag 4 = .ok (.aload_n 0, 1) := by decide +kernel
theorem dX4_firstTag_5 : decode cX4_firstTag 5 = .ok (.getfield 42, 3) := by decide +kernel
theorem dX4_firstTag_8 : decode cX4_firstTag 8 = .ok (.invokevirtual 60, 3) := by decide +kernel
theorem dX4_firstTag_11 : decode cX4_firstTag 11 = .ok (.ifCond .eq 15, 3) := by decide +kernel
theorem dX4_firstTag_14 : decode cX4_firstTag 14 = .ok (.aload_n 0, 1) := by decide +kernel
theorem dX4_firstTag_15 : decode cX4_firstTag 15 = .ok (.getfield 14, 3) := by decide +kernel
theorem dX4_firstTag_18 : decode cX4_firstTag 18 = .ok (.aload_n 0, 1) := by decide +kernel
theorem dX4_firstTag_19 : decode cX4_firstTag 19 = .ok (.getfield 42, 3) := by decide +kernel
theorem dX4_firstTag_22 : decode cX4_firstTag 22 = .ok (.invokevirtual 60, 3) := by decide +kernel
theorem dX4_firstTag_25 : decode cX4_firstTag 25 = .ok (.ireturn, 1) := by decide +kernel
theorem dX4_firstTag_26 : decode cX4_firstTag 26 = .ok (.aload_n 0, 1) := by decide +kernel
theorem dX4_firstTag_27 : decode cX4_firstTag 27 = .ok (.getfield 26, 3) := by decide +kernel
theorem dX4_firstTag_30 : decode cX4_firstTag 30 = .ok (.aload_n 0, 1) := by decide +kernel
theorem dX4_firstTag_31 : decode cX4_firstTag 31 = .ok (.getfield 42, 3) := by decide +kernel
theorem dX4_firstTag_34 : decode cX4_firstTag 34 = .ok (.iconst 1, 1) := by decide +kernel
theorem dX4_firstTag_35 : decode cX4_firstTag 35 = .ok (.iadd, 1) := by decide +kernel
theorem dX4_firstTag_36 : decode cX4_firstTag 36 = .ok (.invokevirtual 60, 3) := by decide +kernel
theorem dX4_firstTag_39 : decode cX4_firstTag 39 = .ok (.aload_n 0, 1) := by decide +kernel
theorem dX4_firstTag_40 : decode cX4_firstTag 40 = .ok (.getfield 42, 3) := by decide +kernel
theorem dX4_firstTag_43 : decode cX4_firstTag 43 = .ok (.if_icmp .ne 19, 3) := by decide +kernel
theorem dX4_firstTag_46 : decode cX4_firstTag 46 = .ok (.aload_n 0, 1) := by decide +kernel
theorem dX4_firstTag_47 : decode cX4_firstTag 47 = .ok (.getfield 14, 3) := by decide +kernel
theorem dX4_firstTag_50 : decode cX4_firstTag 50 = .ok (.aload_n 0, 1) := by decide +kernel
theorem dX4_firstTag_51 : decode cX4_firstTag 51 = .ok (.getfield 42, 3) := by decide +kernel
theorem dX4_firstTag_54 : decode cX4_firstTag 54 = .ok (.iconst 1, 1) := by decide +kernel
theorem dX4_firstTag_55 : decode cX4_firstTag 55 = .ok (.iadd, 1) := by decide +kernel
theorem dX4_firstTag_56 : decode cX4_firstTag 56 = .ok (.invokevirtual 60, 3) := by decide +kernel
theorem dX4_firstTag_59 : decode cX4_firstTag 59 = .ok (.goto 4, 3) := by decide +kernel
theorem dX4_firstTag_62 : decode cX4_firstTag 62 = .ok (.iconst (-1), 1) := by decide +kernel
theorem dX4_firstTag_63 : decode cX4_firstTag 63 = .ok (.ireturn, 1) := by decide +kernel
theorem dX4_isMissing_0 : decode cX4_isMissing 0 = .ok (.aload_n 0, 1) := by decide +kernel
theorem dX4_isMissing_1 : decode cX4_isMissing 1 = .ok (.getfield 20, 3) := by decide +kernel
theorem dX4_isMissing_4 : decode cX4_isMissing 4 = .ok (.aload_n 0, 1) := by decide +kernel
theorem dX4_isMissing_5 : decode cX4_isMissing 5 = .ok (.getfield 42, 3) := by decide +kernel
theorem dX4_isMissing_8 : decode cX4_isMissing 8 = .ok (.invokevirtual 60, 3) := by decide +kernel
theorem dX4_isMissing_11 : decode cX4_isMissing 11 = .ok (.iconst 1, 1) := by decide +kernel
theorem dX4_isMissing_12 : decode cX4_isMissing 12 = .ok (.if_icmp .ne 21, 3) := by decide +kernel
theorem dX4_isMissing_15 : decode cX4_isMissing 15 = .ok (.aload_n 0, 1) := by decide +kernel
theorem dX4_isMissing_16 : decode cX4_isMissing 16 = .ok (.getfield 36, 3) := by decide +kernel
theorem dX4_isMissing_19 : decode cX4_isMissing 19 = .ok (.aload_n 0, 1) := by decide +kernel
theorem dX4_isMissing_20 : decode cX4_isMissing 20 = .ok (.getfield 42, 3) := by decide +kernel
theorem dX4_isMissing_23 : decode cX4_isMissing 23 = .ok (.invokevirtual 60, 3) := by decide +kernel
theorem dX4_isMissing_26 : decode cX4_isMissing 26 = .ok (.ifCond .ne 7, 3) := by decide +kernel
theorem dX4_isMissing_29 : decode cX4_isMissing 29 = .ok (.iconst 1, 1) := by decide +kernel
theorem dX4_isMissing_30 : decode cX4_isMissing 30 = .ok (.goto 4, 3) := by decide +kernel
theorem dX4_isMissing_33 : decode cX4_isMissing 33 = .ok (.iconst 0, 1) := by decide +kernel
theorem dX4_isMissing_34 : decode cX4_isMissing 34 = .ok (.ireturn, 1) := by decide +kernel
theorem dX4_takeItem_0 : decode cX4_takeItem 0 = .ok (.aload_n 0, 1) := by decide +kernel
theorem dX4_takeItem_1 : decode cX4_takeItem 1 = .ok (.getfield 36, 3) := by decide +kernel
theorem dX4_takeItem_4 : decode cX4_takeItem 4 = .ok (.aload_n 0, 1) := by decide +kernel
theorem dX4_takeItem_5 : decode cX4_takeItem 5 = .ok (.getfield 42, 3) := by decide +kernel
theorem dX4_takeItem_8 : decode cX4_takeItem 8 = .ok (.invokevirtual 60, 3) := by decide +kernel
theorem dX4_takeItem_11 : decode cX4_takeItem 11 = .ok (.aload_n 0, 1) := by decide +kernel
theorem dX4_takeItem_12 : decode cX4_takeItem 12 = .ok (.getfield 23, 3) := by decide +kernel
theorem dX4_takeItem_15 : decode cX4_takeItem 15 = .ok (.aload_n 0, 1) := by decide +kernel
theorem dX4_takeItem_16 : decode cX4_takeItem 16 = .ok (.getfield 42, 3) := by decide +kernel
theorem dX4_takeItem_19 : decode cX4_takeItem 19 = .ok (.invokevirtual 60, 3) := by decide +kernel
theorem dX4_takeItem_22 : decode cX4_takeItem 22 = .ok (.if_icmp .lt 6, 3) := by decide +kernel
theorem dX4_takeItem_25 : decode cX4_takeItem 25 = .ok (.bipush 6, 2) := by decide +kernel
theorem dX4_takeItem_27 : decode cX4_takeItem 27 = .ok (.ireturn, 1) := by decide +kernel
theorem dX4_takeItem_28 : decode cX4_takeItem 28 = .ok (.aload_n 0, 1) := by decide +kernel
theorem dX4_takeItem_29 : decode cX4_takeItem 29 = .ok (.getfield 36, 3) := by decide +kernel
theorem dX4_takeItem_32 : decode cX4_takeItem 32 = .ok (.aload_n 0, 1) := by decide +kernel
theorem dX4_takeItem_33 : decode cX4_takeItem 33 = .ok (.getfield 42, 3) := by decide +kernel
theorem dX4_takeItem_36 : decode cX4_takeItem 36 = .ok (.aload_n 0, 1) := by decide +kernel
theorem dX4_takeItem_37 : decode cX4_takeItem 37 = .ok (.getfield 36, 3) := by decide +kernel
theorem dX4_takeItem_40 : decode cX4_takeItem 40 = .ok (.aload_n 0, 1) := by decide +kernel
theorem dX4_takeItem_41 : decode cX4_takeItem 41 = .ok (.getfield 42, 3) := by decide +kernel
theorem dX4_takeItem_44 : decode cX4_takeItem 44 = .ok (.invokevirtual 60, 3) := by decide +kernel
theorem dX4_takeItem_47 : decode cX4_takeItem 47 = .ok (.iconst 1, 1) := by decide +kernel
theorem dX4_takeItem_48 : decode cX4_takeItem 48 = .ok (.iadd, 1) := by decide +kernel
theorem dX4_takeItem_49 : decode cX4_takeItem 49 = .ok (.invokevirtual 82, 3) := by decide +kernel
theorem dX4_takeItem_52 : decode cX4_takeItem 52 = .ok (.aload_n 0, 1) := by decide +kernel
theorem dX4_takeItem_53 : decode cX4_takeItem 53 = .ok (.getfield 14, 3) := by decide +kernel
theorem dX4_takeItem_56 : decode cX4_takeItem 56 = .ok (.aload_n 0, 1) := by decide +kernel
theorem dX4_takeItem_57 : decode cX4_takeItem 57 = .ok (.getfield 42, 3) := by decide +kernel
theorem dX4_takeItem_60 : decode cX4_takeItem 60 = .ok (.invokevirtual 60, 3) := by decide +kernel
theorem dX4_takeItem_63 : decode cX4_takeItem 63 = .ok (.ifCond .ne 25, 3) := by decide +kernel
theorem dX4_takeItem_66 : decode cX4_takeItem 66 = .ok (.aload_n 0, 1) := by decide +kernel
theorem dX4_takeItem_67 : decode cX4_takeItem 67 = .ok (.aload_n 0, 1) := by decide +kernel
theorem dX4_takeItem_68 : decode cX4_takeItem 68 = .ok (.getfield 42, 3) := by decide +kernel
theorem dX4_takeItem_71 : decode cX4_takeItem 71 = .ok (.putfield 39, 3) := by decide +kernel
theorem dX4_takeItem_74 : decode cX4_takeItem 74 = .ok (.aload_n 0, 1) := by decide +kernel
theorem dX4_takeItem_75 : decode cX4_takeItem 75 = .ok (.aload_n 0, 1) := by decide +kernel
theorem dX4_takeItem_76 : decode cX4_takeItem 76 = .ok (.getfield 42, 3) := by decide +kernel
theorem dX4_takeItem_79 : decode cX4_takeItem 79 = .ok (.iconst 1, 1) := by decide +kernel
theorem dX4_takeItem_80 : decode cX4_takeItem 80 = .ok (.iadd, 1) := by decide +kernel
theorem dX4_takeItem_81 : decode cX4_takeItem 81 = .ok (.putfield 42, 3) := by decide +kernel
theorem dX4_takeItem_84 : decode cX4_takeItem 84 = .ok (.aload_n 0, 1) := by decide +kernel
theorem dX4_takeItem_85 : decode cX4_takeItem 85 = .ok (.invokevirtual 79, 3) := by decide +kernel
theorem dX4_takeItem_88 : decode cX4_takeItem 88 = .ok (.iconst 0, 1) := by decide +kernel
theorem dX4_takeItem_89 : decode cX4_takeItem 89 = .ok (.ireturn, 1) := by decide +kernel
theorem dX4_goOn_0 : decode cX4_goOn 0 = .ok (.iconst (-1), 1) := by decide +kernel
theorem dX4_goOn_1 : decode cX4_goOn 1 = .ok (.istore_n 1, 1) := by decide +kernel
theorem dX4_goOn_2 : decode cX4_goOn 2 = .ok (.aload_n 0, 1) := by decide +kernel
theorem dX4_goOn_3 : decode cX4_goOn 3 = .ok (.getfield 42, 3) := by decide +kernel
theorem dX4_goOn_6 : decode cX4_goOn 6 = .ok (.iconst 1, 1) := by decide +kernel
theorem dX4_goOn_7 : decode cX4_goOn 7 = .ok (.iadd, 1) := by decide +kernel
theorem dX4_goOn_8 : decode cX4_goOn 8 = .ok (.istore_n 2, 1) := by decide +kernel
theorem dX4_goOn_9 : decode cX4_goOn 9 = .ok (.iload_n 2, 1) := by decide +kernel
theorem dX4_goOn_10 : decode cX4_goOn 10 = .ok (.aload_n 0, 1) := by decide +kernel
theorem dX4_goOn_11 : decode cX4_goOn 11 = .ok (.getfield 26, 3) := by decide +kernel
theorem dX4_goOn_14 : decode cX4_goOn 14 = .ok (.invokevirtual 45, 3) := by decide +kernel
theorem dX4_goOn_17 : decode cX4_goOn 17 = .ok (.if_icmp .ge 29, 3) := by decide +kernel
theorem dX4_goOn_20 : decode cX4_goOn 20 = .ok (.aload_n 0, 1) := by decide +kernel
theorem dX4_goOn_21 : decode cX4_goOn 21 = .ok (.getfield 26, 3) := by decide +kernel
theorem dX4_goOn_24 : decode cX4_goOn 24 = .ok (.iload_n 2, 1) := by decide +kernel
theorem dX4_goOn_25 : decode cX4_goOn 25 = .ok (.invokevirtual 60, 3) := by decide +kernel
theorem dX4_goOn_28 : decode cX4_goOn 28 = .ok (.aload_n 0, 1) := by decide +kernel
theorem dX4_goOn_29 : decode cX4_goOn 29 = .ok (.getfield 39, 3) := by decide +kernel
theorem dX4_goOn_32 : decode cX4_goOn 32 = .ok (.if_icmp .ne 8, 3) := by decide +kernel
theorem dX4_goOn_35 : decode cX4_goOn 35 = .ok (.iload_n 2, 1) := by decide +kernel
theorem dX4_goOn_36 : decode cX4_goOn 36 = .ok (.istore_n 1, 1) := by decide +kernel
theorem dX4_goOn_37 : decode cX4_goOn 37 = .ok (.goto 9, 3) := by decide +kernel
theorem dX4_goOn_40 : decode cX4_goOn 40 = .ok (.iinc 2 1, 3) := by decide +kernel
theorem dX4_goOn_43 : decode cX4_goOn 43 = .ok (.goto (-34), 3) := by decide +kernel
theorem dX4_goOn_46 : decode cX4_goOn 46 = .ok (.aload_n 0, 1) := by decide +kernel
theorem dX4_goOn_47 : decode cX4_goOn 47 = .ok (.iload_n 1, 1) := by decide +kernel
theorem dX4_goOn_48 : decode cX4_goOn 48 = .ok (.putfield 42, 3) := by decide +kernel
theorem dX4_goOn_51 : decode cX4_goOn 51 = .ok (.aload_n 0, 1) := by decide +kernel
theorem dX4_goOn_52 : decode cX4_goOn 52 = .ok (.getfield 36, 3) := by decide +kernel
theorem dX4_goOn_55 : decode cX4_goOn 55 = .ok (.aload_n 0, 1) := by decide +kernel
theorem dX4_goOn_56 : decode cX4_goOn 56 = .ok (.getfield 42, 3) := by decide +kernel
theorem dX4_goOn_59 : decode cX4_goOn 59 = .ok (.iconst 0, 1) := by decide +kernel
theorem dX4_goOn_60 : decode cX4_goOn 60 = .ok (.invokevirtual 82, 3) := by decide +kernel
theorem dX4_goOn_63 : decode cX4_goOn 63 = .ok (.return_, 1) := by decide +kernel
theorem dX5_init_0 : decode cX5_init 0 = .ok (.aload_n 0, 1) := by decide +kernel
theorem dX5_init_1 : decode cX5_init 1 = .ok (.invokespecial 3, 3) := by decide +kernel
theorem dX5_init_4 : decode cX5_init 4 = .ok (.aload_n 0, 1) := by decide +kernel
theorem dX5_init_5 : decode cX5_init 5 = .ok (.new 9, 3) := by decide +kernel
theorem dX5_init_8 : decode cX5_init 8 = .ok (.dup, 1) := by decide +kernel
theorem dX5_init_9 : decode cX5_init 9 = .ok (.sipush 400, 3) := by decide +kernel
theorem dX5_init_12 : decode cX5_init 12 = .ok (.invokespecial 11, 3) := by decide +kernel
theorem dX5_init_15 : decode cX5_init 15 = .ok (.putfield 14, 3) := by decide +kernel
theorem dX5_init_18 : decode cX5_init 18 = .ok (.aload_n 0, 1) := by decide +kernel
theorem dX5_init_19 : decode cX5_init 19 = .ok (.iconst 0, 1) := by decide +kernel
theorem dX5_init_20 : decode cX5_init 20 = .ok (.putfield 20, 3) := by decide +kernel
theorem dX5_init_23 : decode cX5_init 23 = .ok (.aload_n 0, 1) := by decide +kernel
theorem dX5_init_24 : decode cX5_init 24 = .ok (.iconst 0, 1) := by decide +kernel
theorem dX5_init_25 : decode cX5_init 25 = .ok (.putfield 24, 3) := by decide +kernel
theorem dX5_init_28 : decode cX5_init 28 = .ok (.aload_n 0, 1) := by decide +kernel
theorem dX5_init_29 : decode cX5_init 29 = .ok (.iconst 0, 1) := by decide +kernel
theorem dX5_init_30 : decode cX5_init 30 = .ok (.putfield 27, 3) := by decide +kernel
theorem dX5_init_33 : decode cX5_init 33 = .ok (.aload_n 0, 1) := by decide +kernel
theorem dX5_init_34 : decode cX5_init 34 = .ok (.iconst 0, 1) := by decide +kernel
theorem dX5_init_35 : decode cX5_init 35 = .ok (.putfield 30, 3) := by decide +kernel
theorem dX5_init_38 : decode cX5_init 38 = .ok (.aload_n 0, 1) := by decide +kernel
theorem dX5_init_39 : decode cX5_init 39 = .ok (.iconst 0, 1) := by decide +kernel
theorem dX5_init_40 : decode cX5_init 40 = .ok (.putfield 33, 3) := by decide +kernel
theorem dX5_init_43 : decode cX5_init 43 = .ok (.return_, 1) := by decide +kernel
theorem dX5_size_0 : decode cX5_size 0 = .ok (.aload_n 0, 1) := by decide +kernel
theorem dX5_size_1 : decode cX5_size 1 = .ok (.getfield 14, 3) := by decide +kernel
theorem dX5_size_4 : decode cX5_size 4 = .ok (.invokevirtual 36, 3) := by decide +kernel
theorem dX5_size_7 : decode cX5_size 7 = .ok (.ireturn, 1) := by decide +kernel
theorem dX5_add_0 : decode cX5_add 0 = .ok (.aload_n 0, 1) := by decide +kernel
theorem dX5_add_1 : decode cX5_add 1 = .ok (.getfield 14, 3) := by decide +kernel
theorem dX5_add_4 : decode cX5_add 4 = .ok (.iload_n 1, 1) := by decide +kernel
theorem dX5_add_5 : decode cX5_add 5 = .ok (.invokevirtual 40, 3) := by decide +kernel
theorem dX5_add_8 : decode cX5_add 8 = .ok (.return_, 1) := by decide +kernel
theorem dX5_empty_0 : decode cX5_empty 0 = .ok (.aload_n 0, 1) := by decide +kernel
theorem dX5_empty_1 : decode cX5_empty 1 = .ok (.getfield 14, 3) := by decide +kernel
theorem dX5_empty_4 : decode cX5_empty 4 = .ok (.invokevirtual 43, 3) := by decide +kernel
theorem dX5_empty_7 : decode cX5_empty 7 = .ok (.return_, 1) := by decide +kernel
theorem dX5_takeApart_0 : decode cX5_takeApart 0 = .ok (.aload_n 1, 1) := by decide +kernel
theorem dX5_takeApart_1 : decode cX5_takeApart 1 = .ok (.invokevirtual 46, 3) := by decide +kernel
theorem dX5_takeApart_4 : decode cX5_takeApart 4 = .ok (.aload_n 0, 1) := by decide +kernel
theorem dX5_takeApart_5 : decode cX5_takeApart 5 = .ok (.iconst 0, 1) := by decide +kernel
theorem dX5_takeApart_6 : decode cX5_takeApart 6 = .ok (.putfield 20, 3) := by decide +kernel
theorem dX5_takeApart_9 : decode cX5_takeApart 9 = .ok (.aload_n 0, 1) := by decide +kernel
theorem dX5_takeApart_10 : decode cX5_takeApart 10 = .ok (.invokevirtual 49, 3) := by decide +kernel
theorem dX5_takeApart_13 : decode cX5_takeApart 13 = .ok (.ifCond .ne 8, 3) := by decide +kernel
theorem dX5_takeApart_16 : decode cX5_takeApart 16 = .ok (.aload_n 0, 1) := by decide +kernel
theorem dX5_takeApart_17 : decode cX5_takeApart 17 = .ok (.getfield 20, 3) := by decide +kernel
theorem dX5_takeApart_20 : decode cX5_takeApart 20 = .ok (.ireturn, 1) := by decide +kernel
theorem dX5_takeApart_21 : decode cX5_takeApart 21 = .ok (.iconst 0, 1) := by decide +kernel
theorem dX5_takeApart_22 : decode cX5_takeApart 22 = .ok (.istore_n 2, 1) := by decide +kernel
theorem dX5_takeApart_23 : decode cX5_takeApart 23 = .ok (.iload_n 2, 1) := by decide +kernel
theorem dX5_takeApart_24 : decode cX5_takeApart 24 = .ok (.bipush 40, 2) := by decide +kernel
theorem dX5_takeApart_26 : decode cX5_takeApart 26 = .ok (.if_icmp .ge 40, 3) := by decide +kernel
theorem dX5_takeApart_29 : decode cX5_takeApart 29 = .ok (.iload_n 2, 1) := by decide +kernel
theorem dX5_takeApart_30 : decode cX5_takeApart 30 = .ok (.ifCond .eq 17, 3) := by decide +kernel
theorem dX5_takeApart_33 : decode cX5_takeApart 33 = .ok (.aload_n 0, 1) := by decide +kernel
theorem dX5_takeApart_34 : decode cX5_takeApart 34 = .ok (.getfield 20, 3) := by decide +kernel
theorem dX5_takeApart_37 : decode cX5_takeApart 37 = .ok (.aload_n 0, 1) := by decide +kernel
theorem dX5_takeApart_38 : decode cX5_takeApart 38 = .ok (.getfield 14, 3) := by decide +kernel
theorem dX5_takeApart_41 : decode cX5_takeApart 41 = .ok (.invokevirtual 36, 3) := by decide +kernel
theorem dX5_takeApart_44 : decode cX5_takeApart 44 = .ok (.if_icmp .ge 22, 3) := by decide +kernel
theorem dX5_takeApart_47 : decode cX5_takeApart 47 = .ok (.aload_n 0, 1) := by decide +kernel
theorem dX5_takeApart_48 : decode cX5_takeApart 48 = .ok (.aload_n 1, 1) := by decide +kernel
theorem dX5_takeApart_49 : decode cX5_takeApart 49 = .ok (.invokevirtual 53, 3) := by decide +kernel
theorem dX5_takeApart_52 : decode cX5_takeApart 52 = .ok (.ifCond .ne 8, 3) := by decide +kernel
theorem dX5_takeApart_55 : decode cX5_takeApart 55 = .ok (.aload_n 0, 1) := by decide +kernel
theorem dX5_takeApart_56 : decode cX5_takeApart 56 = .ok (.getfield 20, 3) := by decide +kernel
theorem dX5_takeApart_59 : decode cX5_takeApart 59 = .ok (.ireturn, 1) := by decide +kernel
theorem dX5_takeApart_60 : decode cX5_takeApart 60 = .ok (.iinc 2 1, 3) := by decide +kernel
theorem dX5_takeApart_63 : decode cX5_takeApart 63 = .ok (.goto (-40), 3) := by decide +kernel
theorem dX5_takeApart_66 : decode cX5_takeApart 66 = .ok (.aload_n 0, 1) := by decide +kernel
theorem dX5_takeApart_67 : decode cX5_takeApart 67 = .ok (.getfield 20, 3) := by decide +kernel
theorem dX5_takeApart_70 : decode cX5_takeApart 70 = .ok (.aload_n 0, 1) := by decide +kernel
theorem dX5_takeApart_71 : decode cX5_takeApart 71 = .ok (.getfield 14, 3) := by decide +kernel
theorem dX5_takeApart_74 : decode cX5_takeApart 74 = .ok (.invokevirtual 36, 3) := by decide +kernel
theorem dX5_takeApart_77 : decode cX5_takeApart 77 = .ok (.if_icmp .ge 8, 3) := by decide +kernel
theorem dX5_takeApart_80 : decode cX5_takeApart 80 = .ok (.aload_n 0, 1) := by decide +kernel
theorem dX5_takeApart_81 : decode cX5_takeApart 81 = .ok (.getfield 20, 3) := by decide +kernel
theorem dX5_takeApart_84 : decode cX5_takeApart 84 = .ok (.ireturn, 1) := by decide +kernel
theorem dX5_takeApart_85 : decode cX5_takeApart 85 = .ok (.aload_n 1, 1) := by decide +kernel
theorem dX5_takeApart_86 : decode cX5_takeApart 86 = .ok (.invokevirtual 57, 3) := by decide +kernel
theorem dX5_takeApart_89 : decode cX5_takeApart 89 = .ok (.iconst (-1), 1) := by decide +kernel
theorem dX5_takeApart_90 : decode cX5_takeApart 90 = .ok (.ireturn, 1) := by decide +kernel
theorem dX5_takeMarks_0 : decode cX5_takeMarks 0 = .ok (.aload_n 0, 1) := by decide +kernel
theorem dX5_takeMarks_1 : decode cX5_takeMarks 1 = .ok (.getfield 14, 3) := by decide +kernel
theorem dX5_takeMarks_4 : decode cX5_takeMarks 4 = .ok (.iconst 0, 1) := by decide +kernel
theorem dX5_takeMarks_5 : decode cX5_takeMarks 5 = .ok (.invokevirtual 60, 3) := by decide +kernel
theorem dX5_takeMarks_8 : decode cX5_takeMarks 8 = .ok (.bipush 85, 2) := by decide +kernel
theorem dX5_takeMarks_10 : decode cX5_takeMarks 10 = .ok (.if_icmp .ne 29, 3) := by decide +kernel
theorem dX5_takeMarks_13 : decode cX5_takeMarks 13 = .ok (.aload_n 0, 1) := by decide +kernel
theorem dX5_takeMarks_14 : decode cX5_takeMarks 14 = .ok (.getfield 14, 3) := by decide +kernel
theorem dX5_takeMarks_17 : decode cX5_takeMarks 17 = .ok (.iconst 1, 1) := by decide +kernel
theorem dX5_takeMarks_18 : decode cX5_takeMarks 18 = .ok (.invokevirtual 60, 3) := by decide +kernel
theorem dX5_takeMarks_21 : decode cX5_takeMarks 21 = .ok (.bipush 78, 2) := by decide +kernel
theorem dX5_takeMarks_23 : decode cX5_takeMarks 23 = .ok (.if_icmp .ne 16, 3) := by decide +kernel
theorem dX5_takeMarks_26 : decode cX5_takeMarks 26 = .ok (.aload_n 0, 1) := by decide +kernel
theorem dX5_takeMarks_27 : decode cX5_takeMarks 27 = .ok (.getfield 14, 3) := by decide +kernel
theorem dX5_takeMarks_30 : decode cX5_takeMarks 30 = .ok (.iconst 2, 1) := by decide +kernel
theorem dX5_takeMarks_31 : decode cX5_takeMarks 31 = .ok (.invokevirtual 60, 3) := by decide +kernel
theorem dX5_takeMarks_34 : decode cX5_takeMarks 34 = .ok (.bipush 65, 2) := by decide +kernel
theorem dX5_takeMarks_36 : decode cX5_takeMarks 36 = .ok (.if_icmp .eq 29, 3) := by decide +kernel
theorem dX5_takeMarks_39 : decode cX5_takeMarks 39 = .ok (.aload_n 0, 1) := by decide +kernel
theorem dX5_takeMarks_40 : decode cX5_takeMarks 40 = .ok (.bipush 58, 2) := by decide +kernel
theorem dX5_takeMarks_42 : decode cX5_takeMarks 42 = .ok (.putfield 24, 3) := by decide +kernel
theorem dX5_takeMarks_45 : decode cX5_takeMarks 45 = .ok (.aload_n 0, 1) := by decide +kernel
theorem dX5_takeMarks_46 : decode cX5_takeMarks 46 = .ok (.bipush 43, 2) := by decide +kernel
theorem dX5_takeMarks_48 : decode cX5_takeMarks 48 = .ok (.putfield 27, 3) := by decide +kernel
theorem dX5_takeMarks_51 : decode cX5_takeMarks 51 = .ok (.aload_n 0, 1) := by decide +kernel
theorem dX5_takeMarks_52 : decode cX5_takeMarks 52 = .ok (.bipush 63, 2) := by decide +kernel
theorem dX5_takeMarks_54 : decode cX5_takeMarks 54 = .ok (.putfield 30, 3) := by decide +kernel
theorem dX5_takeMarks_57 : decode cX5_takeMarks 57 = .ok (.aload_n 0, 1) := by decide +kernel
theorem dX5_takeMarks_58 : decode cX5_takeMarks 58 = .ok (.bipush 39, 2) := by decide +kernel
theorem dX5_takeMarks_60 : decode cX5_takeMarks 60 = .ok (.putfield 33, 3) := by decide +kernel
theorem dX5_takeMarks_63 : decode cX5_takeMarks 63 = .ok (.iconst 1, 1) := by decide +kernel
theorem dX5_takeMarks_64 : decode cX5_takeMarks 64 = .ok (.ireturn, 1) := by decide +kernel
theorem dX5_takeMarks_65 : decode cX5_takeMarks 65 = .ok (.aload_n 0, 1) := by decide +kernel
theorem dX5_takeMarks_66 : decode cX5_takeMarks 66 = .ok (.iconst 3, 1) := by decide +kernel
theorem dX5_takeMarks_67 : decode cX5_takeMarks 67 = .ok (.putfield 20, 3) := by decide +kernel
theorem dX5_takeMarks_70 : decode cX5_takeMarks 70 = .ok (.aload_n 0, 1) := by decide +kernel
theorem dX5_takeMarks_71 : decode cX5_takeMarks 71 = .ok (.getfield 20, 3) := by decide +kernel
theorem dX5_takeMarks_74 : decode cX5_takeMarks 74 = .ok (.bipush 9, 2) := by decide +kernel
theorem dX5_takeMarks_76 : decode cX5_takeMarks 76 = .ok (.if_icmp .ge 36, 3) := by decide +kernel
theorem dX5_takeMarks_79 : decode cX5_takeMarks 79 = .ok (.aload_n 0, 1) := by decide +kernel
theorem dX5_takeMarks_80 : decode cX5_takeMarks 80 = .ok (.aload_n 0, 1) := by decide +kernel
theorem dX5_takeMarks_81 : decode cX5_takeMarks 81 = .ok (.getfield 14, 3) := by decide +kernel
theorem dX5_takeMarks_84 : decode cX5_takeMarks 84 = .ok (.aload_n 0, 1) := by decide +kernel
theorem dX5_takeMarks_85 : decode cX5_takeMarks 85 = .ok (.getfield 20, 3) := by decide +kernel
theorem dX5_takeMarks_88 : decode cX5_takeMarks 88 = .ok (.invokevirtual 60, 3) := by decide +kernel
theorem dX5_takeMarks_91 : decode cX5_takeMarks 91 = .ok (.invokevirtual 64, 3) := by decide +kernel
theorem dX5_takeMarks_94 : decode cX5_takeMarks 94 = .ok (.ifCond .ne 5, 3) := by decide +kernel
theorem dX5_takeMarks_97 : decode cX5_takeMarks 97 = .ok (.iconst 0, 1) := by decide +kernel
theorem dX5_takeMarks_98 : decode cX5_takeMarks 98 = .ok (.ireturn, 1) := by decide +kernel
theorem dX5_takeMarks_99 : decode cX5_takeMarks 99 = .ok (.aload_n 0, 1) := by decide +kernel
theorem dX5_takeMarks_100 : decode cX5_takeMarks 100 = .ok (.dup, 1) := by decide +kernel
theorem dX5_takeMarks_101 : decode cX5_takeMarks 101 = .ok (.getfield 20, 3) := by decide +kernel
theorem dX5_takeMarks_104 : decode cX5_takeMarks 104 = .ok (.iconst 1, 1) := by decide +kernel
theorem dX5_takeMarks_105 : decode cX5_takeMarks 105 = .ok (.iadd, 1) := by decide +kernel
theorem dX5_takeMarks_106 : decode cX5_takeMarks 106 = .ok (.putfield 20, 3) := by decide +kernel
theorem dX5_takeMarks_109 : decode cX5_takeMarks 109 = .ok (.goto (-39), 3) := by decide +kernel
theorem dX5_takeMarks_112 : decode cX5_takeMarks 112 = .ok (.iconst 1, 1) := by decide +kernel
theorem dX5_takeMarks_113 : decode cX5_takeMarks 113 = .ok (.ireturn, 1) := by decide +kernel
theorem dX5_takeChoice_0 : decode cX5_takeChoice 0 = .ok (.aload_n 0, 1) := by decide +kernel
theorem dX5_takeChoice_1 : decode cX5_takeChoice 1 = .ok (.getfield 20, 3) := by decide +kernel
theorem dX5_takeChoice_4 : decode cX5_takeChoice 4 = .ok (.tableswitch 145 3 7 #[36, 46, 72, 83, 133], 36) := by decide +kernel
theorem dX5_takeChoice_40 : decode cX5_takeChoice 40 = .ok (.aload_n 0, 1) := by decide +kernel
theorem dX5_takeChoice_41 : decode cX5_takeChoice 41 = .ok (.iload_n 1, 1) := by decide +kernel
theorem dX5_takeChoice_42 : decode cX5_takeChoice 42 = .ok (.putfield 24, 3) := by decide +kernel
theorem dX5_takeChoice_45 : decode cX5_takeChoice 45 = .ok (.iload_n 1, 1) := by decide +kernel
theorem dX5_takeChoice_46 : decode cX5_takeChoice 46 = .ok (.invokestatic 68, 3) := by decide +kernel
theorem dX5_takeChoice_49 : decode cX5_takeChoice 49 = .ok (.ireturn, 1) := by decide +kernel
theorem dX5_takeChoice_50 : decode cX5_takeChoice 50 = .ok (.aload_n 0, 1) := by decide +kernel
theorem dX5_takeChoice_51 : decode cX5_takeChoice 51 = .ok (.iload_n 1, 1) := by decide +kernel
theorem dX5_takeChoice_52 : decode cX5_takeChoice 52 = .ok (.putfield 27, 3) := by decide +kernel
theorem dX5_takeChoice_55 : decode cX5_takeChoice 55 = .ok (.iload_n 1, 1) := by decide +kernel
theorem dX5_takeChoice_56 : decode cX5_takeChoice 56 = .ok (.invokestatic 68, 3) := by decide +kernel
theorem dX5_takeChoice_59 : decode cX5_takeChoice 59 = .ok (.ifCond .eq 15, 3) := by decide +kernel
theorem dX5_takeChoice_62 : decode cX5_takeChoice 62 = .ok (.iload_n 1, 1) := by decide +kernel
theorem dX5_takeChoice_63 : decode cX5_takeChoice 63 = .ok (.aload_n 0, 1) := by decide +kernel
theorem dX5_takeChoice_64 : decode cX5_takeChoice 64 = .ok (.getfield 24, 3) := by decide +kernel
theorem dX5_takeChoice_67 : decode cX5_takeChoice 67 = .ok (.if_icmp .eq 7, 3) := by decide +kernel
theorem dX5_takeChoice_70 : decode cX5_takeChoice 70 = .ok (.iconst 1, 1) := by decide +kernel
theorem dX5_takeChoice_71 : decode cX5_takeChoice 71 = .ok (.goto 4, 3) := by decide +kernel
theorem dX5_takeChoice_74 : decode cX5_takeChoice 74 = .ok (.iconst 0, 1) := by decide +kernel
theorem dX5_takeChoice_75 : decode cX5_takeChoice 75 = .ok (.ireturn, 1) := by decide +kernel
theorem dX5_takeChoice_76 : decode cX5_takeChoice 76 = .ok (.iload_n 1, 1) := by decide +kernel
theorem dX5_takeChoice_77 : decode cX5_takeChoice 77 = .ok (.iconst (-1), 1) := by decide +kernel
theorem dX5_takeChoice_78 : decode cX5_takeChoice 78 = .ok (.if_icmp .eq 7, 3) := by decide +kernel
theorem dX5_takeChoice_81 : decode cX5_takeChoice 81 = .ok (.iconst 1, 1) := by decide +kernel
theorem dX5_takeChoice_82 : decode cX5_takeChoice 82 = .ok (.goto 4, 3) := by decide +kernel
theorem dX5_takeChoice_85 : decode cX5_takeChoice 85 = .ok (.iconst 0, 1) := by decide +kernel
theorem dX5_takeChoice_86 : decode cX5_takeChoice 86 = .ok (.ireturn, 1) := by decide +kernel
theorem dX5_takeChoice_87 : decode cX5_takeChoice 87 = .ok (.aload_n 0, 1) := by decide +kernel
theorem dX5_takeChoice_88 : decode cX5_takeChoice 88 = .ok (.iload_n 1, 1) := by decide +kernel
theorem dX5_takeChoice_89 : decode cX5_takeChoice 89 = .ok (.bipush 32, 2) := by decide +kernel
theorem dX5_takeChoice_91 : decode cX5_takeChoice 91 = .ok (.if_icmp .ne 7, 3) := by decide +kernel
theorem dX5_takeChoice_94 : decode cX5_takeChoice 94 = .ok (.iconst 0, 1) := by decide +kernel
theorem dX5_takeChoice_95 : decode cX5_takeChoice 95 = .ok (.goto 4, 3) := by decide +kernel
theorem dX5_takeChoice_98 : decode cX5_takeChoice 98 = .ok (.iload_n 1, 1) := by decide +kernel
theorem dX5_takeChoice_99 : decode cX5_takeChoice 99 = .ok (.putfield 30, 3) := by decide +kernel
theorem dX5_takeChoice_102 : decode cX5_takeChoice 102 = .ok (.iload_n 1, 1) := by decide +kernel
theorem dX5_takeChoice_103 : decode cX5_takeChoice 103 = .ok (.bipush 32, 2) := by decide +kernel
theorem dX5_takeChoice_105 : decode cX5_takeChoice 105 = .ok (.if_icmp .eq 26, 3) := by decide +kernel
theorem dX5_takeChoice_108 : decode cX5_takeChoice 108 = .ok (.iload_n 1, 1) := by decide +kernel
theorem dX5_takeChoice_109 : decode cX5_takeChoice 109 = .ok (.invokestatic 68, 3) := by decide +kernel
theorem dX5_takeChoice_112 : decode cX5_takeChoice 112 = .ok (.ifCond .eq 23, 3) := by decide +kernel
theorem dX5_takeChoice_115 : decode cX5_takeChoice 115 = .ok (.iload_n 1, 1) := by decide +kernel
theorem dX5_takeChoice_116 : decode cX5_takeChoice 116 = .ok (.aload_n 0, 1) := by decide +kernel
theorem dX5_takeChoice_117 : decode cX5_takeChoice 117 = .ok (.getfield 24, 3) := by decide +kernel
theorem dX5_takeChoice_120 : decode cX5_takeChoice 120 = .ok (.if_icmp .eq 15, 3) := by decide +kernel
theorem dX5_takeChoice_123 : decode cX5_takeChoice 123 = .ok (.iload_n 1, 1) := by decide +kernel
theorem dX5_takeChoice_124 : decode cX5_takeChoice 124 = .ok (.aload_n 0, 1) := by decide +kernel
theorem dX5_takeChoice_125 : decode cX5_takeChoice 125 = .ok (.getfield 27, 3) := by decide +kernel
theorem dX5_takeChoice_128 : decode cX5_takeChoice 128 = .ok (.if_icmp .eq 7, 3) := by decide +kernel
theorem dX5_takeChoice_131 : decode cX5_takeChoice 131 = .ok (.iconst 1, 1) := by decide +kernel
theorem dX5_takeChoice_132 : decode cX5_takeChoice 132 = .ok (.goto 4, 3) := by decide +kernel
theorem dX5_takeChoice_135 : decode cX5_takeChoice 135 = .ok (.iconst 0, 1) := by decide +kernel
theorem dX5_takeChoice_136 : decode cX5_takeChoice 136 = .ok (.ireturn, 1) := by decide +kernel
theorem dX5_takeChoice_137 : decode cX5_takeChoice 137 = .ok (.iload_n 1, 1) := by decide +kernel
theorem dX5_takeChoice_138 : decode cX5_takeChoice 138 = .ok (.bipush 32, 2) := by decide +kernel
theorem dX5_takeChoice_140 : decode cX5_takeChoice 140 = .ok (.if_icmp .ne 7, 3) := by decide +kernel
theorem dX5_takeChoice_143 : decode cX5_takeChoice 143 = .ok (.iconst 1, 1) := by decide +kernel
theorem dX5_takeChoice_144 : decode cX5_takeChoice 144 = .ok (.goto 4, 3) := by decide +kernel
theorem dX5_takeChoice_147 : decode cX5_takeChoice 147 = .ok (.iconst 0, 1) := by decide +kernel
theorem dX5_takeChoice_148 : decode cX5_takeChoice 148 = .ok (.ireturn, 1) := by decide +kernel
theorem dX5_takeChoice_149 : decode cX5_takeChoice 149 = .ok (.aload_n 0, 1) := by decide +kernel
theorem dX5_takeChoice_150 : decode cX5_takeChoice 150 = .ok (.iload_n 1, 1) := by decide +kernel
theorem dX5_takeChoice_151 : decode cX5_takeChoice 151 = .ok (.putfield 33, 3) := by decide +kernel
theorem dX5_takeChoice_154 : decode cX5_takeChoice 154 = .ok (.iload_n 1, 1) := by decide +kernel
theorem dX5_takeChoice_155 : decode cX5_takeChoice 155 = .ok (.invokestatic 68, 3) := by decide +kernel
theorem dX5_takeChoice_158 : decode cX5_takeChoice 158 = .ok (.ifCond .eq 31, 3) := by decide +kernel
theorem dX5_takeChoice_161 : decode cX5_takeChoice 161 = .ok (.iload_n 1, 1) := by decide +kernel
theorem dX5_takeChoice_162 : decode cX5_takeChoice 162 = .ok (.aload_n 0, 1) := by decide +kernel
theorem dX5_takeChoice_163 : decode cX5_takeChoice 163 = .ok (.getfield 24, 3) := by decide +kernel
theorem dX5_takeChoice_166 : decode cX5_takeChoice 166 = .ok (.if_icmp .eq 23, 3) := by decide +kernel
theorem dX5_takeChoice_169 : decode cX5_takeChoice 169 = .ok (.iload_n 1, 1) := by decide +kernel
theorem dX5_takeChoice_170 : decode cX5_takeChoice 170 = .ok (.aload_n 0, 1) := by decide +kernel
theorem dX5_takeChoice_171 : decode cX5_takeChoice 171 = .ok (.getfield 27, 3) := by decide +kernel
theorem dX5_takeChoice_174 : decode cX5_takeChoice 174 = .ok (.if_icmp .eq 15, 3) := by decide +kernel
theorem dX5_takeChoice_177 : decode cX5_takeChoice 177 = .ok (.iload_n 1, 1) := by decide +kernel
theorem dX5_takeChoice_178 : decode cX5_takeChoice 178 = .ok (.aload_n 0, 1) := by decide +kernel
theorem dX5_takeChoice_179 : decode cX5_takeChoice 179 = .ok (.getfield 30, 3) := by decide +kernel
theorem dX5_takeChoice_182 : decode cX5_takeChoice 182 = .ok (.if_icmp .eq 7, 3) := by decide +kernel
theorem dX5_takeChoice_185 : decode cX5_takeChoice 185 = .ok (.iconst 1, 1) := by decide +kernel
theorem dX5_takeChoice_186 : decode cX5_takeChoice 186 = .ok (.goto 4, 3) := by decide +kernel
theorem dX5_takeChoice_189 : decode cX5_takeChoice 189 = .ok (.iconst 0, 1) := by decide +kernel
theorem dX5_takeChoice_190 : decode cX5_takeChoice 190 = .ok (.ireturn, 1) := by decide +kernel
theorem dX5_canBeMark_0 : decode cX5_canBeMark 0 = .ok (.iload_n 0, 1) := by decide +kernel
theorem dX5_canBeMark_1 : decode cX5_canBeMark 1 = .ok (.iconst (-1), 1) := by decide +kernel
theorem dX5_canBeMark_2 : decode cX5_canBeMark 2 = .ok (.if_icmp .eq 39, 3) := by decide +kernel
theorem dX5_canBeMark_5 : decode cX5_canBeMark 5 = .ok (.iload_n 0, 1) := by decide +kernel
theorem dX5_canBeMark_6 : decode cX5_canBeMark 6 = .ok (.bipush 32, 2) := by decide +kernel
theorem dX5_canBeMark_8 : decode cX5_canBeMark 8 = .ok (.if_icmp .eq 33, 3) := by decide +kernel
theorem dX5_canBeMark_11 : decode cX5_canBeMark 11 = .ok (.iload_n 0, 1) := by decide +kernel
theorem dX5_canBeMark_12 : decode cX5_canBeMark 12 = .ok (.invokestatic 71, 3) := by decide +kernel
theorem dX5_canBeMark_15 : decode cX5_canBeMark 15 = .ok (.ifCond .ne 26, 3) := by decide +kernel
theorem dX5_canBeMark_18 : decode cX5_canBeMark 18 = .ok (.iload_n 0, 1) := by decide +kernel
theorem dX5_canBeMark_19 : decode cX5_canBeMark 19 = .ok (.invokestatic 74, 3) := by decide +kernel
theorem dX5_canBeMark_22 : decode cX5_canBeMark 22 = .ok (.ifCond .ne 19, 3) := by decide +kernel
theorem dX5_canBeMark_25 : decode cX5_canBeMark 25 = .ok (.iload_n 0, 1) := by decide +kernel
theorem dX5_canBeMark_26 : decode cX5_canBeMark 26 = .ok (.bipush 97, 2) := by decide +kernel
theorem dX5_canBeMark_28 : decode cX5_canBeMark 28 = .ok (.if_icmp .lt 9, 3) := by decide +kernel
theorem dX5_canBeMark_31 : decode cX5_canBeMark 31 = .ok (.iload_n 0, 1) := by decide +kernel
theorem dX5_canBeMark_32 : decode cX5_canBeMark 32 = .ok (.bipush 122, 2) := by decide +kernel
theorem dX5_canBeMark_34 : decode cX5_canBeMark 34 = .ok (.if_icmp .le 7, 3) := by decide +kernel
theorem dX5_canBeMark_37 : decode cX5_canBeMark 37 = .ok (.iconst 1, 1) := by decide +kernel
theorem dX5_canBeMark_38 : decode cX5_canBeMark 38 = .ok (.goto 4, 3) := by decide +kernel
theorem dX5_canBeMark_41 : decode cX5_canBeMark 41 = .ok (.iconst 0, 1) := by decide +kernel
theorem dX5_canBeMark_42 : decode cX5_canBeMark 42 = .ok (.ireturn, 1) := by decide +kernel
theorem dX5_takeSegment_0 : decode cX5_takeSegment 0 = .ok (.iconst 0, 1) := by decide +kernel
theorem dX5_takeSegment_1 : decode cX5_takeSegment 1 = .ok (.istore_n 2, 1) := by decide +kernel
theorem dX5_takeSegment_2 : decode cX5_takeSegment 2 = .ok (.iconst 0, 1) := by decide +kernel
theorem dX5_takeSegment_3 : decode cX5_takeSegment 3 = .ok (.istore_n 3, 1) := by decide +kernel
theorem dX5_takeSegment_4 : decode cX5_takeSegment 4 = .ok (.iload_n 3, 1) := by decide +kernel
theorem dX5_takeSegment_5 : decode cX5_takeSegment 5 = .ok (.iconst 3, 1) := by decide +kernel
theorem dX5_takeSegment_6 : decode cX5_takeSegment 6 = .ok (.if_icmp .ge 50, 3) := by decide +kernel
theorem dX5_takeSegment_9 : decode cX5_takeSegment 9 = .ok (.aload_n 0, 1) := by decide +kernel
theorem dX5_takeSegment_10 : decode cX5_takeSegment 10 = .ok (.getfield 14, 3) := by decide +kernel
theorem dX5_takeSegment_13 : decode cX5_takeSegment 13 = .ok (.aload_n 0, 1) := by decide +kernel
theorem dX5_takeSegment_14 : decode cX5_takeSegment 14 = .ok (.getfield 20, 3) := by decide +kernel
theorem dX5_takeSegment_17 : decode cX5_takeSegment 17 = .ok (.invokevirtual 60, 3) := by decide +kernel
theorem dX5_takeSegment_20 : decode cX5_takeSegment 20 = .ok (.istore 4, 2) := by decide +kernel
theorem dX5_takeSegment_22 : decode cX5_takeSegment 22 = .ok (.iload 4, 2) := by decide +kernel
theorem dX5_takeSegment_24 : decode cX5_takeSegment 24 = .ok (.invokestatic 74, 3) := by decide +kernel
theorem dX5_takeSegment_27 : decode cX5_takeSegment 27 = .ok (.ifCond .ne 5, 3) := by decide +kernel
theorem dX5_takeSegment_30 : decode cX5_takeSegment 30 = .ok (.iconst 0, 1) := by decide +kernel
theorem dX5_takeSegment_31 : decode cX5_takeSegment 31 = .ok (.ireturn, 1) := by decide +kernel
theorem dX5_takeSegment_32 : decode cX5_takeSegment 32 = .ok (.iload_n 2, 1) := by decide +kernel
theorem dX5_takeSegment_33 : decode cX5_takeSegment 33 = .ok (.bipush 8, 2) := by decide +kernel
theorem dX5_takeSegment_35 : decode cX5_takeSegment 35 = .ok (.ishl, 1) := by decide +kernel
theorem dX5_takeSegment_36 : decode cX5_takeSegment 36 = .ok (.iload 4, 2) := by decide +kernel
theorem dX5_takeSegment_38 : decode cX5_takeSegment 38 = .ok (.ior, 1) := by decide +kernel
theorem dX5_takeSegment_39 : decode cX5_takeSegment 39 = .ok (.istore_n 2, 1) := by decide +kernel
theorem dX5_takeSegment_40 : decode cX5_takeSegment 40 = .ok (.aload_n 0, 1) := by decide +kernel
theorem dX5_takeSegment_41 : decode cX5_takeSegment 41 = .ok (.dup, 1) := by decide +kernel
theorem dX5_takeSegment_42 : decode cX5_takeSegment 42 = .ok (.getfield 20, 3) := by decide +kernel
theorem dX5_takeSegment_45 : decode cX5_takeSegment 45 = .ok (.iconst 1, 1) := by decide +kernel
theorem dX5_takeSegment_46 : decode cX5_takeSegment 46 = .ok (.iadd, 1) := by decide +kernel
theorem dX5_takeSegment_47 : decode cX5_takeSegment 47 = .ok (.putfield 20, 3) := by decide +kernel
theorem dX5_takeSegment_50 : decode cX5_takeSegment 50 = .ok (.iinc 3 1, 3) := by decide +kernel
theorem dX5_takeSegment_53 : decode cX5_takeSegment 53 = .ok (.goto (-49), 3) := by decide +kernel
theorem dX5_takeSegment_56 : decode cX5_takeSegment 56 = .ok (.aload_n 1, 1) := by decide +kernel
theorem dX5_takeSegment_57 : decode cX5_takeSegment 57 = .ok (.iload_n 2, 1) := by decide +kernel
theorem dX5_takeSegment_58 : decode cX5_takeSegment 58 = .ok (.invokevirtual 77, 3) := by decide +kernel
theorem dX5_takeSegment_61 : decode cX5_takeSegment 61 = .ok (.iconst 0, 1) := by decide +kernel
theorem dX5_takeSegment_62 : decode cX5_takeSegment 62 = .ok (.istore_n 3, 1) := by decide +kernel
theorem dX5_takeSegment_63 : decode cX5_takeSegment 63 = .ok (.iload_n 3, 1) := by decide +kernel
theorem dX5_takeSegment_64 : decode cX5_takeSegment 64 = .ok (.bipush 120, 2) := by decide +kernel
theorem dX5_takeSegment_66 : decode cX5_takeSegment 66 = .ok (.if_icmp .ge 56, 3) := by decide +kernel
theorem dX5_takeSegment_69 : decode cX5_takeSegment 69 = .ok (.aload_n 0, 1) := by decide +kernel
theorem dX5_takeSegment_70 : decode cX5_takeSegment 70 = .ok (.getfield 14, 3) := by decide +kernel
theorem dX5_takeSegment_73 : decode cX5_takeSegment 73 = .ok (.aload_n 0, 1) := by decide +kernel
theorem dX5_takeSegment_74 : decode cX5_takeSegment 74 = .ok (.getfield 20, 3) := by decide +kernel
theorem dX5_takeSegment_77 : decode cX5_takeSegment 77 = .ok (.invokevirtual 60, 3) := by decide +kernel
theorem dX5_takeSegment_80 : decode cX5_takeSegment 80 = .ok (.aload_n 0, 1) := by decide +kernel
theorem dX5_takeSegment_81 : decode cX5_takeSegment 81 = .ok (.getfield 27, 3) := by decide +kernel
theorem dX5_takeSegment_84 : decode cX5_takeSegment 84 = .ok (.if_icmp .ne 38, 3) := by decide +kernel
theorem dX5_takeSegment_87 : decode cX5_takeSegment 87 = .ok (.aload_n 1, 1) := by decide +kernel
theorem dX5_takeSegment_88 : decode cX5_takeSegment 88 = .ok (.invokevirtual 80, 3) := by decide +kernel
theorem dX5_takeSegment_91 : decode cX5_takeSegment 91 = .ok (.ifCond .eq 6, 3) := by decide +kernel
theorem dX5_takeSegment_94 : decode cX5_takeSegment 94 = .ok (.goto 28, 3) := by decide +kernel
theorem dX5_takeSegment_97 : decode cX5_takeSegment 97 = .ok (.aload_n 0, 1) := by decide +kernel
theorem dX5_takeSegment_98 : decode cX5_takeSegment 98 = .ok (.dup, 1) := by decide +kernel
theorem dX5_takeSegment_99 : decode cX5_takeSegment 99 = .ok (.getfield 20, 3) := by decide +kernel
theorem dX5_takeSegment_102 : decode cX5_takeSegment 102 = .ok (.iconst 1, 1) := by decide +kernel
theorem dX5_takeSegment_103 : decode cX5_takeSegment 103 = .ok (.iadd, 1) := by decide +kernel
theorem dX5_takeSegment_104 : decode cX5_takeSegment 104 = .ok (.putfield 20, 3) := by decide +kernel
theorem dX5_takeSegment_107 : decode cX5_takeSegment 107 = .ok (.aload_n 1, 1) := by decide +kernel
theorem dX5_takeSegment_108 : decode cX5_takeSegment 108 = .ok (.invokevirtual 83, 3) := by decide +kernel
theorem dX5_takeSegment_111 : decode cX5_takeSegment 111 = .ok (.aload_n 0, 1) := by decide +kernel
theorem dX5_takeSegment_112 : decode cX5_takeSegment 112 = .ok (.aload_n 1, 1) := by decide +kernel
theorem dX5_takeSegment_113 : decode cX5_takeSegment 113 = .ok (.invokevirtual 86, 3) := by decide +kernel
theorem dX5_takeSegment_116 : decode cX5_takeSegment 116 = .ok (.iinc 3 1, 3) := by decide +kernel
theorem dX5_takeSegment_119 : decode cX5_takeSegment 119 = .ok (.goto (-56), 3) := by decide +kernel
theorem dX5_takeSegment_122 : decode cX5_takeSegment 122 = .ok (.aload_n 0, 1) := by decide +kernel
theorem dX5_takeSegment_123 : decode cX5_takeSegment 123 = .ok (.getfield 14, 3) := by decide +kernel
theorem dX5_takeSegment_126 : decode cX5_takeSegment 126 = .ok (.aload_n 0, 1) := by decide +kernel
theorem dX5_takeSegment_127 : decode cX5_takeSegment 127 = .ok (.getfield 20, 3) := by decide +kernel
theorem dX5_takeSegment_130 : decode cX5_takeSegment 130 = .ok (.invokevirtual 60, 3) := by decide +kernel
theorem dX5_takeSegment_133 : decode cX5_takeSegment 133 = .ok (.aload_n 0, 1) := by decide +kernel
theorem dX5_takeSegment_134 : decode cX5_takeSegment 134 = .ok (.getfield 33, 3) := by decide +kernel
theorem dX5_takeSegment_137 : decode cX5_takeSegment 137 = .ok (.if_icmp .eq 5, 3) := by decide +kernel
theorem dX5_takeSegment_140 : decode cX5_takeSegment 140 = .ok (.iconst 0, 1) := by decide +kernel
theorem dX5_takeSegment_141 : decode cX5_takeSegment 141 = .ok (.ireturn, 1) := by decide +kernel
theorem dX5_takeSegment_142 : decode cX5_takeSegment 142 = .ok (.aload_n 0, 1) := by decide +kernel
theorem dX5_takeSegment_143 : decode cX5_takeSegment 143 = .ok (.dup, 1) := by decide +kernel
theorem dX5_takeSegment_144 : decode cX5_takeSegment 144 = .ok (.getfield 20, 3) := by decide +kernel
theorem dX5_takeSegment_147 : decode cX5_takeSegment 147 = .ok (.iconst 1, 1) := by decide +kernel
theorem dX5_takeSegment_148 : decode cX5_takeSegment 148 = .ok (.iadd, 1) := by decide +kernel
theorem dX5_takeSegment_149 : decode cX5_takeSegment 149 = .ok (.putfield 20, 3) := by decide +kernel
theorem dX5_takeSegment_152 : decode cX5_takeSegment 152 = .ok (.iconst 1, 1) := by decide +kernel
theorem dX5_takeSegment_153 : decode cX5_takeSegment 153 = .ok (.ireturn, 1) := by decide +kernel
theorem dX5_takeElement_0 : decode cX5_takeElement 0 = .ok (.iconst 0, 1) := by decide +kernel
theorem dX5_takeElement_1 : decode cX5_takeElement 1 = .ok (.istore_n 2, 1) := by decide +kernel
theorem dX5_takeElement_2 : decode cX5_takeElement 2 = .ok (.iload_n 2, 1) := by decide +kernel
theorem dX5_takeElement_3 : decode cX5_takeElement 3 = .ok (.bipush 120, 2) := by decide +kernel
theorem dX5_takeElement_5 : decode cX5_takeElement 5 = .ok (.if_icmp .ge 54, 3) := by decide +kernel
theorem dX5_takeElement_8 : decode cX5_takeElement 8 = .ok (.aload_n 1, 1) := by decide +kernel
theorem dX5_takeElement_9 : decode cX5_takeElement 9 = .ok (.invokevirtual 90, 3) := by decide +kernel
theorem dX5_takeElement_12 : decode cX5_takeElement 12 = .ok (.aload_n 0, 1) := by decide +kernel
theorem dX5_takeElement_13 : decode cX5_takeElement 13 = .ok (.aload_n 1, 1) := by decide +kernel
theorem dX5_takeElement_14 : decode cX5_takeElement 14 = .ok (.invokevirtual 93, 3) := by decide +kernel
theorem dX5_takeElement_17 : decode cX5_takeElement 17 = .ok (.aload_n 0, 1) := by decide +kernel
theorem dX5_takeElement_18 : decode cX5_takeElement 18 = .ok (.getfield 14, 3) := by decide +kernel
theorem dX5_takeElement_21 : decode cX5_takeElement 21 = .ok (.aload_n 0, 1) := by decide +kernel
theorem dX5_takeElement_22 : decode cX5_takeElement 22 = .ok (.getfield 20, 3) := by decide +kernel
theorem dX5_takeElement_25 : decode cX5_takeElement 25 = .ok (.invokevirtual 60, 3) := by decide +kernel
theorem dX5_takeElement_28 : decode cX5_takeElement 28 = .ok (.aload_n 0, 1) := by decide +kernel
theorem dX5_takeElement_29 : decode cX5_takeElement 29 = .ok (.getfield 24, 3) := by decide +kernel
theorem dX5_takeElement_32 : decode cX5_takeElement 32 = .ok (.if_icmp .ne 10, 3) := by decide +kernel
theorem dX5_takeElement_35 : decode cX5_takeElement 35 = .ok (.aload_n 1, 1) := by decide +kernel
theorem dX5_takeElement_36 : decode cX5_takeElement 36 = .ok (.invokevirtual 80, 3) := by decide +kernel
theorem dX5_takeElement_39 : decode cX5_takeElement 39 = .ok (.ifCond .eq 4, 3) := by decide +kernel
theorem dX5_takeElement_42 : decode cX5_takeElement 42 = .ok (.return_, 1) := by decide +kernel
theorem dX5_takeElement_43 : decode cX5_takeElement 43 = .ok (.aload_n 0, 1) := by decide +kernel
theorem dX5_takeElement_44 : decode cX5_takeElement 44 = .ok (.dup, 1) := by decide +kernel
theorem dX5_takeElement_45 : decode cX5_takeElement 45 = .ok (.getfield 20, 3) := by decide +kernel
theorem dX5_takeElement_48 : decode cX5_takeElement 48 = .ok (.iconst 1, 1) := by decide +kernel
theorem dX5_takeElement_49 : decode cX5_takeElement 49 = .ok (.iadd, 1) := by decide +kernel
theorem dX5_takeElement_50 : decode cX5_takeElement 50 = .ok (.putfield 20, 3) := by decide +kernel
theorem dX5_takeElement_53 : decode cX5_takeElement 53 = .ok (.iinc 2 1, 3) := by decide +kernel
theorem dX5_takeElement_56 : decode cX5_takeElement 56 = .ok (.goto (-54), 3) := by decide +kernel
theorem dX5_takeElement_59 : decode cX5_takeElement 59 = .ok (.return_, 1) := by decide +kernel
theorem dX5_takeComponent_0 : decode cX5_takeComponent 0 = .ok (.aload_n 0, 1) := by decide +kernel
theorem dX5_takeComponent_1 : decode cX5_takeComponent 1 = .ok (.getfield 20, 3) := by decide +kernel
theorem dX5_takeComponent_4 : decode cX5_takeComponent 4 = .ok (.aload_n 0, 1) := by decide +kernel
theorem dX5_takeComponent_5 : decode cX5_takeComponent 5 = .ok (.getfield 14, 3) := by decide +kernel
theorem dX5_takeComponent_8 : decode cX5_takeComponent 8 = .ok (.invokevirtual 36, 3) := by decide +kernel
theorem dX5_takeComponent_11 : decode cX5_takeComponent 11 = .ok (.if_icmp .ge 94, 3) := by decide +kernel
theorem dX5_takeComponent_14 : decode cX5_takeComponent 14 = .ok (.aload_n 0, 1) := by decide +kernel
theorem dX5_takeComponent_15 : decode cX5_takeComponent 15 = .ok (.getfield 14, 3) := by decide +kernel
theorem dX5_takeComponent_18 : decode cX5_takeComponent 18 = .ok (.aload_n 0, 1) := by decide +kernel
theorem dX5_takeComponent_19 : decode cX5_takeComponent 19 = .ok (.getfield 20, 3) := by decide +kernel
theorem dX5_takeComponent_22 : decode cX5_takeComponent 22 = .ok (.invokevirtual 60, 3) := by decide +kernel
theorem dX5_takeComponent_25 : decode cX5_takeComponent 25 = .ok (.istore_n 2, 1) := by decide +kernel
theorem dX5_takeComponent_26 : decode cX5_takeComponent 26 = .ok (.iload_n 2, 1) := by decide +kernel
theorem dX5_takeComponent_27 : decode cX5_takeComponent 27 = .ok (.aload_n 0, 1) := by decide +kernel
theorem dX5_takeComponent_28 : decode cX5_takeComponent 28 = .ok (.getfield 24, 3) := by decide +kernel
theorem dX5_takeComponent_31 : decode cX5_takeComponent 31 = .ok (.if_icmp .eq 19, 3) := by decide +kernel
theorem dX5_takeComponent_34 : decode cX5_takeComponent 34 = .ok (.iload_n 2, 1) := by decide +kernel
theorem dX5_takeComponent_35 : decode cX5_takeComponent 35 = .ok (.aload_n 0, 1) := by decide +kernel
theorem dX5_takeComponent_36 : decode cX5_takeComponent 36 = .ok (.getfield 27, 3) := by decide +kernel
theorem dX5_takeComponent_39 : decode cX5_takeComponent 39 = .ok (.if_icmp .eq 11, 3) := by decide +kernel
theorem dX5_takeComponent_42 : decode cX5_takeComponent 42 = .ok (.iload_n 2, 1) := by decide +kernel
theorem dX5_takeComponent_43 : decode cX5_takeComponent 43 = .ok (.aload_n 0, 1) := by decide +kernel
theorem dX5_takeComponent_44 : decode cX5_takeComponent 44 = .ok (.getfield 33, 3) := by decide +kernel
theorem dX5_takeComponent_47 : decode cX5_takeComponent 47 = .ok (.if_icmp .ne 4, 3) := by decide +kernel
theorem dX5_takeComponent_50 : decode cX5_takeComponent 50 = .ok (.return_, 1) := by decide +kernel
theorem dX5_takeComponent_51 : decode cX5_takeComponent 51 = .ok (.iload_n 2, 1) := by decide +kernel
theorem dX5_takeComponent_52 : decode cX5_takeComponent 52 = .ok (.aload_n 0, 1) := by decide +kernel
theorem dX5_takeComponent_53 : decode cX5_takeComponent 53 = .ok (.getfield 30, 3) := by decide +kernel
theorem dX5_takeComponent_56 : decode cX5_takeComponent 56 = .ok (.if_icmp .ne 25, 3) := by decide +kernel
theorem dX5_takeComponent_59 : decode cX5_takeComponent 59 = .ok (.aload_n 0, 1) := by decide +kernel
theorem dX5_takeComponent_60 : decode cX5_takeComponent 60 = .ok (.dup, 1) := by decide +kernel
theorem dX5_takeComponent_61 : decode cX5_takeComponent 61 = .ok (.getfield 20, 3) := by decide +kernel
theorem dX5_takeComponent_64 : decode cX5_takeComponent 64 = .ok (.iconst 1, 1) := by decide +kernel
theorem dX5_takeComponent_65 : decode cX5_takeComponent 65 = .ok (.iadd, 1) := by decide +kernel
theorem dX5_takeComponent_66 : decode cX5_takeComponent 66 = .ok (.putfield 20, 3) := by decide +kernel
theorem dX5_takeComponent_69 : decode cX5_takeComponent 69 = .ok (.aload_n 0, 1) := by decide +kernel
theorem dX5_takeComponent_70 : decode cX5_takeComponent 70 = .ok (.getfield 14, 3) := by decide +kernel
theorem dX5_takeComponent_73 : decode cX5_takeComponent 73 = .ok (.aload_n 0, 1) := by decide +kernel
theorem dX5_takeComponent_74 : decode cX5_takeComponent 74 = .ok (.getfield 20, 3) := by decide +kernel
theorem dX5_takeComponent_77 : decode cX5_takeComponent 77 = .ok (.invokevirtual 60, 3) := by decide +kernel
theorem dX5_takeComponent_80 : decode cX5_takeComponent 80 = .ok (.istore_n 2, 1) := by decide +kernel
theorem dX5_takeComponent_81 : decode cX5_takeComponent 81 = .ok (.iload_n 2, 1) := by decide +kernel
theorem dX5_takeComponent_82 : decode cX5_takeComponent 82 = .ok (.iconst (-1), 1) := by decide +kernel
theorem dX5_takeComponent_83 : decode cX5_takeComponent 83 = .ok (.if_icmp .ne 4, 3) := by decide +kernel
theorem dX5_takeComponent_86 : decode cX5_takeComponent 86 = .ok (.return_, 1) := by decide +kernel
theorem dX5_takeComponent_87 : decode cX5_takeComponent 87 = .ok (.aload_n 1, 1) := by decide +kernel
theorem dX5_takeComponent_88 : decode cX5_takeComponent 88 = .ok (.iload_n 2, 1) := by decide +kernel
theorem dX5_takeComponent_89 : decode cX5_takeComponent 89 = .ok (.invokevirtual 96, 3) := by decide +kernel
theorem dX5_takeComponent_92 : decode cX5_takeComponent 92 = .ok (.aload_n 0, 1) := by decide +kernel
theorem dX5_takeComponent_93 : decode cX5_takeComponent 93 = .ok (.dup, 1) := by decide +kernel
theorem dX5_takeComponent_94 : decode cX5_takeComponent 94 = .ok (.getfield 20, 3) := by decide +kernel
theorem dX5_takeComponent_97 : decode cX5_takeComponent 97 = .ok (.iconst 1, 1) := by decide +kernel
theorem dX5_takeComponent_98 : decode cX5_takeComponent 98 = .ok (.iadd, 1) := by decide +kernel
theorem dX5_takeComponent_99 : decode cX5_takeComponent 99 = .ok (.putfield 20, 3) := by decide +kernel
theorem dX5_takeComponent_102 : decode cX5_takeComponent 102 = .ok (.goto (-102), 3) := by decide +kernel
theorem dX5_takeComponent_105 : decode cX5_takeComponent 105 = .ok (.return_, 1) := by decide +kernel
theorem dX6_init_0 : decode cX6_init 0 = .ok (.aload_n 0, 1) := by decide +kernel
theorem dX6_init_1 : decode cX6_init 1 = .ok (.invokespecial 3, 3) := by decide +kernel
theorem dX6_init_4 : decode cX6_init 4 = .ok (.aload_n 0, 1) := by decide +kernel
theorem dX6_init_5 : decode cX6_init 5 = .ok (.new 9, 3) := by decide +kernel
theorem dX6_init_8 : decode cX6_init 8 = .ok (.dup, 1) := by decide +kernel
theorem dX6_init_9 : decode cX6_init 9 = .ok (.invokespecial 11, 3) := by decide +kernel
theorem dX6_init_12 : decode cX6_init 12 = .ok (.putfield 12, 3) := by decide +kernel
theorem dX6_init_15 : decode cX6_init 15 = .ok (.aload_n 0, 1) := by decide +kernel
theorem dX6_init_16 : decode cX6_init 16 = .ok (.iconst 4, 1) := by decide +kernel
theorem dX6_init_17 : decode cX6_init 17 = .ok (.anewarray 16, 3) := by decide +kernel
theorem dX6_init_20 : decode cX6_init 20 = .ok (.putfield 18, 3) := by decide +kernel
theorem dX6_init_23 : decode cX6_init 23 = .ok (.aload_n 0, 1) := by decide +kernel
theorem dX6_init_24 : decode cX6_init 24 = .ok (.new 22, 3) := by decide +kernel
theorem dX6_init_27 : decode cX6_init 27 = .ok (.dup, 1) := by decide +kernel
theorem dX6_init_28 : decode cX6_init 28 = .ok (.sipush 800, 3) := by decide +kernel
theorem dX6_init_31 : decode cX6_init 31 = .ok (.invokespecial 24, 3) := by decide +kernel
theorem dX6_init_34 : decode cX6_init 34 = .ok (.putfield 27, 3) := by decide +kernel
theorem dX6_init_37 : decode cX6_init 37 = .ok (.aload_n 0, 1) := by decide +kernel
theorem dX6_init_38 : decode cX6_init 38 = .ok (.new 22, 3) := by decide +kernel
theorem dX6_init_41 : decode cX6_init 41 = .ok (.dup, 1) := by decide +kernel
theorem dX6_init_42 : decode cX6_init 42 = .ok (.sipush 1060, 3) := by decide +kernel
theorem dX6_init_45 : decode cX6_init 45 = .ok (.invokespecial 24, 3) := by decide +kernel
theorem dX6_init_48 : decode cX6_init 48 = .ok (.putfield 31, 3) := by decide +kernel
theorem dX6_init_51 : decode cX6_init 51 = .ok (.aload_n 0, 1) := by decide +kernel
theorem dX6_init_52 : decode cX6_init 52 = .ok (.new 34, 3) := by decide +kernel
theorem dX6_init_55 : decode cX6_init 55 = .ok (.dup, 1) := by decide +kernel
theorem dX6_init_56 : decode cX6_init 56 = .ok (.invokespecial 36, 3) := by decide +kernel
theorem dX6_init_59 : decode cX6_init 59 = .ok (.putfield 37, 3) := by decide +kernel
theorem dX6_init_62 : decode cX6_init 62 = .ok (.aload_n 0, 1) := by decide +kernel
theorem dX6_init_63 : decode cX6_init 63 = .ok (.new 34, 3) := by decide +kernel
theorem dX6_init_66 : decode cX6_init 66 = .ok (.dup, 1) := by decide +kernel
theorem dX6_init_67 : decode cX6_init 67 = .ok (.invokespecial 36, 3) := by decide +kernel
theorem dX6_init_70 : decode cX6_init 70 = .ok (.putfield 41, 3) := by decide +kernel
theorem dX6_init_73 : decode cX6_init 73 = .ok (.aload_n 0, 1) := by decide +kernel
theorem dX6_init_74 : decode cX6_init 74 = .ok (.iconst 0, 1) := by decide +kernel
theorem dX6_init_75 : decode cX6_init 75 = .ok (.putfield 44, 3) := by decide +kernel
theorem dX6_init_78 : decode cX6_init 78 = .ok (.aload_n 0, 1) := by decide +kernel
theorem dX6_init_79 : decode cX6_init 79 = .ok (.iconst (-1), 1) := by decide +kernel
theorem dX6_init_80 : decode cX6_init 80 = .ok (.putfield 48, 3) := by decide +kernel
theorem dX6_init_83 : decode cX6_init 83 = .ok (.iconst 0, 1) := by decide +kernel
theorem dX6_init_84 : decode cX6_init 84 = .ok (.istore_n 1, 1) := by decide +kernel
theorem dX6_init_85 : decode cX6_init 85 = .ok (.iload_n 1, 1) := by decide +kernel
theorem dX6_init_86 : decode cX6_init 86 = .ok (.aload_n 0, 1) := by decide +kernel
theorem dX6_init_87 : decode cX6_init 87 = .ok (.getfield 18, 3) := by decide +kernel
theorem dX6_init_90 : decode cX6_init 90 = .ok (.arraylength, 1) := by decide +kernel
theorem dX6_init_91 : decode cX6_init 91 = .ok (.if_icmp .ge 22, 3) := by decide +kernel
theorem dX6_init_94 : decode cX6_init 94 = .ok (.aload_n 0, 1) := by decide +kernel
theorem dX6_init_95 : decode cX6_init 95 = .ok (.getfield 18, 3) := by decide +kernel
theorem dX6_init_98 : decode cX6_init 98 = .ok (.iload_n 1, 1) := by decide +kernel
theorem dX6_init_99 : decode cX6_init 99 = .ok (.new 16, 3) := by decide +kernel
theorem dX6_init_102 : decode cX6_init 102 = .ok (.dup, 1) := by decide +kernel
theorem dX6_init_103 : decode cX6_init 103 = .ok (.invokespecial 52, 3) := by decide +kernel
theorem dX6_init_106 : decode cX6_init 106 = .ok (.aastore, 1) := by decide +kernel
theorem dX6_init_107 : decode cX6_init 107 = .ok (.iinc 1 1, 3) := by decide +kernel
theorem dX6_init_110 : decode cX6_init 110 = .ok (.goto (-25), 3) := by decide +kernel
theorem dX6_init_113 : decode cX6_init 113 = .ok (.return_, 1) := by decide +kernel
theorem dX6_type_0 : decode cX6_type 0 = .ok (.iconst 0, 1) := by decide +kernel
theorem dX6_type_1 : decode cX6_type 1 = .ok (.istore_n 3, 1) := by decide +kernel
theorem dX6_type_2 : decode cX6_type 2 = .ok (.bipush 56, 2) := by decide +kernel
theorem dX6_type_4 : decode cX6_type 4 = .ok (.istore 4, 2) := by decide +kernel
theorem dX6_type_6 : decode cX6_type 6 = .ok (.iload 4, 2) := by decide +kernel
theorem dX6_type_8 : decode cX6_type 8 = .ok (.ifCond .lt 41, 3) := by decide +kernel
theorem dX6_type_11 : decode cX6_type 11 = .ok (.lload_n 1, 1) := by decide +kernel
theorem dX6_type_12 : decode cX6_type 12 = .ok (.iload 4, 2) := by decide +kernel
theorem dX6_type_14 : decode cX6_type 14 = .ok (.invokestatic 53, 3) := by decide +kernel
theorem dX6_type_17 : decode cX6_type 17 = .ok (.istore 5, 2) := by decide +kernel
theorem dX6_type_19 : decode cX6_type 19 = .ok (.iload 5, 2) := by decide +kernel
theorem dX6_type_21 : decode cX6_type 21 = .ok (.ifCond .eq 22, 3) := by decide +kernel
theorem dX6_type_24 : decode cX6_type 24 = .ok (.iload 5, 2) := by decide +kernel
theorem dX6_type_26 : decode cX6_type 26 = .ok (.bipush 32, 2) := by decide +kernel
theorem dX6_type_28 : decode cX6_type 28 = .ok (.if_icmp .lt 10, 3) := by decide +kernel
theorem dX6_type_31 : decode cX6_type 31 = .ok (.iload 5, 2) := by decide +kernel
theorem dX6_type_33 : decode cX6_type 33 = .ok (.bipush 126, 2) := by decide +kernel
theorem dX6_type_35 : decode cX6_type 35 = .ok (.if_icmp .le 5, 3) := by decide +kernel
theorem dX6_type_38 : decode cX6_type 38 = .ok (.iconst 0, 1) := by decide +kernel
theorem dX6_type_39 : decode cX6_type 39 = .ok (.ireturn, 1) := by decide +kernel
theorem dX6_type_40 : decode cX6_type 40 = .ok (.iinc 3 1, 3) := by decide +kernel
theorem dX6_type_43 : decode cX6_type 43 = .ok (.iinc 4 (-8), 3) := by decide +kernel
theorem dX6_type_46 : decode cX6_type 46 = .ok (.goto (-40), 3) := by decide +kernel
theorem dX6_type_49 : decode cX6_type 49 = .ok (.aload_n 0, 1) := by decide +kernel
theorem dX6_type_50 : decode cX6_type 50 = .ok (.getfield 12, 3) := by decide +kernel
theorem dX6_type_53 : decode cX6_type 53 = .ok (.invokevirtual 57, 3) := by decide +kernel
theorem dX6_type_56 : decode cX6_type 56 = .ok (.iload_n 3, 1) := by decide +kernel
theorem dX6_type_57 : decode cX6_type 57 = .ok (.iadd, 1) := by decide +kernel
theorem dX6_type_58 : decode cX6_type 58 = .ok (.sipush 400, 3) := by decide +kernel
theorem dX6_type_61 : decode cX6_type 61 = .ok (.if_icmp .le 5, 3) := by decide +kernel
theorem dX6_type_64 : decode cX6_type 64 = .ok (.iconst 0, 1) := by decide +kernel
theorem dX6_type_65 : decode cX6_type 65 = .ok (.ireturn, 1) := by decide +kernel
theorem dX6_type_66 : decode cX6_type 66 = .ok (.bipush 56, 2) := by decide +kernel
theorem dX6_type_68 : decode cX6_type 68 = .ok (.istore 4, 2) := by decide +kernel
theorem dX6_type_70 : decode cX6_type 70 = .ok (.iload 4, 2) := by decide +kernel
theorem dX6_type_72 : decode cX6_type 72 = .ok (.ifCond .lt 31, 3) := by decide +kernel
theorem dX6_type_75 : decode cX6_type 75 = .ok (.lload_n 1, 1) := by decide +kernel
theorem dX6_type_76 : decode cX6_type 76 = .ok (.iload 4, 2) := by decide +kernel
theorem dX6_type_78 : decode cX6_type 78 = .ok (.invokestatic 53, 3) := by decide +kernel
theorem dX6_type_81 : decode cX6_type 81 = .ok (.istore 5, 2) := by decide +kernel
theorem dX6_type_83 : decode cX6_type 83 = .ok (.iload 5, 2) := by decide +kernel
theorem dX6_type_85 : decode cX6_type 85 = .ok (.ifCond .eq 12, 3) := by decide +kernel
theorem dX6_type_88 : decode cX6_type 88 = .ok (.aload_n 0, 1) := by decide +kernel
theorem dX6_type_89 : decode cX6_type 89 = .ok (.getfield 12, 3) := by decide +kernel
theorem dX6_type_92 : decode cX6_type 92 = .ok (.iload 5, 2) := by decide +kernel
theorem dX6_type_94 : decode cX6_type 94 = .ok (.invokevirtual 61, 3) := by decide +kernel
theorem dX6_type_97 : decode cX6_type 97 = .ok (.iinc 4 (-8), 3) := by decide +kernel
theorem dX6_type_100 : decode cX6_type 100 = .ok (.goto (-30), 3) := by decide +kernel
theorem dX6_type_103 : decode cX6_type 103 = .ok (.iconst 1, 1) := by decide +kernel
theorem dX6_type_104 : decode cX6_type 104 = .ok (.ireturn, 1) := by decide +kernel
theorem dX6_wipe_0 : decode cX6_wipe 0 = .ok (.aload_n 0, 1) := by decide +kernel
theorem dX6_wipe_1 : decode cX6_wipe 1 = .ok (.getfield 12, 3) := by decide +kernel
theorem dX6_wipe_4 : decode cX6_wipe 4 = .ok (.invokevirtual 64, 3) := by decide +kernel
theorem dX6_wipe_7 : decode cX6_wipe 7 = .ok (.return_, 1) := by decide +kernel
theorem dX6_length_0 : decode cX6_length 0 = .ok (.aload_n 0, 1) := by decide +kernel
theorem dX6_length_1 : decode cX6_length 1 = .ok (.getfield 12, 3) := by decide +kernel
theorem dX6_length_4 : decode cX6_length 4 = .ok (.invokevirtual 57, 3) := by decide +kernel
theorem dX6_length_7 : decode cX6_length 7 = .ok (.ireturn, 1) := by decide +kernel
theorem dX6_slot_0 : decode cX6_slot 0 = .ok (.aload_n 0, 1) := by decide +kernel
theorem dX6_slot_1 : decode cX6_slot 1 = .ok (.iload_n 1, 1) := by decide +kernel
theorem dX6_slot_2 : decode cX6_slot 2 = .ok (.invokevirtual 67, 3) := by decide +kernel
theorem dX6_slot_5 : decode cX6_slot 5 = .ok (.astore 5, 2) := by decide +kernel
theorem dX6_slot_7 : decode cX6_slot 7 = .ok (.aload 5, 2) := by decide +kernel
theorem dX6_slot_9 : decode cX6_slot 9 = .ok (.ifnull 25, 3) := by decide +kernel
theorem dX6_slot_12 : decode cX6_slot 12 = .ok (.iload_n 2, 1) := by decide +kernel
theorem dX6_slot_13 : decode cX6_slot 13 = .ok (.invokestatic 71, 3) := by decide +kernel
theorem dX6_slot_16 : decode cX6_slot 16 = .ok (.ifCond .eq 18, 3) := by decide +kernel
theorem dX6_slot_19 : decode cX6_slot 19 = .ok (.iload_n 2, 1) := by decide +kernel
theorem dX6_slot_20 : decode cX6_slot 20 = .ok (.invokestatic 75, 3) := by decide +kernel
theorem dX6_slot_23 : decode cX6_slot 23 = .ok (.ifCond .ne 11, 3) := by decide +kernel
theorem dX6_slot_26 : decode cX6_slot 26 = .ok (.iload 4, 2) := by decide +kernel
theorem dX6_slot_28 : decode cX6_slot 28 = .ok (.invokestatic 78, 3) := by decide +kernel
theorem dX6_slot_31 : decode cX6_slot 31 = .ok (.ifCond .ne 13, 3) := by decide +kernel
theorem dX6_slot_34 : decode cX6_slot 34 = .ok (.new 81, 3) := by decide +kernel
theorem dX6_slot_37 : decode cX6_slot 37 = .ok (.dup, 1) := by decide +kernel
theorem dX6_slot_38 : decode cX6_slot 38 = .ok (.ldc 83, 2) := by decide +kernel
theorem dX6_slot_40 : decode cX6_slot 40 = .ok (.invokespecial 85, 3) := by decide +kernel
theorem dX6_slot_43 : decode cX6_slot 43 = .ok (.athrow, 1) := by decide +kernel
theorem dX6_slot_44 : decode cX6_slot 44 = .ok (.aload 5, 2) := by decide +kernel
theorem dX6_slot_46 : decode cX6_slot 46 = .ok (.invokevirtual 88, 3) := by decide +kernel
theorem dX6_slot_49 : decode cX6_slot 49 = .ok (.ifCond .ne 21, 3) := by decide +kernel
theorem dX6_slot_52 : decode cX6_slot 52 = .ok (.aload 5, 2) := by decide +kernel
theorem dX6_slot_54 : decode cX6_slot 54 = .ok (.invokevirtual 92, 3) := by decide +kernel
theorem dX6_slot_57 : decode cX6_slot 57 = .ok (.ifCond .eq 23, 3) := by decide +kernel
theorem dX6_slot_60 : decode cX6_slot 60 = .ok (.iload_n 3, 1) := by decide +kernel
theorem dX6_slot_61 : decode cX6_slot 61 = .ok (.ifCond .eq 9, 3) := by decide +kernel
theorem dX6_slot_64 : decode cX6_slot 64 = .ok (.iload 4, 2) := by decide +kernel
theorem dX6_slot_66 : decode cX6_slot 66 = .ok (.iconst 1, 1) := by decide +kernel
theorem dX6_slot_67 : decode cX6_slot 67 = .ok (.if_icmp .eq 13, 3) := by decide +kernel
theorem dX6_slot_70 : decode cX6_slot 70 = .ok (.new 95, 3) := by decide +kernel
theorem dX6_slot_73 : decode cX6_slot 73 = .ok (.dup, 1) := by decide +kernel
theorem dX6_slot_74 : decode cX6_slot 74 = .ok (.ldc 97, 2) := by decide +kernel
theorem dX6_slot_76 : decode cX6_slot 76 = .ok (.invokespecial 99, 3) := by decide +kernel
theorem dX6_slot_79 : decode cX6_slot 79 = .ok (.athrow, 1) := by decide +kernel
theorem dX6_slot_80 : decode cX6_slot 80 = .ok (.aload 5, 2) := by decide +kernel
theorem dX6_slot_82 : decode cX6_slot 82 = .ok (.iload_n 2, 1) := by decide +kernel
theorem dX6_slot_83 : decode cX6_slot 83 = .ok (.iload_n 3, 1) := by decide +kernel
theorem dX6_slot_84 : decode cX6_slot 84 = .ok (.iload 4, 2) := by decide +kernel
theorem dX6_slot_86 : decode cX6_slot 86 = .ok (.invokevirtual 100, 3) := by decide +kernel
theorem dX6_slot_89 : decode cX6_slot 89 = .ok (.ireturn, 1) := by decide +kernel
theorem dX6_open_0 : decode cX6_open 0 = .ok (.aload_n 0, 1) := by decide +kernel
theorem dX6_open_1 : decode cX6_open 1 = .ok (.iload_n 1, 1) := by decide +kernel
theorem dX6_open_2 : decode cX6_open 2 = .ok (.invokevirtual 67, 3) := by decide +kernel
theorem dX6_open_5 : decode cX6_open 5 = .ok (.astore 4, 2) := by decide +kernel
theorem dX6_open_7 : decode cX6_open 7 = .ok (.aload 4, 2) := by decide +kernel
theorem dX6_open_9 : decode cX6_open 9 = .ok (.ifnull 10, 3) := by decide +kernel
theorem dX6_open_12 : decode cX6_open 12 = .ok (.iload_n 3, 1) := by decide +kernel
theorem dX6_open_13 : decode cX6_open 13 = .ok (.invokestatic 78, 3) := by decide +kernel
theorem dX6_open_16 : decode cX6_open 16 = .ok (.ifCond .ne 13, 3) := by decide +kernel
theorem dX6_open_19 : decode cX6_open 19 = .ok (.new 81, 3) := by decide +kernel
theorem dX6_open_22 : decode cX6_open 22 = .ok (.dup, 1) := by decide +kernel
theorem dX6_open_23 : decode cX6_open 23 = .ok (.ldc 104, 2) := by decide +kernel
theorem dX6_open_25 : decode cX6_open 25 = .ok (.invokespecial 85, 3) := by decide +kernel
theorem dX6_open_28 : decode cX6_open 28 = .ok (.athrow, 1) := by decide +kernel
theorem dX6_open_29 : decode cX6_open 29 = .ok (.aload 4, 2) := by decide +kernel
theorem dX6_open_31 : decode cX6_open 31 = .ok (.invokevirtual 88, 3) := by decide +kernel
theorem dX6_open_34 : decode cX6_open 34 = .ok (.ifCond .ne 19, 3) := by decide +kernel
theorem dX6_open_37 : decode cX6_open 37 = .ok (.aload 4, 2) := by decide +kernel
theorem dX6_open_39 : decode cX6_open 39 = .ok (.invokevirtual 106, 3) := by decide +kernel
theorem dX6_open_42 : decode cX6_open 42 = .ok (.ifCond .ne 11, 3) := by decide +kernel
theorem dX6_open_45 : decode cX6_open 45 = .ok (.aload 4, 2) := by decide +kernel
theorem dX6_open_47 : decode cX6_open 47 = .ok (.invokevirtual 92, 3) := by decide +kernel
theorem dX6_open_50 : decode cX6_open 50 = .ok (.ifCond .eq 13, 3) := by decide +kernel
theorem dX6_open_53 : decode cX6_open 53 = .ok (.new 95, 3) := by decide +kernel
theorem dX6_open_56 : decode cX6_open 56 = .ok (.dup, 1) := by decide +kernel
theorem dX6_open_57 : decode cX6_open 57 = .ok (.ldc 109, 2) := by decide +kernel
theorem dX6_open_59 : decode cX6_open 59 = .ok (.invokespecial 99, 3) := by decide +kernel
theorem dX6_open_62 : decode cX6_open 62 = .ok (.athrow, 1) := by decide +kernel
theorem dX6_open_63 : decode cX6_open 63 = .ok (.aload 4, 2) := by decide +kernel
theorem dX6_open_65 : decode cX6_open 65 = .ok (.iload_n 2, 1) := by decide +kernel
theorem dX6_open_66 : decode cX6_open 66 = .ok (.iload_n 3, 1) := by decide +kernel
theorem dX6_open_67 : decode cX6_open 67 = .ok (.invokevirtual 111, 3) := by decide +kernel
theorem dX6_open_70 : decode cX6_open 70 = .ok (.ireturn, 1) := by decide +kernel
theorem dX6_close_0 : decode cX6_close 0 = .ok (.aload_n 0, 1) := by decide +kernel
theorem dX6_close_1 : decode cX6_close 1 = .ok (.iload_n 1, 1) := by decide +kernel
theorem dX6_close_2 : decode cX6_close 2 = .ok (.invokevirtual 67, 3) := by decide +kernel
theorem dX6_close_5 : decode cX6_close 5 = .ok (.astore_n 2, 1) := by decide +kernel
theorem dX6_close_6 : decode cX6_close 6 = .ok (.aload_n 2, 1) := by decide +kernel
theorem dX6_close_7 : decode cX6_close 7 = .ok (.ifnonnull 13, 3) := by decide +kernel
theorem dX6_close_10 : decode cX6_close 10 = .ok (.new 81, 3) := by decide +kernel
theorem dX6_close_13 : decode cX6_close 13 = .ok (.dup, 1) := by decide +kernel
theorem dX6_close_14 : decode cX6_close 14 = .ok (.ldc 115, 2) := by decide +kernel
theorem dX6_close_16 : decode cX6_close 16 = .ok (.invokespecial 85, 3) := by decide +kernel
theorem dX6_close_19 : decode cX6_close 19 = .ok (.athrow, 1) := by decide +kernel
theorem dX6_close_20 : decode cX6_close 20 = .ok (.aload_n 2, 1) := by decide +kernel
theorem dX6_close_21 : decode cX6_close 21 = .ok (.invokevirtual 117, 3) := by decide +kernel
theorem dX6_close_24 : decode cX6_close 24 = .ok (.ireturn, 1) := by decide +kernel
theorem dX6_clear_0 : decode cX6_clear 0 = .ok (.aload_n 0, 1) := by decide +kernel
theorem dX6_clear_1 : decode cX6_clear 1 = .ok (.iload_n 1, 1) := by decide +kernel
theorem dX6_clear_2 : decode cX6_clear 2 = .ok (.invokevirtual 67, 3) := by decide +kernel
theorem dX6_clear_5 : decode cX6_clear 5 = .ok (.astore_n 2, 1) := by decide +kernel
theorem dX6_clear_6 : decode cX6_clear 6 = .ok (.aload_n 2, 1) := by decide +kernel
theorem dX6_clear_7 : decode cX6_clear 7 = .ok (.ifnonnull 13, 3) := by decide +kernel
theorem dX6_clear_10 : decode cX6_clear 10 = .ok (.new 81, 3) := by decide +kernel
theorem dX6_clear_13 : decode cX6_clear 13 = .ok (.dup, 1) := by decide +kernel
theorem dX6_clear_14 : decode cX6_clear 14 = .ok (.ldc 115, 2) := by decide +kernel
theorem dX6_clear_16 : decode cX6_clear 16 = .ok (.invokespecial 85, 3) := by decide +kernel
theorem dX6_clear_19 : decode cX6_clear 19 = .ok (.athrow, 1) := by decide +kernel
theorem dX6_clear_20 : decode cX6_clear 20 = .ok (.aload_n 2, 1) := by decide +kernel
theorem dX6_clear_21 : decode cX6_clear 21 = .ok (.invokevirtual 120, 3) := by decide +kernel
theorem dX6_clear_24 : decode cX6_clear 24 = .ok (.ifCond .eq 5, 3) := by decide +kernel
theorem dX6_clear_27 : decode cX6_clear 27 = .ok (.iconst 0, 1) := by decide +kernel
theorem dX6_clear_28 : decode cX6_clear 28 = .ok (.ireturn, 1) := by decide +kernel
theorem dX6_clear_29 : decode cX6_clear 29 = .ok (.aload_n 2, 1) := by decide +kernel
theorem dX6_clear_30 : decode cX6_clear 30 = .ok (.invokevirtual 123, 3) := by decide +kernel
theorem dX6_clear_33 : decode cX6_clear 33 = .ok (.iconst 1, 1) := by decide +kernel
theorem dX6_clear_34 : decode cX6_clear 34 = .ok (.ireturn, 1) := by decide +kernel
theorem dX6_read_0 : decode cX6_read 0 = .ok (.aload_n 0, 1) := by decide +kernel
theorem dX6_read_1 : decode cX6_read 1 = .ok (.aload_n 0, 1) := by decide +kernel
theorem dX6_read_2 : decode cX6_read 2 = .ok (.getfield 12, 3) := by decide +kernel
theorem dX6_read_5 : decode cX6_read 5 = .ok (.aload_n 0, 1) := by decide +kernel
theorem dX6_read_6 : decode cX6_read 6 = .ok (.getfield 41, 3) := by decide +kernel
theorem dX6_read_9 : decode cX6_read 9 = .ok (.getfield 124, 3) := by decide +kernel
theorem dX6_read_12 : decode cX6_read 12 = .ok (.invokevirtual 128, 3) := by decide +kernel
theorem dX6_read_15 : decode cX6_read 15 = .ok (.putfield 48, 3) := by decide +kernel
theorem dX6_read_18 : decode cX6_read 18 = .ok (.aload_n 0, 1) := by decide +kernel
theorem dX6_read_19 : decode cX6_read 19 = .ok (.getfield 48, 3) := by decide +kernel
theorem dX6_read_22 : decode cX6_read 22 = .ok (.iconst (-1), 1) := by decide +kernel
theorem dX6_read_23 : decode cX6_read 23 = .ok (.if_icmp .eq 13, 3) := by decide +kernel
theorem dX6_read_26 : decode cX6_read 26 = .ok (.new 81, 3) := by decide +kernel
theorem dX6_read_29 : decode cX6_read 29 = .ok (.dup, 1) := by decide +kernel
theorem dX6_read_30 : decode cX6_read 30 = .ok (.ldc 132, 2) := by decide +kernel
theorem dX6_read_32 : decode cX6_read 32 = .ok (.invokespecial 85, 3) := by decide +kernel
theorem dX6_read_35 : decode cX6_read 35 = .ok (.athrow, 1) := by decide +kernel
theorem dX6_read_36 : decode cX6_read 36 = .ok (.aload_n 0, 1) := by decide +kernel
theorem dX6_read_37 : decode cX6_read 37 = .ok (.getfield 41, 3) := by decide +kernel
theorem dX6_read_40 : decode cX6_read 40 = .ok (.invokevirtual 134, 3) := by decide +kernel
theorem dX6_read_43 : decode cX6_read 43 = .ok (.ifCond .ne 13, 3) := by decide +kernel
theorem dX6_read_46 : decode cX6_read 46 = .ok (.new 137, 3) := by decide +kernel
theorem dX6_read_49 : decode cX6_read 49 = .ok (.dup, 1) := by decide +kernel
theorem dX6_read_50 : decode cX6_read 50 = .ok (.ldc 139, 2) := by decide +kernel
theorem dX6_read_52 : decode cX6_read 52 = .ok (.invokespecial 141, 3) := by decide +kernel
theorem dX6_read_55 : decode cX6_read 55 = .ok (.athrow, 1) := by decide +kernel
theorem dX6_read_56 : decode cX6_read 56 = .ok (.aload_n 0, 1) := by decide +kernel
theorem dX6_read_57 : decode cX6_read 57 = .ok (.getfield 41, 3) := by decide +kernel
theorem dX6_read_60 : decode cX6_read 60 = .ok (.invokevirtual 142, 3) := by decide +kernel
theorem dX6_read_63 : decode cX6_read 63 = .ok (.iconst 0, 1) := by decide +kernel
theorem dX6_read_64 : decode cX6_read 64 = .ok (.istore_n 1, 1) := by decide +kernel
theorem dX6_read_65 : decode cX6_read 65 = .ok (.iload_n 1, 1) := by decide +kernel
theorem dX6_read_66 : decode cX6_read 66 = .ok (.aload_n 0, 1) := by decide +kernel
theorem dX6_read_67 : decode cX6_read 67 = .ok (.getfield 41, 3) := by decide +kernel
theorem dX6_read_70 : decode cX6_read 70 = .ok (.invokevirtual 145, 3) := by decide +kernel
theorem dX6_read_73 : decode cX6_read 73 = .ok (.if_icmp .ge 29, 3) := by decide +kernel
theorem dX6_read_76 : decode cX6_read 76 = .ok (.aload_n 0, 1) := by decide +kernel
theorem dX6_read_77 : decode cX6_read 77 = .ok (.getfield 41, 3) := by decide +kernel
theorem dX6_read_80 : decode cX6_read 80 = .ok (.iload_n 1, 1) := by decide +kernel
theorem dX6_read_81 : decode cX6_read 81 = .ok (.aload_n 0, 1) := by decide +kernel
theorem dX6_read_82 : decode cX6_read 82 = .ok (.aload_n 0, 1) := by decide +kernel
theorem dX6_read_83 : decode cX6_read 83 = .ok (.getfield 41, 3) := by decide +kernel
theorem dX6_read_86 : decode cX6_read 86 = .ok (.iload_n 1, 1) := by decide +kernel
theorem dX6_read_87 : decode cX6_read 87 = .ok (.invokevirtual 148, 3) := by decide +kernel
theorem dX6_read_90 : decode cX6_read 90 = .ok (.invokevirtual 67, 3) := by decide +kernel
theorem dX6_read_93 : decode cX6_read 93 = .ok (.invokevirtual 152, 3) := by decide +kernel
theorem dX6_read_96 : decode cX6_read 96 = .ok (.iinc 1 1, 3) := by decide +kernel
theorem dX6_read_99 : decode cX6_read 99 = .ok (.goto (-34), 3) := by decide +kernel
theorem dX6_read_102 : decode cX6_read 102 = .ok (.aload_n 0, 1) := by decide +kernel
theorem dX6_read_103 : decode cX6_read 103 = .ok (.getfield 37, 3) := by decide +kernel
theorem dX6_read_106 : decode cX6_read 106 = .ok (.astore_n 1, 1) := by decide +kernel
theorem dX6_read_107 : decode cX6_read 107 = .ok (.aload_n 0, 1) := by decide +kernel
theorem dX6_read_108 : decode cX6_read 108 = .ok (.aload_n 0, 1) := by decide +kernel
theorem dX6_read_109 : decode cX6_read 109 = .ok (.getfield 41, 3) := by decide +kernel
theorem dX6_read_112 : decode cX6_read 112 = .ok (.putfield 37, 3) := by decide +kernel
theorem dX6_read_115 : decode cX6_read 115 = .ok (.aload_n 0, 1) := by decide +kernel
theorem dX6_read_116 : decode cX6_read 116 = .ok (.aload_n 1, 1) := by decide +kernel
theorem dX6_read_117 : decode cX6_read 117 = .ok (.putfield 41, 3) := by decide +kernel
theorem dX6_read_120 : decode cX6_read 120 = .ok (.aload_n 0, 1) := by decide +kernel
theorem dX6_read_121 : decode cX6_read 121 = .ok (.iconst 1, 1) := by decide +kernel
theorem dX6_read_122 : decode cX6_read 122 = .ok (.putfield 44, 3) := by decide +kernel
theorem dX6_read_125 : decode cX6_read 125 = .ok (.aload_n 0, 1) := by decide +kernel
theorem dX6_read_126 : decode cX6_read 126 = .ok (.getfield 12, 3) := by decide +kernel
theorem dX6_read_129 : decode cX6_read 129 = .ok (.invokevirtual 64, 3) := by decide +kernel
theorem dX6_read_132 : decode cX6_read 132 = .ok (.aload_n 0, 1) := by decide +kernel
theorem dX6_read_133 : decode cX6_read 133 = .ok (.getfield 27, 3) := by decide +kernel
theorem dX6_read_136 : decode cX6_read 136 = .ok (.aload_n 0, 1) := by decide +kernel
theorem dX6_read_137 : decode cX6_read 137 = .ok (.getfield 37, 3) := by decide +kernel
theorem dX6_read_140 : decode cX6_read 140 = .ok (.getfield 124, 3) := by decide +kernel
theorem dX6_read_143 : decode cX6_read 143 = .ok (.invokevirtual 156, 3) := by decide +kernel
theorem dX6_read_146 : decode cX6_read 146 = .ok (.aload_n 0, 1) := by decide +kernel
theorem dX6_read_147 : decode cX6_read 147 = .ok (.getfield 31, 3) := by decide +kernel
theorem dX6_read_150 : decode cX6_read 150 = .ok (.aload_n 0, 1) := by decide +kernel
theorem dX6_read_151 : decode cX6_read 151 = .ok (.getfield 37, 3) := by decide +kernel
theorem dX6_read_154 : decode cX6_read 154 = .ok (.invokevirtual 160, 3) := by decide +kernel
theorem dX6_read_157 : decode cX6_read 157 = .ok (.aload_n 0, 1) := by decide +kernel
theorem dX6_read_158 : decode cX6_read 158 = .ok (.getfield 37, 3) := by decide +kernel
theorem dX6_read_161 : decode cX6_read 161 = .ok (.invokevirtual 145, 3) := by decide +kernel
theorem dX6_read_164 : decode cX6_read 164 = .ok (.ireturn, 1) := by decide +kernel
theorem dX6_fault_0 : decode cX6_fault 0 = .ok (.aload_n 0, 1) := by decide +kernel
theorem dX6_fault_1 : decode cX6_fault 1 = .ok (.getfield 48, 3) := by decide +kernel
theorem dX6_fault_4 : decode cX6_fault 4 = .ok (.ireturn, 1) := by decide +kernel
theorem dX6_interchange_0 : decode cX6_interchange 0 = .ok (.aload_n 0, 1) := by decide +kernel
theorem dX6_interchange_1 : decode cX6_interchange 1 = .ok (.invokevirtual 164, 3) := by decide +kernel
theorem dX6_interchange_4 : decode cX6_interchange 4 = .ok (.iload_n 1, 1) := by decide +kernel
theorem dX6_interchange_5 : decode cX6_interchange 5 = .ok (.tableswitch 66 0 3 #[31, 42, 50, 58], 31) := by decide +kernel
theorem dX6_interchange_36 : decode cX6_interchange 36 = .ok (.aload_n 0, 1) := by decide +kernel
theorem dX6_interchange_37 : decode cX6_interchange 37 = .ok (.getfield 37, 3) := by decide +kernel
theorem dX6_interchange_40 : decode cX6_interchange 40 = .ok (.getfield 124, 3) := by decide +kernel
theorem dX6_interchange_43 : decode cX6_interchange 43 = .ok (.invokevirtual 167, 3) := by decide +kernel
theorem dX6_interchange_46 : decode cX6_interchange 46 = .ok (.ireturn, 1) := by decide +kernel
theorem dX6_interchange_47 : decode cX6_interchange 47 = .ok (.aload_n 0, 1) := by decide +kernel
theorem dX6_interchange_48 : decode cX6_interchange 48 = .ok (.getfield 37, 3) := by decide +kernel
theorem dX6_interchange_51 : decode cX6_interchange 51 = .ok (.invokevirtual 145, 3) := by decide +kernel
theorem dX6_interchange_54 : decode cX6_interchange 54 = .ok (.ireturn, 1) := by decide +kernel
theorem dX6_interchange_55 : decode cX6_interchange 55 = .ok (.aload_n 0, 1) := by decide +kernel
theorem dX6_interchange_56 : decode cX6_interchange 56 = .ok (.getfield 37, 3) := by decide +kernel
theorem dX6_interchange_59 : decode cX6_interchange 59 = .ok (.invokevirtual 172, 3) := by decide +kernel
theorem dX6_interchange_62 : decode cX6_interchange 62 = .ok (.ireturn, 1) := by decide +kernel
theorem dX6_interchange_63 : decode cX6_interchange 63 = .ok (.aload_n 0, 1) := by decide +kernel
theorem dX6_interchange_64 : decode cX6_interchange 64 = .ok (.getfield 37, 3) := by decide +kernel
theorem dX6_interchange_67 : decode cX6_interchange 67 = .ok (.invokevirtual 175, 3) := by decide +kernel
theorem dX6_interchange_70 : decode cX6_interchange 70 = .ok (.ireturn, 1) := by decide +kernel
theorem dX6_interchange_71 : decode cX6_interchange 71 = .ok (.iconst (-1), 1) := by decide +kernel
theorem dX6_interchange_72 : decode cX6_interchange 72 = .ok (.ireturn, 1) := by decide +kernel
theorem dX6_message_0 : decode cX6_message 0 = .ok (.aload_n 0, 1) := by decide +kernel
theorem dX6_message_1 : decode cX6_message 1 = .ok (.invokevirtual 164, 3) := by decide +kernel
theorem dX6_message_4 : decode cX6_message 4 = .ok (.aload_n 0, 1) := by decide +kernel
theorem dX6_message_5 : decode cX6_message 5 = .ok (.getfield 37, 3) := by decide +kernel
theorem dX6_message_8 : decode cX6_message 8 = .ok (.iload_n 1, 1) := by decide +kernel
theorem dX6_message_9 : decode cX6_message 9 = .ok (.iload_n 2, 1) := by decide +kernel
theorem dX6_message_10 : decode cX6_message 10 = .ok (.invokevirtual 178, 3) := by decide +kernel
theorem dX6_message_13 : decode cX6_message 13 = .ok (.ireturn, 1) := by decide +kernel
theorem dX6_group_0 : decode cX6_group 0 = .ok (.aload_n 0, 1) := by decide +kernel
theorem dX6_group_1 : decode cX6_group 1 = .ok (.invokevirtual 164, 3) := by decide +kernel
theorem dX6_group_4 : decode cX6_group 4 = .ok (.aload_n 0, 1) := by decide +kernel
theorem dX6_group_5 : decode cX6_group 5 = .ok (.getfield 37, 3) := by decide +kernel
theorem dX6_group_8 : decode cX6_group 8 = .ok (.iload_n 1, 1) := by decide +kernel
theorem dX6_group_9 : decode cX6_group 9 = .ok (.invokevirtual 182, 3) := by decide +kernel
theorem dX6_group_12 : decode cX6_group 12 = .ok (.ireturn, 1) := by decide +kernel
theorem dX6_segment_0 : decode cX6_segment 0 = .ok (.aload_n 0, 1) := by decide +kernel
theorem dX6_segment_1 : decode cX6_segment 1 = .ok (.invokevirtual 164, 3) := by decide +kernel
theorem dX6_segment_4 : decode cX6_segment 4 = .ok (.aload_n 0, 1) := by decide +kernel
theorem dX6_segment_5 : decode cX6_segment 5 = .ok (.getfield 37, 3) := by decide +kernel
theorem dX6_segment_8 : decode cX6_segment 8 = .ok (.getfield 124, 3) := by decide +kernel
theorem dX6_segment_11 : decode cX6_segment 11 = .ok (.iload_n 1, 1) := by decide +kernel
theorem dX6_segment_12 : decode cX6_segment 12 = .ok (.iload_n 2, 1) := by decide +kernel
theorem dX6_segment_13 : decode cX6_segment 13 = .ok (.iload_n 3, 1) := by decide +kernel
theorem dX6_segment_14 : decode cX6_segment 14 = .ok (.iload 4, 2) := by decide +kernel
theorem dX6_segment_16 : decode cX6_segment 16 = .ok (.invokevirtual 185, 3) := by decide +kernel
theorem dX6_segment_19 : decode cX6_segment 19 = .ok (.ireturn, 1) := by decide +kernel
theorem dX6_print_0 : decode cX6_print 0 = .ok (.aload_n 0, 1) := by decide +kernel
theorem dX6_print_1 : decode cX6_print 1 = .ok (.invokevirtual 164, 3) := by decide +kernel
theorem dX6_print_4 : decode cX6_print 4 = .ok (.aload_n 0, 1) := by decide +kernel
theorem dX6_print_5 : decode cX6_print 5 = .ok (.getfield 27, 3) := by decide +kernel
theorem dX6_print_8 : decode cX6_print 8 = .ok (.iload_n 1, 1) := by decide +kernel
theorem dX6_print_9 : decode cX6_print 9 = .ok (.invokevirtual 189, 3) := by decide +kernel
theorem dX6_print_12 : decode cX6_print 12 = .ok (.ireturn, 1) := by decide +kernel
theorem dX6_report_0 : decode cX6_report 0 = .ok (.aload_n 0, 1) := by decide +kernel
theorem dX6_report_1 : decode cX6_report 1 = .ok (.invokevirtual 164, 3) := by decide +kernel
theorem dX6_report_4 : decode cX6_report 4 = .ok (.aload_n 0, 1) := by decide +kernel
theorem dX6_report_5 : decode cX6_report 5 = .ok (.getfield 31, 3) := by decide +kernel
theorem dX6_report_8 : decode cX6_report 8 = .ok (.iload_n 1, 1) := by decide +kernel
theorem dX6_report_9 : decode cX6_report 9 = .ok (.invokevirtual 189, 3) := by decide +kernel
theorem dX6_report_12 : decode cX6_report 12 = .ok (.ireturn, 1) := by decide +kernel
theorem dX6_needInterchange_0 : decode cX6_needInterchange 0 = .ok (.aload_n 0, 1) := by decide +kernel
theorem dX6_needInterchange_1 : decode cX6_needInterchange 1 = .ok (.getfield 44, 3) := by decide +kernel
theorem dX6_needInterchange_4 : decode cX6_needInterchange 4 = .ok (.ifCond .ne 13, 3) := by decide +kernel
theorem dX6_needInterchange_7 : decode cX6_needInterchange 7 = .ok (.new 95, 3) := by decide +kernel
theorem dX6_needInterchange_10 : decode cX6_needInterchange 10 = .ok (.dup, 1) := by decide +kernel
theorem dX6_needInterchange_11 : decode cX6_needInterchange 11 = .ok (.ldc 191, 2) := by decide +kernel
theorem dX6_needInterchange_13 : decode cX6_needInterchange 13 = .ok (.invokespecial 99, 3) := by decide +kernel
theorem dX6_needInterchange_16 : decode cX6_needInterchange 16 = .ok (.athrow, 1) := by decide +kernel
theorem dX6_needInterchange_17 : decode cX6_needInterchange 17 = .ok (.return_, 1) := by decide +kernel
theorem dX6_tableOf_0 : decode cX6_tableOf 0 = .ok (.iload_n 1, 1) := by decide +kernel
theorem dX6_tableOf_1 : decode cX6_tableOf 1 = .ok (.ifCond .lt 21, 3) := by decide +kernel
theorem dX6_tableOf_4 : decode cX6_tableOf 4 = .ok (.iload_n 1, 1) := by decide +kernel
theorem dX6_tableOf_5 : decode cX6_tableOf 5 = .ok (.aload_n 0, 1) := by decide +kernel
theorem dX6_tableOf_6 : decode cX6_tableOf 6 = .ok (.getfield 18, 3) := by decide +kernel
theorem dX6_tableOf_9 : decode cX6_tableOf 9 = .ok (.arraylength, 1) := by decide +kernel
theorem dX6_tableOf_10 : decode cX6_tableOf 10 = .ok (.if_icmp .ge 12, 3) := by decide +kernel
theorem dX6_tableOf_13 : decode cX6_tableOf 13 = .ok (.aload_n 0, 1) := by decide +kernel
theorem dX6_tableOf_14 : decode cX6_tableOf 14 = .ok (.getfield 18, 3) := by decide +kernel
theorem dX6_tableOf_17 : decode cX6_tableOf 17 = .ok (.iload_n 1, 1) := by decide +kernel
theorem dX6_tableOf_18 : decode cX6_tableOf 18 = .ok (.aaload, 1) := by decide +kernel
theorem dX6_tableOf_19 : decode cX6_tableOf 19 = .ok (.goto 4, 3) := by decide +kernel
theorem dX6_tableOf_22 : decode cX6_tableOf 22 = .ok (.aconst_null, 1) := by decide +kernel
theorem dX6_tableOf_23 : decode cX6_tableOf 23 = .ok (.areturn, 1) := by decide +kernel
theorem dX6_byteOf_0 : decode cX6_byteOf 0 = .ok (.lload_n 0, 1) := by decide +kernel
theorem dX6_byteOf_1 : decode cX6_byteOf 1 = .ok (.iload_n 2, 1) := by decide +kernel
theorem dX6_byteOf_2 : decode cX6_byteOf 2 = .ok (.lushr, 1) := by decide +kernel
theorem dX6_byteOf_3 : decode cX6_byteOf 3 = .ok (.l2i, 1) := by decide +kernel
theorem dX6_byteOf_4 : decode cX6_byteOf 4 = .ok (.sipush 255, 3) := by decide +kernel
theorem dX6_byteOf_7 : decode cX6_byteOf 7 = .ok (.iand, 1) := by decide +kernel
theorem dX6_byteOf_8 : decode cX6_byteOf 8 = .ok (.ireturn, 1) := by decide +kernel
theorem dX6_isMost_0 : decode cX6_isMost 0 = .ok (.iload_n 0, 1) := by decide +kernel
theorem dX6_isMost_1 : decode cX6_isMost 1 = .ok (.iconst 1, 1) := by decide +kernel
theorem dX6_isMost_2 : decode cX6_isMost 2 = .ok (.if_icmp .lt 13, 3) := by decide +kernel
theorem dX6_isMost_5 : decode cX6_isMost 5 = .ok (.iload_n 0, 1) := by decide +kernel
theorem dX6_isMost_6 : decode cX6_isMost 6 = .ok (.bipush 99, 2) := by decide +kernel
theorem dX6_isMost_8 : decode cX6_isMost 8 = .ok (.if_icmp .gt 7, 3) := by decide +kernel
theorem dX6_isMost_11 : decode cX6_isMost 11 = .ok (.iconst 1, 1) := by decide +kernel
theorem dX6_isMost_12 : decode cX6_isMost 12 = .ok (.goto 4, 3) := by decide +kernel
theorem dX6_isMost_15 : decode cX6_isMost 15 = .ok (.iconst 0, 1) := by decide +kernel
theorem dX6_isMost_16 : decode cX6_isMost 16 = .ok (.ireturn, 1) := by decide +kernel
theorem dX6_isTag_0 : decode cX6_isTag 0 = .ok (.iload_n 0, 1) := by decide +kernel
theorem dX6_isTag_1 : decode cX6_isTag 1 = .ok (.bipush 24, 2) := by decide +kernel
theorem dX6_isTag_3 : decode cX6_isTag 3 = .ok (.iushr, 1) := by decide +kernel
theorem dX6_isTag_4 : decode cX6_isTag 4 = .ok (.ifCond .ne 42, 3) := by decide +kernel
theorem dX6_isTag_7 : decode cX6_isTag 7 = .ok (.iload_n 0, 1) := by decide +kernel
theorem dX6_isTag_8 : decode cX6_isTag 8 = .ok (.bipush 16, 2) := by decide +kernel
theorem dX6_isTag_10 : decode cX6_isTag 10 = .ok (.iushr, 1) := by decide +kernel
theorem dX6_isTag_11 : decode cX6_isTag 11 = .ok (.invokestatic 193, 3) := by decide +kernel
theorem dX6_isTag_14 : decode cX6_isTag 14 = .ok (.ifCond .eq 32, 3) := by decide +kernel
theorem dX6_isTag_17 : decode cX6_isTag 17 = .ok (.iload_n 0, 1) := by decide +kernel
theorem dX6_isTag_18 : decode cX6_isTag 18 = .ok (.bipush 8, 2) := by decide +kernel
theorem dX6_isTag_20 : decode cX6_isTag 20 = .ok (.iushr, 1) := by decide +kernel
theorem dX6_isTag_21 : decode cX6_isTag 21 = .ok (.sipush 255, 3) := by decide +kernel
theorem dX6_isTag_24 : decode cX6_isTag 24 = .ok (.iand, 1) := by decide +kernel
theorem dX6_isTag_25 : decode cX6_isTag 25 = .ok (.invokestatic 193, 3) := by decide +kernel
theorem dX6_isTag_28 : decode cX6_isTag 28 = .ok (.ifCond .eq 18, 3) := by decide +kernel
theorem dX6_isTag_31 : decode cX6_isTag 31 = .ok (.iload_n 0, 1) := by decide +kernel
theorem dX6_isTag_32 : decode cX6_isTag 32 = .ok (.sipush 255, 3) := by decide +kernel
theorem dX6_isTag_35 : decode cX6_isTag 35 = .ok (.iand, 1) := by decide +kernel
theorem dX6_isTag_36 : decode cX6_isTag 36 = .ok (.invokestatic 193, 3) := by decide +kernel
theorem dX6_isTag_39 : decode cX6_isTag 39 = .ok (.ifCond .eq 7, 3) := by decide +kernel
theorem dX6_isTag_42 : decode cX6_isTag 42 = .ok (.iconst 1, 1) := by decide +kernel
theorem dX6_isTag_43 : decode cX6_isTag 43 = .ok (.goto 4, 3) := by decide +kernel
theorem dX6_isTag_46 : decode cX6_isTag 46 = .ok (.iconst 0, 1) := by decide +kernel
theorem dX6_isTag_47 : decode cX6_isTag 47 = .ok (.ireturn, 1) := by decide +kernel
theorem dX6_isEnvelopeTag_0 : decode cX6_isEnvelopeTag 0 = .ok (.iload_n 0, 1) := by decide +kernel
theorem dX6_isEnvelopeTag_1 : decode cX6_isEnvelopeTag 1 = .ok (.ldc 196, 2) := by decide +kernel
theorem dX6_isEnvelopeTag_3 : decode cX6_isEnvelopeTag 3 = .ok (.if_icmp .eq 33, 3) := by decide +kernel
theorem dX6_isEnvelopeTag_6 : decode cX6_isEnvelopeTag 6 = .ok (.iload_n 0, 1) := by decide +kernel
theorem dX6_isEnvelopeTag_7 : decode cX6_isEnvelopeTag 7 = .ok (.ldc 197, 2) := by decide +kernel
theorem dX6_isEnvelopeTag_9 : decode cX6_isEnvelopeTag 9 = .ok (.if_icmp .eq 27, 3) := by decide +kernel
theorem dX6_isEnvelopeTag_12 : decode cX6_isEnvelopeTag 12 = .ok (.iload_n 0, 1) := by decide +kernel
theorem dX6_isEnvelopeTag_13 : decode cX6_isEnvelopeTag 13 = .ok (.ldc 198, 2) := by decide +kernel
theorem dX6_isEnvelopeTag_15 : decode cX6_isEnvelopeTag 15 = .ok (.if_icmp .eq 21, 3) := by decide +kernel
theorem dX6_isEnvelopeTag_18 : decode cX6_isEnvelopeTag 18 = .ok (.iload_n 0, 1) := by decide +kernel
theorem dX6_isEnvelopeTag_19 : decode cX6_isEnvelopeTag 19 = .ok (.ldc 199, 2) := by decide +kernel
theorem dX6_isEnvelopeTag_21 : decode cX6_isEnvelopeTag 21 = .ok (.if_icmp .eq 15, 3) := by decide +kernel
theorem dX6_isEnvelopeTag_24 : decode cX6_isEnvelopeTag 24 = .ok (.iload_n 0, 1) := by decide +kernel
theorem dX6_isEnvelopeTag_25 : decode cX6_isEnvelopeTag 25 = .ok (.ldc 200, 2) := by decide +kernel
theorem dX6_isEnvelopeTag_27 : decode cX6_isEnvelopeTag 27 = .ok (.if_icmp .eq 9, 3) := by decide +kernel
theorem dX6_isEnvelopeTag_30 : decode cX6_isEnvelopeTag 30 = .ok (.iload_n 0, 1) := by decide +kernel
theorem dX6_isEnvelopeTag_31 : decode cX6_isEnvelopeTag 31 = .ok (.ldc 201, 2) := by decide +kernel
theorem dX6_isEnvelopeTag_33 : decode cX6_isEnvelopeTag 33 = .ok (.if_icmp .ne 7, 3) := by decide +kernel
theorem dX6_isEnvelopeTag_36 : decode cX6_isEnvelopeTag 36 = .ok (.iconst 1, 1) := by decide +kernel
theorem dX6_isEnvelopeTag_37 : decode cX6_isEnvelopeTag 37 = .ok (.goto 4, 3) := by decide +kernel
theorem dX6_isEnvelopeTag_40 : decode cX6_isEnvelopeTag 40 = .ok (.iconst 0, 1) := by decide +kernel
theorem dX6_isEnvelopeTag_41 : decode cX6_isEnvelopeTag 41 = .ok (.ireturn, 1) := by decide +kernel
theorem dX6_isCapital_0 : decode cX6_isCapital 0 = .ok (.iload_n 0, 1) := by decide +kernel
theorem dX6_isCapital_1 : decode cX6_isCapital 1 = .ok (.bipush 65, 2) := by decide +kernel
theorem dX6_isCapital_3 : decode cX6_isCapital 3 = .ok (.if_icmp .lt 13, 3) := by decide +kernel
theorem dX6_isCapital_6 : decode cX6_isCapital 6 = .ok (.iload_n 0, 1) := by decide +kernel
theorem dX6_isCapital_7 : decode cX6_isCapital 7 = .ok (.bipush 90, 2) := by decide +kernel
theorem dX6_isCapital_9 : decode cX6_isCapital 9 = .ok (.if_icmp .gt 7, 3) := by decide +kernel
theorem dX6_isCapital_12 : decode cX6_isCapital 12 = .ok (.iconst 1, 1) := by decide +kernel
theorem dX6_isCapital_13 : decode cX6_isCapital 13 = .ok (.goto 4, 3) := by decide +kernel
theorem dX6_isCapital_16 : decode cX6_isCapital 16 = .ok (.iconst 0, 1) := by decide +kernel
theorem dX6_isCapital_17 : decode cX6_isCapital 17 = .ok (.ireturn, 1) := by decide +kernel
theorem dX6_isDigit_0 : decode cX6_isDigit 0 = .ok (.iload_n 0, 1) := by decide +kernel
theorem dX6_isDigit_1 : decode cX6_isDigit 1 = .ok (.bipush 48, 2) := by decide +kernel
theorem dX6_isDigit_3 : decode cX6_isDigit 3 = .ok (.if_icmp .lt 13, 3) := by decide +kernel
theorem dX6_isDigit_6 : decode cX6_isDigit 6 = .ok (.iload_n 0, 1) := by decide +kernel
theorem dX6_isDigit_7 : decode cX6_isDigit 7 = .ok (.bipush 57, 2) := by decide +kernel
theorem dX6_isDigit_9 : decode cX6_isDigit 9 = .ok (.if_icmp .gt 7, 3) := by decide +kernel
theorem dX6_isDigit_12 : decode cX6_isDigit 12 = .ok (.iconst 1, 1) := by decide +kernel
theorem dX6_isDigit_13 : decode cX6_isDigit 13 = .ok (.goto 4, 3) := by decide +kernel
theorem dX6_isDigit_16 : decode cX6_isDigit 16 = .ok (.iconst 0, 1) := by decide +kernel
theorem dX6_isDigit_17 : decode cX6_isDigit 17 = .ok (.ireturn, 1) := by decide +kernel
theorem dJ9_max_7cf53_0 : decode cJ9_max_7cf53 0 = .ok (.iload_n 0, 1) := by decide +kernel
theorem dJ9_max_7cf53_1 : decode cJ9_max_7cf53 1 = .ok (.iload_n 1, 1) := by decide +kernel
theorem dJ9_max_7cf53_2 : decode cJ9_max_7cf53 2 = .ok (.if_icmp .lt 7, 3) := by decide +kernel
theorem dJ9_max_7cf53_5 : decode cJ9_max_7cf53 5 = .ok (.iload_n 0, 1) := by decide +kernel
theorem dJ9_max_7cf53_6 : decode cJ9_max_7cf53 6 = .ok (.goto 4, 3) := by decide +kernel
theorem dJ9_max_7cf53_9 : decode cJ9_max_7cf53 9 = .ok (.iload_n 1, 1) := by decide +kernel
theorem dJ9_max_7cf53_10 : decode cJ9_max_7cf53 10 = .ok (.ireturn, 1) := by decide +kernel
theorem dL_slot_0 : decode cL_slot 0 = .ok (.aload 5, 2) := by decide +kernel
theorem dL_slot_2 : decode cL_slot 2 = .ok (.iconst 0, 1) := by decide +kernel
theorem dL_slot_3 : decode cL_slot 3 = .ok (.aload_n 0, 1) := by decide +kernel
theorem dL_slot_4 : decode cL_slot 4 = .ok (.iload_n 1, 1) := by decide +kernel
theorem dL_slot_5 : decode cL_slot 5 = .ok (.iload_n 2, 1) := by decide +kernel
theorem dL_slot_6 : decode cL_slot 6 = .ok (.iload_n 3, 1) := by decide +kernel
theorem dL_slot_7 : decode cL_slot 7 = .ok (.iload 4, 2) := by decide +kernel
theorem dL_slot_9 : decode cL_slot 9 = .ok (.invokevirtual 7, 3) := by decide +kernel
theorem dL_slot_12 : decode cL_slot 12 = .ok (.i2l, 1) := by decide +kernel
theorem dL_slot_13 : decode cL_slot 13 = .ok (.lastore, 1) := by decide +kernel
theorem dL_slot_14 : decode cL_slot 14 = .ok (.goto 11, 3) := by decide +kernel
theorem dL_slot_17 : decode cL_slot 17 = .ok (.astore 6, 2) := by decide +kernel
theorem dL_slot_19 : decode cL_slot 19 = .ok (.iconst 1, 1) := by decide +kernel
theorem dL_slot_20 : decode cL_slot 20 = .ok (.ireturn, 1) := by decide +kernel
theorem dL_slot_21 : decode cL_slot 21 = .ok (.astore 6, 2) := by decide +kernel
theorem dL_slot_23 : decode cL_slot 23 = .ok (.iconst 2, 1) := by decide +kernel
theorem dL_slot_24 : decode cL_slot 24 = .ok (.ireturn, 1) := by decide +kernel
theorem dL_slot_25 : decode cL_slot 25 = .ok (.iconst 0, 1) := by decide +kernel
theorem dL_slot_26 : decode cL_slot 26 = .ok (.ireturn, 1) := by decide +kernel
theorem dL_open_0 : decode cL_open 0 = .ok (.aload 4, 2) := by decide +kernel
theorem dL_open_2 : decode cL_open 2 = .ok (.iconst 0, 1) := by decide +kernel
theorem dL_open_3 : decode cL_open 3 = .ok (.aload_n 0, 1) := by decide +kernel
theorem dL_open_4 : decode cL_open 4 = .ok (.iload_n 1, 1) := by decide +kernel
theorem dL_open_5 : decode cL_open 5 = .ok (.iload_n 2, 1) := by decide +kernel
theorem dL_open_6 : decode cL_open 6 = .ok (.iload_n 3, 1) := by decide +kernel
theorem dL_open_7 : decode cL_open 7 = .ok (.invokevirtual 17, 3) := by decide +kernel
theorem dL_open_10 : decode cL_open 10 = .ok (.i2l, 1) := by decide +kernel
theorem dL_open_11 : decode cL_open 11 = .ok (.lastore, 1) := by decide +kernel
theorem dL_open_12 : decode cL_open 12 = .ok (.goto 11, 3) := by decide +kernel
theorem dL_open_15 : decode cL_open 15 = .ok (.astore 5, 2) := by decide +kernel
theorem dL_open_17 : decode cL_open 17 = .ok (.iconst 1, 1) := by decide +kernel
theorem dL_open_18 : decode cL_open 18 = .ok (.ireturn, 1) := by decide +kernel
theorem dL_open_19 : decode cL_open 19 = .ok (.astore 5, 2) := by decide +kernel
theorem dL_open_21 : decode cL_open 21 = .ok (.iconst 2, 1) := by decide +kernel
theorem dL_open_22 : decode cL_open 22 = .ok (.ireturn, 1) := by decide +kernel
theorem dL_open_23 : decode cL_open 23 = .ok (.iconst 0, 1) := by decide +kernel
theorem dL_open_24 : decode cL_open 24 = .ok (.ireturn, 1) := by decide +kernel
theorem dL_close_0 : decode cL_close 0 = .ok (.aload_n 2, 1) := by decide +kernel
theorem dL_close_1 : decode cL_close 1 = .ok (.iconst 0, 1) := by decide +kernel
theorem dL_close_2 : decode cL_close 2 = .ok (.aload_n 0, 1) := by decide +kernel
theorem dL_close_3 : decode cL_close 3 = .ok (.iload_n 1, 1) := by decide +kernel
theorem dL_close_4 : decode cL_close 4 = .ok (.invokevirtual 21, 3) := by decide +kernel
theorem dL_close_7 : decode cL_close 7 = .ok (.ifCond .eq 7, 3) := by decide +kernel
theorem dL_close_10 : decode cL_close 10 = .ok (.lconst 1, 1) := by decide +kernel
theorem dL_close_11 : decode cL_close 11 = .ok (.goto 4, 3) := by decide +kernel
theorem dL_close_14 : decode cL_close 14 = .ok (.lconst 0, 1) := by decide +kernel
theorem dL_close_15 : decode cL_close 15 = .ok (.lastore, 1) := by decide +kernel
theorem dL_close_16 : decode cL_close 16 = .ok (.goto 6, 3) := by decide +kernel
theorem dL_close_19 : decode cL_close 19 = .ok (.astore_n 3, 1) := by decide +kernel
theorem dL_close_20 : decode cL_close 20 = .ok (.iconst 1, 1) := by decide +kernel
theorem dL_close_21 : decode cL_close 21 = .ok (.ireturn, 1) := by decide +kernel
theorem dL_close_22 : decode cL_close 22 = .ok (.iconst 0, 1) := by decide +kernel
theorem dL_close_23 : decode cL_close 23 = .ok (.ireturn, 1) := by decide +kernel
theorem dL_clear_0 : decode cL_clear 0 = .ok (.aload_n 2, 1) := by decide +kernel
theorem dL_clear_1 : decode cL_clear 1 = .ok (.iconst 0, 1) := by decide +kernel
theorem dL_clear_2 : decode cL_clear 2 = .ok (.aload_n 0, 1) := by decide +kernel
theorem dL_clear_3 : decode cL_clear 3 = .ok (.iload_n 1, 1) := by decide +kernel
theorem dL_clear_4 : decode cL_clear 4 = .ok (.invokevirtual 25, 3) := by decide +kernel
theorem dL_clear_7 : decode cL_clear 7 = .ok (.ifCond .eq 7, 3) := by decide +kernel
theorem dL_clear_10 : decode cL_clear 10 = .ok (.lconst 1, 1) := by decide +kernel
theorem dL_clear_11 : decode cL_clear 11 = .ok (.goto 4, 3) := by decide +kernel
theorem dL_clear_14 : decode cL_clear 14 = .ok (.lconst 0, 1) := by decide +kernel
theorem dL_clear_15 : decode cL_clear 15 = .ok (.lastore, 1) := by decide +kernel
theorem dL_clear_16 : decode cL_clear 16 = .ok (.goto 6, 3) := by decide +kernel
theorem dL_clear_19 : decode cL_clear 19 = .ok (.astore_n 3, 1) := by decide +kernel
theorem dL_clear_20 : decode cL_clear 20 = .ok (.iconst 1, 1) := by decide +kernel
theorem dL_clear_21 : decode cL_clear 21 = .ok (.ireturn, 1) := by decide +kernel
theorem dL_clear_22 : decode cL_clear 22 = .ok (.iconst 0, 1) := by decide +kernel
theorem dL_clear_23 : decode cL_clear 23 = .ok (.ireturn, 1) := by decide +kernel
theorem dL_read_0 : decode cL_read 0 = .ok (.aload_n 1, 1) := by decide +kernel
theorem dL_read_1 : decode cL_read 1 = .ok (.iconst 0, 1) := by decide +kernel
theorem dL_read_2 : decode cL_read 2 = .ok (.aload_n 0, 1) := by decide +kernel
theorem dL_read_3 : decode cL_read 3 = .ok (.invokevirtual 28, 3) := by decide +kernel
theorem dL_read_6 : decode cL_read 6 = .ok (.i2l, 1) := by decide +kernel
theorem dL_read_7 : decode cL_read 7 = .ok (.lastore, 1) := by decide +kernel
theorem dL_read_8 : decode cL_read 8 = .ok (.goto 9, 3) := by decide +kernel
theorem dL_read_11 : decode cL_read 11 = .ok (.astore_n 2, 1) := by decide +kernel
theorem dL_read_12 : decode cL_read 12 = .ok (.iconst 1, 1) := by decide +kernel
theorem dL_read_13 : decode cL_read 13 = .ok (.ireturn, 1) := by decide +kernel
theorem dL_read_14 : decode cL_read 14 = .ok (.astore_n 2, 1) := by decide +kernel
theorem dL_read_15 : decode cL_read 15 = .ok (.iconst 2, 1) := by decide +kernel
theorem dL_read_16 : decode cL_read 16 = .ok (.ireturn, 1) := by decide +kernel
theorem dL_read_17 : decode cL_read 17 = .ok (.iconst 0, 1) := by decide +kernel
theorem dL_read_18 : decode cL_read 18 = .ok (.ireturn, 1) := by decide +kernel
theorem dL_interchange_0 : decode cL_interchange 0 = .ok (.aload_n 2, 1) := by decide +kernel
theorem dL_interchange_1 : decode cL_interchange 1 = .ok (.iconst 0, 1) := by decide +kernel
theorem dL_interchange_2 : decode cL_interchange 2 = .ok (.aload_n 0, 1) := by decide +kernel
theorem dL_interchange_3 : decode cL_interchange 3 = .ok (.iload_n 1, 1) := by decide +kernel
theorem dL_interchange_4 : decode cL_interchange 4 = .ok (.invokevirtual 34, 3) := by decide +kernel
theorem dL_interchange_7 : decode cL_interchange 7 = .ok (.i2l, 1) := by decide +kernel
theorem dL_interchange_8 : decode cL_interchange 8 = .ok (.lastore, 1) := by decide +kernel
theorem dL_interchange_9 : decode cL_interchange 9 = .ok (.goto 6, 3) := by decide +kernel
theorem dL_interchange_12 : decode cL_interchange 12 = .ok (.astore_n 3, 1) := by decide +kernel
theorem dL_interchange_13 : decode cL_interchange 13 = .ok (.iconst 1, 1) := by decide +kernel
theorem dL_interchange_14 : decode cL_interchange 14 = .ok (.ireturn, 1) := by decide +kernel
theorem dL_interchange_15 : decode cL_interchange 15 = .ok (.iconst 0, 1) := by decide +kernel
theorem dL_interchange_16 : decode cL_interchange 16 = .ok (.ireturn, 1) := by decide +kernel
theorem dL_message_0 : decode cL_message 0 = .ok (.aload_n 3, 1) := by decide +kernel
theorem dL_message_1 : decode cL_message 1 = .ok (.iconst 0, 1) := by decide +kernel
theorem dL_message_2 : decode cL_message 2 = .ok (.aload_n 0, 1) := by decide +kernel
theorem dL_message_3 : decode cL_message 3 = .ok (.iload_n 1, 1) := by decide +kernel
theorem dL_message_4 : decode cL_message 4 = .ok (.iload_n 2, 1) := by decide +kernel
theorem dL_message_5 : decode cL_message 5 = .ok (.invokevirtual 38, 3) := by decide +kernel
theorem dL_message_8 : decode cL_message 8 = .ok (.i2l, 1) := by decide +kernel
theorem dL_message_9 : decode cL_message 9 = .ok (.lastore, 1) := by decide +kernel
theorem dL_message_10 : decode cL_message 10 = .ok (.goto 7, 3) := by decide +kernel
theorem dL_message_13 : decode cL_message 13 = .ok (.astore 4, 2) := by decide +kernel
theorem dL_message_15 : decode cL_message 15 = .ok (.iconst 1, 1) := by decide +kernel
theorem dL_message_16 : decode cL_message 16 = .ok (.ireturn, 1) := by decide +kernel
theorem dL_message_17 : decode cL_message 17 = .ok (.iconst 0, 1) := by decide +kernel
theorem dL_message_18 : decode cL_message 18 = .ok (.ireturn, 1) := by decide +kernel
theorem dL_group_0 : decode cL_group 0 = .ok (.aload_n 2, 1) := by decide +kernel
theorem dL_group_1 : decode cL_group 1 = .ok (.iconst 0, 1) := by decide +kernel
theorem dL_group_2 : decode cL_group 2 = .ok (.aload_n 0, 1) := by decide +kernel
theorem dL_group_3 : decode cL_group 3 = .ok (.iload_n 1, 1) := by decide +kernel
theorem dL_group_4 : decode cL_group 4 = .ok (.invokevirtual 42, 3) := by decide +kernel
theorem dL_group_7 : decode cL_group 7 = .ok (.i2l, 1) := by decide +kernel
theorem dL_group_8 : decode cL_group 8 = .ok (.lastore, 1) := by decide +kernel
theorem dL_group_9 : decode cL_group 9 = .ok (.goto 6, 3) := by decide +kernel
theorem dL_group_12 : decode cL_group 12 = .ok (.astore_n 3, 1) := by decide +kernel
theorem dL_group_13 : decode cL_group 13 = .ok (.iconst 1, 1) := by decide +kernel
theorem dL_group_14 : decode cL_group 14 = .ok (.ireturn, 1) := by decide +kernel
theorem dL_group_15 : decode cL_group 15 = .ok (.iconst 0, 1) := by decide +kernel
theorem dL_group_16 : decode cL_group 16 = .ok (.ireturn, 1) := by decide +kernel
theorem dL_segment_0 : decode cL_segment 0 = .ok (.aload 5, 2) := by decide +kernel
theorem dL_segment_2 : decode cL_segment 2 = .ok (.iconst 0, 1) := by decide +kernel
theorem dL_segment_3 : decode cL_segment 3 = .ok (.aload_n 0, 1) := by decide +kernel
theorem dL_segment_4 : decode cL_segment 4 = .ok (.iload_n 1, 1) := by decide +kernel
theorem dL_segment_5 : decode cL_segment 5 = .ok (.iload_n 2, 1) := by decide +kernel
theorem dL_segment_6 : decode cL_segment 6 = .ok (.iload_n 3, 1) := by decide +kernel
theorem dL_segment_7 : decode cL_segment 7 = .ok (.iload 4, 2) := by decide +kernel
theorem dL_segment_9 : decode cL_segment 9 = .ok (.invokevirtual 45, 3) := by decide +kernel
theorem dL_segment_12 : decode cL_segment 12 = .ok (.i2l, 1) := by decide +kernel
theorem dL_segment_13 : decode cL_segment 13 = .ok (.lastore, 1) := by decide +kernel
theorem dL_segment_14 : decode cL_segment 14 = .ok (.goto 7, 3) := by decide +kernel
theorem dL_segment_17 : decode cL_segment 17 = .ok (.astore 6, 2) := by decide +kernel
theorem dL_segment_19 : decode cL_segment 19 = .ok (.iconst 1, 1) := by decide +kernel
theorem dL_segment_20 : decode cL_segment 20 = .ok (.ireturn, 1) := by decide +kernel
theorem dL_segment_21 : decode cL_segment 21 = .ok (.iconst 0, 1) := by decide +kernel
theorem dL_segment_22 : decode cL_segment 22 = .ok (.ireturn, 1) := by decide +kernel
theorem dL_print_0 : decode cL_print 0 = .ok (.aload_n 2, 1) := by decide +kernel
theorem dL_print_1 : decode cL_print 1 = .ok (.iconst 0, 1) := by decide +kernel
theorem dL_print_2 : decode cL_print 2 = .ok (.aload_n 0, 1) := by decide +kernel
theorem dL_print_3 : decode cL_print 3 = .ok (.iload_n 1, 1) := by decide +kernel
theorem dL_print_4 : decode cL_print 4 = .ok (.invokevirtual 49, 3) := by decide +kernel
theorem dL_print_7 : decode cL_print 7 = .ok (.i2l, 1) := by decide +kernel
theorem dL_print_8 : decode cL_print 8 = .ok (.lastore, 1) := by decide +kernel
theorem dL_print_9 : decode cL_print 9 = .ok (.goto 6, 3) := by decide +kernel
theorem dL_print_12 : decode cL_print 12 = .ok (.astore_n 3, 1) := by decide +kernel
theorem dL_print_13 : decode cL_print 13 = .ok (.iconst 1, 1) := by decide +kernel
theorem dL_print_14 : decode cL_print 14 = .ok (.ireturn, 1) := by decide +kernel
theorem dL_print_15 : decode cL_print 15 = .ok (.iconst 0, 1) := by decide +kernel
theorem dL_print_16 : decode cL_print 16 = .ok (.ireturn, 1) := by decide +kernel
theorem dL_report_0 : decode cL_report 0 = .ok (.aload_n 2, 1) := by decide +kernel
theorem dL_report_1 : decode cL_report 1 = .ok (.iconst 0, 1) := by decide +kernel
theorem dL_report_2 : decode cL_report 2 = .ok (.aload_n 0, 1) := by decide +kernel
theorem dL_report_3 : decode cL_report 3 = .ok (.iload_n 1, 1) := by decide +kernel
theorem dL_report_4 : decode cL_report 4 = .ok (.invokevirtual 52, 3) := by decide +kernel
theorem dL_report_7 : decode cL_report 7 = .ok (.i2l, 1) := by decide +kernel
theorem dL_report_8 : decode cL_report 8 = .ok (.lastore, 1) := by decide +kernel
theorem dL_report_9 : decode cL_report 9 = .ok (.goto 6, 3) := by decide +kernel
theorem dL_report_12 : decode cL_report 12 = .ok (.astore_n 3, 1) := by decide +kernel
theorem dL_report_13 : decode cL_report 13 = .ok (.iconst 1, 1) := by decide +kernel
theorem dL_report_14 : decode cL_report 14 = .ok (.ireturn, 1) := by decide +kernel
theorem dL_report_15 : decode cL_report 15 = .ok (.iconst 0, 1) := by decide +kernel
theorem dL_report_16 : decode cL_report 16 = .ok (.ireturn, 1) := by decide +kernel
theorem dL_law_0 : decode cL_law 0 = .ok (.new 8, 3) := by decide +kernel
theorem dL_law_3 : decode cL_law 3 = .ok (.dup, 1) := by decide +kernel
theorem dL_law_4 : decode cL_law 4 = .ok (.invokespecial 55, 3) := by decide +kernel
theorem dL_law_7 : decode cL_law 7 = .ok (.astore_n 1, 1) := by decide +kernel
theorem dL_law_8 : decode cL_law 8 = .ok (.new 56, 3) := by decide +kernel
theorem dL_law_11 : decode cL_law 11 = .ok (.dup, 1) := by decide +kernel
theorem dL_law_12 : decode cL_law 12 = .ok (.invokespecial 58, 3) := by decide +kernel
theorem dL_law_15 : decode cL_law 15 = .ok (.astore_n 2, 1) := by decide +kernel
theorem dL_law_16 : decode cL_law 16 = .ok (.iconst 1, 1) := by decide +kernel
theorem dL_law_17 : decode cL_law 17 = .ok (.newarray .long, 2) := by decide +kernel
theorem dL_law_19 : decode cL_law 19 = .ok (.astore_n 3, 1) := by decide +kernel
theorem dL_law_20 : decode cL_law 20 = .ok (.iconst 0, 1) := by decide +kernel
theorem dL_law_21 : decode cL_law 21 = .ok (.istore 4, 2) := by decide +kernel
theorem dL_law_23 : decode cL_law 23 = .ok (.iload 4, 2) := by decide +kernel
theorem dL_law_25 : decode cL_law 25 = .ok (.aload_n 0, 1) := by decide +kernel
theorem dL_law_26 : decode cL_law 26 = .ok (.arraylength, 1) := by decide +kernel
theorem dL_law_27 : decode cL_law 27 = .ok (.iconst 5, 1) := by decide +kernel
theorem dL_law_28 : decode cL_law 28 = .ok (.isub, 1) := by decide +kernel
theorem dL_law_29 : decode cL_law 29 = .ok (.if_icmp .gt 941, 3) := by decide +kernel
theorem dL_law_32 : decode cL_law 32 = .ok (.aload_n 0, 1) := by decide +kernel
theorem dL_law_33 : decode cL_law 33 = .ok (.iload 4, 2) := by decide +kernel
theorem dL_law_35 : decode cL_law 35 = .ok (.iaload, 1) := by decide +kernel
theorem dL_law_36 : decode cL_law 36 = .ok (.bipush 15, 2) := by decide +kernel
theorem dL_law_38 : decode cL_law 38 = .ok (.iand, 1) := by decide +kernel
theorem dL_law_39 : decode cL_law 39 = .ok (.tableswitch 925 0 14 #[73, 130, 141, 154, 262, 358, 421, 484, 528, 541, 597, 665, 721, 813, 869], 73) := by decide +kernel
theorem dL_law_112 : decode cL_law 112 = .ok (.aload_n 1, 1) := by decide +kernel
theorem dL_law_113 : decode cL_law 113 = .ok (.aload_n 0, 1) := by decide +kernel
theorem dL_law_114 : decode cL_law 114 = .ok (.iload 4, 2) := by decide +kernel
theorem dL_law_116 : decode cL_law 116 = .ok (.iconst 1, 1) := by decide +kernel
theorem dL_law_117 : decode cL_law 117 = .ok (.iadd, 1) := by decide +kernel
theorem dL_law_118 : decode cL_law 118 = .ok (.iaload, 1) := by decide +kernel
theorem dL_law_119 : decode cL_law 119 = .ok (.i2l, 1) := by decide +kernel
theorem dL_law_120 : decode cL_law 120 = .ok (.bipush 32, 2) := by decide +kernel
theorem dL_law_122 : decode cL_law 122 = .ok (.lshl, 1) := by decide +kernel
theorem dL_law_123 : decode cL_law 123 = .ok (.aload_n 0, 1) := by decide +kernel
theorem dL_law_124 : decode cL_law 124 = .ok (.iload 4, 2) := by decide +kernel
theorem dL_law_126 : decode cL_law 126 = .ok (.iconst 2, 1) := by decide +kernel
theorem dL_law_127 : decode cL_law 127 = .ok (.iadd, 1) := by decide +kernel
theorem dL_law_128 : decode cL_law 128 = .ok (.iaload, 1) := by decide +kernel
theorem dL_law_129 : decode cL_law 129 = .ok (.i2l, 1) := by decide +kernel
theorem dL_law_130 : decode cL_law 130 = .ok (.ldc2_w 59, 3) := by decide +kernel
theorem dL_law_133 : decode cL_law 133 = .ok (.land, 1) := by decide +kernel
theorem dL_law_134 : decode cL_law 134 = .ok (.lor, 1) := by decide +kernel
theorem dL_law_135 : decode cL_law 135 = .ok (.invokevirtual 61, 3) := by decide +kernel
theorem dL_law_138 : decode cL_law 138 = .ok (.aload_n 2, 1) := by decide +kernel
theorem dL_law_139 : decode cL_law 139 = .ok (.aload_n 0, 1) := by decide +kernel
theorem dL_law_140 : decode cL_law 140 = .ok (.iload 4, 2) := by decide +kernel
theorem dL_law_142 : decode cL_law 142 = .ok (.iconst 1, 1) := by decide +kernel
theorem dL_law_143 : decode cL_law 143 = .ok (.iadd, 1) := by decide +kernel
theorem dL_law_144 : decode cL_law 144 = .ok (.iaload, 1) := by decide +kernel
theorem dL_law_145 : decode cL_law 145 = .ok (.i2l, 1) := by decide +kernel
theorem dL_law_146 : decode cL_law 146 = .ok (.bipush 32, 2) := by decide +kernel
theorem dL_law_148 : decode cL_law 148 = .ok (.lshl, 1) := by decide +kernel
theorem dL_law_149 : decode cL_law 149 = .ok (.aload_n 0, 1) := by decide +kernel
theorem dL_law_150 : decode cL_law 150 = .ok (.iload 4, 2) := by decide +kernel
theorem dL_law_152 : decode cL_law 152 = .ok (.iconst 2, 1) := by decide +kernel
theorem dL_law_153 : decode cL_law 153 = .ok (.iadd, 1) := by decide +kernel
theorem dL_law_154 : decode cL_law 154 = .ok (.iaload, 1) := by decide +kernel
theorem dL_law_155 : decode cL_law 155 = .ok (.i2l, 1) := by decide +kernel
theorem dL_law_156 : decode cL_law 156 = .ok (.ldc2_w 59, 3) := by decide +kernel
theorem dL_law_159 : decode cL_law 159 = .ok (.land, 1) := by decide +kernel
theorem dL_law_160 : decode cL_law 160 = .ok (.lor, 1) := by decide +kernel
theorem dL_law_161 : decode cL_law 161 = .ok (.invokevirtual 65, 3) := by decide +kernel
theorem dL_law_164 : decode cL_law 164 = .ok (.if_icmp .eq 800, 3) := by decide +kernel
theorem dL_law_167 : decode cL_law 167 = .ok (.iconst 0, 1) := by decide +kernel
theorem dL_law_168 : decode cL_law 168 = .ok (.ireturn, 1) := by decide +kernel
theorem dL_law_169 : decode cL_law 169 = .ok (.aload_n 1, 1) := by decide +kernel
theorem dL_law_170 : decode cL_law 170 = .ok (.invokevirtual 66, 3) := by decide +kernel
theorem dL_law_173 : decode cL_law 173 = .ok (.aload_n 2, 1) := by decide +kernel
theorem dL_law_174 : decode cL_law 174 = .ok (.invokevirtual 69, 3) := by decide +kernel
theorem dL_law_177 : decode cL_law 177 = .ok (.goto 787, 3) := by decide +kernel
theorem dL_law_180 : decode cL_law 180 = .ok (.aload_n 1, 1) := by decide +kernel
theorem dL_law_181 : decode cL_law 181 = .ok (.invokevirtual 70, 3) := by decide +kernel
theorem dL_law_184 : decode cL_law 184 = .ok (.aload_n 2, 1) := by decide +kernel
theorem dL_law_185 : decode cL_law 185 = .ok (.invokevirtual 73, 3) := by decide +kernel
theorem dL_law_188 : decode cL_law 188 = .ok (.if_icmp .eq 776, 3) := by decide +kernel
theorem dL_law_191 : decode cL_law 191 = .ok (.iconst 0, 1) := by decide +kernel
theorem dL_law_192 : decode cL_law 192 = .ok (.ireturn, 1) := by decide +kernel
theorem dL_law_193 : decode cL_law 193 = .ok (.aload_n 1, 1) := by decide +kernel
theorem dL_law_194 : decode cL_law 194 = .ok (.aload_n 0, 1) := by decide +kernel
theorem dL_law_195 : decode cL_law 195 = .ok (.iload 4, 2) := by decide +kernel
theorem dL_law_197 : decode cL_law 197 = .ok (.iconst 1, 1) := by decide +kernel
theorem dL_law_198 : decode cL_law 198 = .ok (.iadd, 1) := by decide +kernel
theorem dL_law_199 : decode cL_law 199 = .ok (.iaload, 1) := by decide +kernel
theorem dL_law_200 : decode cL_law 200 = .ok (.aload_n 0, 1) := by decide +kernel
theorem dL_law_201 : decode cL_law 201 = .ok (.iload 4, 2) := by decide +kernel
theorem dL_law_203 : decode cL_law 203 = .ok (.iconst 2, 1) := by decide +kernel
theorem dL_law_204 : decode cL_law 204 = .ok (.iadd, 1) := by decide +kernel
theorem dL_law_205 : decode cL_law 205 = .ok (.iaload, 1) := by decide +kernel
theorem dL_law_206 : decode cL_law 206 = .ok (.aload_n 0, 1) := by decide +kernel
theorem dL_law_207 : decode cL_law 207 = .ok (.iload 4, 2) := by decide +kernel
theorem dL_law_209 : decode cL_law 209 = .ok (.iconst 3, 1) := by decide +kernel
theorem dL_law_210 : decode cL_law 210 = .ok (.iadd, 1) := by decide +kernel
theorem dL_law_211 : decode cL_law 211 = .ok (.iaload, 1) := by decide +kernel
theorem dL_law_212 : decode cL_law 212 = .ok (.ifCond .eq 7, 3) := by decide +kernel
theorem dL_law_215 : decode cL_law 215 = .ok (.iconst 1, 1) := by decide +kernel
theorem dL_law_216 : decode cL_law 216 = .ok (.goto 4, 3) := by decide +kernel
theorem dL_law_219 : decode cL_law 219 = .ok (.iconst 0, 1) := by decide +kernel
theorem dL_law_220 : decode cL_law 220 = .ok (.aload_n 0, 1) := by decide +kernel
theorem dL_law_221 : decode cL_law 221 = .ok (.iload 4, 2) := by decide +kernel
theorem dL_law_223 : decode cL_law 223 = .ok (.iconst 4, 1) := by decide +kernel
theorem dL_law_224 : decode cL_law 224 = .ok (.iadd, 1) := by decide +kernel
theorem dL_law_225 : decode cL_law 225 = .ok (.iaload, 1) := by decide +kernel
theorem dL_law_226 : decode cL_law 226 = .ok (.aload_n 3, 1) := by decide +kernel
theorem dL_law_227 : decode cL_law 227 = .ok (.invokestatic 74, 3) := by decide +kernel
theorem dL_law_230 : decode cL_law 230 = .ok (.istore 5, 2) := by decide +kernel
theorem dL_law_232 : decode cL_law 232 = .ok (.aload_n 2, 1) := by decide +kernel
theorem dL_law_233 : decode cL_law 233 = .ok (.aload_n 0, 1) := by decide +kernel
theorem dL_law_234 : decode cL_law 234 = .ok (.iload 4, 2) := by decide +kernel
theorem dL_law_236 : decode cL_law 236 = .ok (.iconst 1, 1) := by decide +kernel
theorem dL_law_237 : decode cL_law 237 = .ok (.iadd, 1) := by decide +kernel
theorem dL_law_238 : decode cL_law 238 = .ok (.iaload, 1) := by decide +kernel
theorem dL_law_239 : decode cL_law 239 = .ok (.aload_n 0, 1) := by decide +kernel
theorem dL_law_240 : decode cL_law 240 = .ok (.iload 4, 2) := by decide +kernel
theorem dL_law_242 : decode cL_law 242 = .ok (.iconst 2, 1) := by decide +kernel
theorem dL_law_243 : decode cL_law 243 = .ok (.iadd, 1) := by decide +kernel
theorem dL_law_244 : decode cL_law 244 = .ok (.iaload, 1) := by decide +kernel
theorem dL_law_245 : decode cL_law 245 = .ok (.aload_n 0, 1) := by decide +kernel
theorem dL_law_246 : decode cL_law 246 = .ok (.iload 4, 2) := by decide +kernel
theorem dL_law_248 : decode cL_law 248 = .ok (.iconst 3, 1) := by decide +kernel
theorem dL_law_249 : decode cL_law 249 = .ok (.iadd, 1) := by decide +kernel
theorem dL_law_250 : decode cL_law 250 = .ok (.iaload, 1) := by decide +kernel
theorem dL_law_251 : decode cL_law 251 = .ok (.ifCond .eq 7, 3) := by decide +kernel
theorem dL_law_254 : decode cL_law 254 = .ok (.iconst 1, 1) := by decide +kernel
theorem dL_law_255 : decode cL_law 255 = .ok (.goto 4, 3) := by decide +kernel
theorem dL_law_258 : decode cL_law 258 = .ok (.iconst 0, 1) := by decide +kernel
theorem dL_law_259 : decode cL_law 259 = .ok (.aload_n 0, 1) := by decide +kernel
theorem dL_law_260 : decode cL_law 260 = .ok (.iload 4, 2) := by decide +kernel
theorem dL_law_262 : decode cL_law 262 = .ok (.iconst 4, 1) := by decide +kernel
theorem dL_law_263 : decode cL_law 263 = .ok (.iadd, 1) := by decide +kernel
theorem dL_law_264 : decode cL_law 264 = .ok (.iaload, 1) := by decide +kernel
theorem dL_law_265 : decode cL_law 265 = .ok (.invokevirtual 79, 3) := by decide +kernel
theorem dL_law_268 : decode cL_law 268 = .ok (.istore 6, 2) := by decide +kernel
theorem dL_law_270 : decode cL_law 270 = .ok (.aload_n 2, 1) := by decide +kernel
theorem dL_law_271 : decode cL_law 271 = .ok (.invokevirtual 80, 3) := by decide +kernel
theorem dL_law_274 : decode cL_law 274 = .ok (.iload 5, 2) := by decide +kernel
theorem dL_law_276 : decode cL_law 276 = .ok (.if_icmp .eq 5, 3) := by decide +kernel
theorem dL_law_279 : decode cL_law 279 = .ok (.iconst 0, 1) := by decide +kernel
theorem dL_law_280 : decode cL_law 280 = .ok (.ireturn, 1) := by decide +kernel
theorem dL_law_281 : decode cL_law 281 = .ok (.iload 5, 2) := by decide +kernel
theorem dL_law_283 : decode cL_law 283 = .ok (.ifCond .ne 15, 3) := by decide +kernel
theorem dL_law_286 : decode cL_law 286 = .ok (.aload_n 3, 1) := by decide +kernel
theorem dL_law_287 : decode cL_law 287 = .ok (.iconst 0, 1) := by decide +kernel
theorem dL_law_288 : decode cL_law 288 = .ok (.laload, 1) := by decide +kernel
theorem dL_law_289 : decode cL_law 289 = .ok (.iload 6, 2) := by decide +kernel
theorem dL_law_291 : decode cL_law 291 = .ok (.i2l, 1) := by decide +kernel
theorem dL_law_292 : decode cL_law 292 = .ok (.lcmp, 1) := by decide +kernel
theorem dL_law_293 : decode cL_law 293 = .ok (.ifCond .eq 5, 3) := by decide +kernel
theorem dL_law_296 : decode cL_law 296 = .ok (.iconst 0, 1) := by decide +kernel
theorem dL_law_297 : decode cL_law 297 = .ok (.ireturn, 1) := by decide +kernel
theorem dL_law_298 : decode cL_law 298 = .ok (.goto 666, 3) := by decide +kernel
theorem dL_law_301 : decode cL_law 301 = .ok (.aload_n 1, 1) := by decide +kernel
theorem dL_law_302 : decode cL_law 302 = .ok (.aload_n 0, 1) := by decide +kernel
theorem dL_law_303 : decode cL_law 303 = .ok (.iload 4, 2) := by decide +kernel
theorem dL_law_305 : decode cL_law 305 = .ok (.iconst 1, 1) := by decide +kernel
theorem dL_law_306 : decode cL_law 306 = .ok (.iadd, 1) := by decide +kernel
theorem dL_law_307 : decode cL_law 307 = .ok (.iaload, 1) := by decide +kernel
theorem dL_law_308 : decode cL_law 308 = .ok (.aload_n 0, 1) := by decide +kernel
theorem dL_law_309 : decode cL_law 309 = .ok (.iload 4, 2) := by decide +kernel
theorem dL_law_311 : decode cL_law 311 = .ok (.iconst 2, 1) := by decide +kernel
theorem dL_law_312 : decode cL_law 312 = .ok (.iadd, 1) := by decide +kernel
theorem dL_law_313 : decode cL_law 313 = .ok (.iaload, 1) := by decide +kernel
theorem dL_law_314 : decode cL_law 314 = .ok (.ifCond .eq 7, 3) := by decide +kernel
theorem dL_law_317 : decode cL_law 317 = .ok (.iconst 1, 1) := by decide +kernel
theorem dL_law_318 : decode cL_law 318 = .ok (.goto 4, 3) := by decide +kernel
theorem dL_law_321 : decode cL_law 321 = .ok (.iconst 0, 1) := by decide +kernel
theorem dL_law_322 : decode cL_law 322 = .ok (.aload_n 0, 1) := by decide +kernel
theorem dL_law_323 : decode cL_law 323 = .ok (.iload 4, 2) := by decide +kernel
theorem dL_law_325 : decode cL_law 325 = .ok (.iconst 3, 1) := by decide +kernel
theorem dL_law_326 : decode cL_law 326 = .ok (.iadd, 1) := by decide +kernel
theorem dL_law_327 : decode cL_law 327 = .ok (.iaload, 1) := by decide +kernel
theorem dL_law_328 : decode cL_law 328 = .ok (.aload_n 3, 1) := by decide +kernel
theorem dL_law_329 : decode cL_law 329 = .ok (.invokestatic 83, 3) := by decide +kernel
theorem dL_law_332 : decode cL_law 332 = .ok (.istore 5, 2) := by decide +kernel
theorem dL_law_334 : decode cL_law 334 = .ok (.aload_n 2, 1) := by decide +kernel
theorem dL_law_335 : decode cL_law 335 = .ok (.aload_n 0, 1) := by decide +kernel
theorem dL_law_336 : decode cL_law 336 = .ok (.iload 4, 2) := by decide +kernel
theorem dL_law_338 : decode cL_law 338 = .ok (.iconst 1, 1) := by decide +kernel
theorem dL_law_339 : decode cL_law 339 = .ok (.iadd, 1) := by decide +kernel
theorem dL_law_340 : decode cL_law 340 = .ok (.iaload, 1) := by decide +kernel
theorem dL_law_341 : decode cL_law 341 = .ok (.aload_n 0, 1) := by decide +kernel
theorem dL_law_342 : decode cL_law 342 = .ok (.iload 4, 2) := by decide +kernel
theorem dL_law_344 : decode cL_law 344 = .ok (.iconst 2, 1) := by decide +kernel
theorem dL_law_345 : decode cL_law 345 = .ok (.iadd, 1) := by decide +kernel
theorem dL_law_346 : decode cL_law 346 = .ok (.iaload, 1) := by decide +kernel
theorem dL_law_347 : decode cL_law 347 = .ok (.ifCond .eq 7, 3) := by decide +kernel
theorem dL_law_350 : decode cL_law 350 = .ok (.iconst 1, 1) := by decide +kernel
theorem dL_law_351 : decode cL_law 351 = .ok (.goto 4, 3) := by decide +kernel
theorem dL_law_354 : decode cL_law 354 = .ok (.iconst 0, 1) := by decide +kernel
theorem dL_law_355 : decode cL_law 355 = .ok (.aload_n 0, 1) := by decide +kernel
theorem dL_law_356 : decode cL_law 356 = .ok (.iload 4, 2) := by decide +kernel
theorem dL_law_358 : decode cL_law 358 = .ok (.iconst 3, 1) := by decide +kernel
theorem dL_law_359 : decode cL_law 359 = .ok (.iadd, 1) := by decide +kernel
theorem dL_law_360 : decode cL_law 360 = .ok (.iaload, 1) := by decide +kernel
theorem dL_law_361 : decode cL_law 361 = .ok (.invokevirtual 86, 3) := by decide +kernel
theorem dL_law_364 : decode cL_law 364 = .ok (.istore 6, 2) := by decide +kernel
theorem dL_law_366 : decode cL_law 366 = .ok (.aload_n 2, 1) := by decide +kernel
theorem dL_law_367 : decode cL_law 367 = .ok (.invokevirtual 80, 3) := by decide +kernel
theorem dL_law_370 : decode cL_law 370 = .ok (.iload 5, 2) := by decide +kernel
theorem dL_law_372 : decode cL_law 372 = .ok (.if_icmp .eq 5, 3) := by decide +kernel
theorem dL_law_375 : decode cL_law 375 = .ok (.iconst 0, 1) := by decide +kernel
theorem dL_law_376 : decode cL_law 376 = .ok (.ireturn, 1) := by decide +kernel
theorem dL_law_377 : decode cL_law 377 = .ok (.iload 5, 2) := by decide +kernel
theorem dL_law_379 : decode cL_law 379 = .ok (.ifCond .ne 15, 3) := by decide +kernel
theorem dL_law_382 : decode cL_law 382 = .ok (.aload_n 3, 1) := by decide +kernel
theorem dL_law_383 : decode cL_law 383 = .ok (.iconst 0, 1) := by decide +kernel
theorem dL_law_384 : decode cL_law 384 = .ok (.laload, 1) := by decide +kernel
theorem dL_law_385 : decode cL_law 385 = .ok (.iload 6, 2) := by decide +kernel
theorem dL_law_387 : decode cL_law 387 = .ok (.i2l, 1) := by decide +kernel
theorem dL_law_388 : decode cL_law 388 = .ok (.lcmp, 1) := by decide +kernel
theorem dL_law_389 : decode cL_law 389 = .ok (.ifCond .eq 5, 3) := by decide +kernel
theorem dL_law_392 : decode cL_law 392 = .ok (.iconst 0, 1) := by decide +kernel
theorem dL_law_393 : decode cL_law 393 = .ok (.ireturn, 1) := by decide +kernel
theorem dL_law_394 : decode cL_law 394 = .ok (.goto 570, 3) := by decide +kernel
theorem dL_law_397 : decode cL_law 397 = .ok (.aload_n 1, 1) := by decide +kernel
theorem dL_law_398 : decode cL_law 398 = .ok (.aload_n 0, 1) := by decide +kernel
theorem dL_law_399 : decode cL_law 399 = .ok (.iload 4, 2) := by decide +kernel
theorem dL_law_401 : decode cL_law 401 = .ok (.iconst 1, 1) := by decide +kernel
theorem dL_law_402 : decode cL_law 402 = .ok (.iadd, 1) := by decide +kernel
theorem dL_law_403 : decode cL_law 403 = .ok (.iaload, 1) := by decide +kernel
theorem dL_law_404 : decode cL_law 404 = .ok (.aload_n 3, 1) := by decide +kernel
theorem dL_law_405 : decode cL_law 405 = .ok (.invokestatic 87, 3) := by decide +kernel
theorem dL_law_408 : decode cL_law 408 = .ok (.istore 5, 2) := by decide +kernel
theorem dL_law_410 : decode cL_law 410 = .ok (.aload_n 2, 1) := by decide +kernel
theorem dL_law_411 : decode cL_law 411 = .ok (.aload_n 0, 1) := by decide +kernel
theorem dL_law_412 : decode cL_law 412 = .ok (.iload 4, 2) := by decide +kernel
theorem dL_law_414 : decode cL_law 414 = .ok (.iconst 1, 1) := by decide +kernel
theorem dL_law_415 : decode cL_law 415 = .ok (.iadd, 1) := by decide +kernel
theorem dL_law_416 : decode cL_law 416 = .ok (.iaload, 1) := by decide +kernel
theorem dL_law_417 : decode cL_law 417 = .ok (.invokevirtual 90, 3) := by decide +kernel
theorem dL_law_420 : decode cL_law 420 = .ok (.istore 6, 2) := by decide +kernel
theorem dL_law_422 : decode cL_law 422 = .ok (.aload_n 2, 1) := by decide +kernel
theorem dL_law_423 : decode cL_law 423 = .ok (.invokevirtual 80, 3) := by decide +kernel
theorem dL_law_426 : decode cL_law 426 = .ok (.iload 5, 2) := by decide +kernel
theorem dL_law_428 : decode cL_law 428 = .ok (.if_icmp .eq 5, 3) := by decide +kernel
theorem dL_law_431 : decode cL_law 431 = .ok (.iconst 0, 1) := by decide +kernel
theorem dL_law_432 : decode cL_law 432 = .ok (.ireturn, 1) := by decide +kernel
theorem dL_law_433 : decode cL_law 433 = .ok (.iload 5, 2) := by decide +kernel
theorem dL_law_435 : decode cL_law 435 = .ok (.ifCond .ne 22, 3) := by decide +kernel
theorem dL_law_438 : decode cL_law 438 = .ok (.aload_n 3, 1) := by decide +kernel
theorem dL_law_439 : decode cL_law 439 = .ok (.iconst 0, 1) := by decide +kernel
theorem dL_law_440 : decode cL_law 440 = .ok (.laload, 1) := by decide +kernel
theorem dL_law_441 : decode cL_law 441 = .ok (.iload 6, 2) := by decide +kernel
theorem dL_law_443 : decode cL_law 443 = .ok (.ifCond .eq 7, 3) := by decide +kernel
theorem dL_law_446 : decode cL_law 446 = .ok (.lconst 1, 1) := by decide +kernel
theorem dL_law_447 : decode cL_law 447 = .ok (.goto 4, 3) := by decide +kernel
theorem dL_law_450 : decode cL_law 450 = .ok (.lconst 0, 1) := by decide +kernel
theorem dL_law_451 : decode cL_law 451 = .ok (.lcmp, 1) := by decide +kernel
theorem dL_law_452 : decode cL_law 452 = .ok (.ifCond .eq 5, 3) := by decide +kernel
theorem dL_law_455 : decode cL_law 455 = .ok (.iconst 0, 1) := by decide +kernel
theorem dL_law_456 : decode cL_law 456 = .ok (.ireturn, 1) := by decide +kernel
theorem dL_law_457 : decode cL_law 457 = .ok (.goto 507, 3) := by decide +kernel
theorem dL_law_460 : decode cL_law 460 = .ok (.aload_n 1, 1) := by decide +kernel
theorem dL_law_461 : decode cL_law 461 = .ok (.aload_n 0, 1) := by decide +kernel
theorem dL_law_462 : decode cL_law 462 = .ok (.iload 4, 2) := by decide +kernel
theorem dL_law_464 : decode cL_law 464 = .ok (.iconst 1, 1) := by decide +kernel
theorem dL_law_465 : decode cL_law 465 = .ok (.iadd, 1) := by decide +kernel
theorem dL_law_466 : decode cL_law 466 = .ok (.iaload, 1) := by decide +kernel
theorem dL_law_467 : decode cL_law 467 = .ok (.aload_n 3, 1) := by decide +kernel
theorem dL_law_468 : decode cL_law 468 = .ok (.invokestatic 91, 3) := by decide +kernel
theorem dL_law_471 : decode cL_law 471 = .ok (.istore 5, 2) := by decide +kernel
theorem dL_law_473 : decode cL_law 473 = .ok (.aload_n 2, 1) := by decide +kernel
theorem dL_law_474 : decode cL_law 474 = .ok (.aload_n 0, 1) := by decide +kernel
theorem dL_law_475 : decode cL_law 475 = .ok (.iload 4, 2) := by decide +kernel
theorem dL_law_477 : decode cL_law 477 = .ok (.iconst 1, 1) := by decide +kernel
theorem dL_law_478 : decode cL_law 478 = .ok (.iadd, 1) := by decide +kernel
theorem dL_law_479 : decode cL_law 479 = .ok (.iaload, 1) := by decide +kernel
theorem dL_law_480 : decode cL_law 480 = .ok (.invokevirtual 93, 3) := by decide +kernel
theorem dL_law_483 : decode cL_law 483 = .ok (.istore 6, 2) := by decide +kernel
theorem dL_law_485 : decode cL_law 485 = .ok (.aload_n 2, 1) := by decide +kernel
theorem dL_law_486 : decode cL_law 486 = .ok (.invokevirtual 80, 3) := by decide +kernel
theorem dL_law_489 : decode cL_law 489 = .ok (.iload 5, 2) := by decide +kernel
theorem dL_law_491 : decode cL_law 491 = .ok (.if_icmp .eq 5, 3) := by decide +kernel
theorem dL_law_494 : decode cL_law 494 = .ok (.iconst 0, 1) := by decide +kernel
theorem dL_law_495 : decode cL_law 495 = .ok (.ireturn, 1) := by decide +kernel
theorem dL_law_496 : decode cL_law 496 = .ok (.iload 5, 2) := by decide +kernel
theorem dL_law_498 : decode cL_law 498 = .ok (.ifCond .ne 22, 3) := by decide +kernel
theorem dL_law_501 : decode cL_law 501 = .ok (.aload_n 3, 1) := by decide +kernel
theorem dL_law_502 : decode cL_law 502 = .ok (.iconst 0, 1) := by decide +kernel
theorem dL_law_503 : decode cL_law 503 = .ok (.laload, 1) := by decide +kernel
theorem dL_law_504 : decode cL_law 504 = .ok (.iload 6, 2) := by decide +kernel
theorem dL_law_506 : decode cL_law 506 = .ok (.ifCond .eq 7, 3) := by decide +kernel
theorem dL_law_509 : decode cL_law 509 = .ok (.lconst 1, 1) := by decide +kernel
theorem dL_law_510 : decode cL_law 510 = .ok (.goto 4, 3) := by decide +kernel
theorem dL_law_513 : decode cL_law 513 = .ok (.lconst 0, 1) := by decide +kernel
theorem dL_law_514 : decode cL_law 514 = .ok (.lcmp, 1) := by decide +kernel
theorem dL_law_515 : decode cL_law 515 = .ok (.ifCond .eq 5, 3) := by decide +kernel
theorem dL_law_518 : decode cL_law 518 = .ok (.iconst 0, 1) := by decide +kernel
theorem dL_law_519 : decode cL_law 519 = .ok (.ireturn, 1) := by decide +kernel
theorem dL_law_520 : decode cL_law 520 = .ok (.goto 444, 3) := by decide +kernel
theorem dL_law_523 : decode cL_law 523 = .ok (.aload_n 1, 1) := by decide +kernel
theorem dL_law_524 : decode cL_law 524 = .ok (.aload_n 3, 1) := by decide +kernel
theorem dL_law_525 : decode cL_law 525 = .ok (.invokestatic 94, 3) := by decide +kernel
theorem dL_law_528 : decode cL_law 528 = .ok (.istore 5, 2) := by decide +kernel
theorem dL_law_530 : decode cL_law 530 = .ok (.aload_n 2, 1) := by decide +kernel
theorem dL_law_531 : decode cL_law 531 = .ok (.invokevirtual 97, 3) := by decide +kernel
theorem dL_law_534 : decode cL_law 534 = .ok (.istore 6, 2) := by decide +kernel
theorem dL_law_536 : decode cL_law 536 = .ok (.aload_n 2, 1) := by decide +kernel
theorem dL_law_537 : decode cL_law 537 = .ok (.invokevirtual 80, 3) := by decide +kernel
theorem dL_law_540 : decode cL_law 540 = .ok (.iload 5, 2) := by decide +kernel
theorem dL_law_542 : decode cL_law 542 = .ok (.if_icmp .eq 5, 3) := by decide +kernel
theorem dL_law_545 : decode cL_law 545 = .ok (.iconst 0, 1) := by decide +kernel
theorem dL_law_546 : decode cL_law 546 = .ok (.ireturn, 1) := by decide +kernel
theorem dL_law_547 : decode cL_law 547 = .ok (.iload 5, 2) := by decide +kernel
theorem dL_law_549 : decode cL_law 549 = .ok (.ifCond .ne 15, 3) := by decide +kernel
theorem dL_law_552 : decode cL_law 552 = .ok (.aload_n 3, 1) := by decide +kernel
theorem dL_law_553 : decode cL_law 553 = .ok (.iconst 0, 1) := by decide +kernel
theorem dL_law_554 : decode cL_law 554 = .ok (.laload, 1) := by decide +kernel
theorem dL_law_555 : decode cL_law 555 = .ok (.iload 6, 2) := by decide +kernel
theorem dL_law_557 : decode cL_law 557 = .ok (.i2l, 1) := by decide +kernel
theorem dL_law_558 : decode cL_law 558 = .ok (.lcmp, 1) := by decide +kernel
theorem dL_law_559 : decode cL_law 559 = .ok (.ifCond .eq 5, 3) := by decide +kernel
theorem dL_law_562 : decode cL_law 562 = .ok (.iconst 0, 1) := by decide +kernel
theorem dL_law_563 : decode cL_law 563 = .ok (.ireturn, 1) := by decide +kernel
theorem dL_law_564 : decode cL_law 564 = .ok (.goto 400, 3) := by decide +kernel
theorem dL_law_567 : decode cL_law 567 = .ok (.aload_n 1, 1) := by decide +kernel
theorem dL_law_568 : decode cL_law 568 = .ok (.invokevirtual 98, 3) := by decide +kernel
theorem dL_law_571 : decode cL_law 571 = .ok (.aload_n 2, 1) := by decide +kernel
theorem dL_law_572 : decode cL_law 572 = .ok (.invokevirtual 101, 3) := by decide +kernel
theorem dL_law_575 : decode cL_law 575 = .ok (.if_icmp .eq 389, 3) := by decide +kernel
theorem dL_law_578 : decode cL_law 578 = .ok (.iconst 0, 1) := by decide +kernel
theorem dL_law_579 : decode cL_law 579 = .ok (.ireturn, 1) := by decide +kernel
theorem dL_law_580 : decode cL_law 580 = .ok (.aload_n 1, 1) := by decide +kernel
theorem dL_law_581 : decode cL_law 581 = .ok (.aload_n 0, 1) := by decide +kernel
theorem dL_law_582 : decode cL_law 582 = .ok (.iload 4, 2) := by decide +kernel
theorem dL_law_584 : decode cL_law 584 = .ok (.iconst 1, 1) := by decide +kernel
theorem dL_law_585 : decode cL_law 585 = .ok (.iadd, 1) := by decide +kernel
theorem dL_law_586 : decode cL_law 586 = .ok (.iaload, 1) := by decide +kernel
theorem dL_law_587 : decode cL_law 587 = .ok (.aload_n 3, 1) := by decide +kernel
theorem dL_law_588 : decode cL_law 588 = .ok (.invokestatic 102, 3) := by decide +kernel
theorem dL_law_591 : decode cL_law 591 = .ok (.istore 5, 2) := by decide +kernel
theorem dL_law_593 : decode cL_law 593 = .ok (.aload_n 2, 1) := by decide +kernel
theorem dL_law_594 : decode cL_law 594 = .ok (.aload_n 0, 1) := by decide +kernel
theorem dL_law_595 : decode cL_law 595 = .ok (.iload 4, 2) := by decide +kernel
theorem dL_law_597 : decode cL_law 597 = .ok (.iconst 1, 1) := by decide +kernel
theorem dL_law_598 : decode cL_law 598 = .ok (.iadd, 1) := by decide +kernel
theorem dL_law_599 : decode cL_law 599 = .ok (.iaload, 1) := by decide +kernel
theorem dL_law_600 : decode cL_law 600 = .ok (.invokevirtual 104, 3) := by decide +kernel
theorem dL_law_603 : decode cL_law 603 = .ok (.istore 6, 2) := by decide +kernel
theorem dL_law_605 : decode cL_law 605 = .ok (.aload_n 2, 1) := by decide +kernel
theorem dL_law_606 : decode cL_law 606 = .ok (.invokevirtual 80, 3) := by decide +kernel
theorem dL_law_609 : decode cL_law 609 = .ok (.iload 5, 2) := by decide +kernel
theorem dL_law_611 : decode cL_law 611 = .ok (.if_icmp .eq 5, 3) := by decide +kernel
theorem dL_law_614 : decode cL_law 614 = .ok (.iconst 0, 1) := by decide +kernel
theorem dL_law_615 : decode cL_law 615 = .ok (.ireturn, 1) := by decide +kernel
theorem dL_law_616 : decode cL_law 616 = .ok (.iload 5, 2) := by decide +kernel
theorem dL_law_618 : decode cL_law 618 = .ok (.ifCond .ne 15, 3) := by decide +kernel
theorem dL_law_621 : decode cL_law 621 = .ok (.aload_n 3, 1) := by decide +kernel
theorem dL_law_622 : decode cL_law 622 = .ok (.iconst 0, 1) := by decide +kernel
theorem dL_law_623 : decode cL_law 623 = .ok (.laload, 1) := by decide +kernel
theorem dL_law_624 : decode cL_law 624 = .ok (.iload 6, 2) := by decide +kernel
theorem dL_law_626 : decode cL_law 626 = .ok (.i2l, 1) := by decide +kernel
theorem dL_law_627 : decode cL_law 627 = .ok (.lcmp, 1) := by decide +kernel
theorem dL_law_628 : decode cL_law 628 = .ok (.ifCond .eq 5, 3) := by decide +kernel
theorem dL_law_631 : decode cL_law 631 = .ok (.iconst 0, 1) := by decide +kernel
theorem dL_law_632 : decode cL_law 632 = .ok (.ireturn, 1) := by decide +kernel
theorem dL_law_633 : decode cL_law 633 = .ok (.goto 331, 3) := by decide +kernel
theorem dL_law_636 : decode cL_law 636 = .ok (.aload_n 1, 1) := by decide +kernel
theorem dL_law_637 : decode cL_law 637 = .ok (.aload_n 0, 1) := by decide +kernel
theorem dL_law_638 : decode cL_law 638 = .ok (.iload 4, 2) := by decide +kernel
theorem dL_law_640 : decode cL_law 640 = .ok (.iconst 1, 1) := by decide +kernel
theorem dL_law_641 : decode cL_law 641 = .ok (.iadd, 1) := by decide +kernel
theorem dL_law_642 : decode cL_law 642 = .ok (.iaload, 1) := by decide +kernel
theorem dL_law_643 : decode cL_law 643 = .ok (.aload_n 0, 1) := by decide +kernel
theorem dL_law_644 : decode cL_law 644 = .ok (.iload 4, 2) := by decide +kernel
theorem dL_law_646 : decode cL_law 646 = .ok (.iconst 2, 1) := by decide +kernel
theorem dL_law_647 : decode cL_law 647 = .ok (.iadd, 1) := by decide +kernel
theorem dL_law_648 : decode cL_law 648 = .ok (.iaload, 1) := by decide +kernel
theorem dL_law_649 : decode cL_law 649 = .ok (.aload_n 3, 1) := by decide +kernel
theorem dL_law_650 : decode cL_law 650 = .ok (.invokestatic 105, 3) := by decide +kernel
theorem dL_law_653 : decode cL_law 653 = .ok (.istore 5, 2) := by decide +kernel
theorem dL_law_655 : decode cL_law 655 = .ok (.aload_n 2, 1) := by decide +kernel
theorem dL_law_656 : decode cL_law 656 = .ok (.aload_n 0, 1) := by decide +kernel
theorem dL_law_657 : decode cL_law 657 = .ok (.iload 4, 2) := by decide +kernel
theorem dL_law_659 : decode cL_law 659 = .ok (.iconst 1, 1) := by decide +kernel
theorem dL_law_660 : decode cL_law 660 = .ok (.iadd, 1) := by decide +kernel
theorem dL_law_661 : decode cL_law 661 = .ok (.iaload, 1) := by decide +kernel
theorem dL_law_662 : decode cL_law 662 = .ok (.aload_n 0, 1) := by decide +kernel
theorem dL_law_663 : decode cL_law 663 = .ok (.iload 4, 2) := by decide +kernel
theorem dL_law_665 : decode cL_law 665 = .ok (.iconst 2, 1) := by decide +kernel
theorem dL_law_666 : decode cL_law 666 = .ok (.iadd, 1) := by decide +kernel
theorem dL_law_667 : decode cL_law 667 = .ok (.iaload, 1) := by decide +kernel
theorem dL_law_668 : decode cL_law 668 = .ok (.invokevirtual 108, 3) := by decide +kernel
theorem dL_law_671 : decode cL_law 671 = .ok (.istore 6, 2) := by decide +kernel
theorem dL_law_673 : decode cL_law 673 = .ok (.aload_n 2, 1) := by decide +kernel
theorem dL_law_674 : decode cL_law 674 = .ok (.invokevirtual 80, 3) := by decide +kernel
theorem dL_law_677 : decode cL_law 677 = .ok (.iload 5, 2) := by decide +kernel
theorem dL_law_679 : decode cL_law 679 = .ok (.if_icmp .eq 5, 3) := by decide +kernel
theorem dL_law_682 : decode cL_law 682 = .ok (.iconst 0, 1) := by decide +kernel
theorem dL_law_683 : decode cL_law 683 = .ok (.ireturn, 1) := by decide +kernel
theorem dL_law_684 : decode cL_law 684 = .ok (.iload 5, 2) := by decide +kernel
theorem dL_law_686 : decode cL_law 686 = .ok (.ifCond .ne 15, 3) := by decide +kernel
theorem dL_law_689 : decode cL_law 689 = .ok (.aload_n 3, 1) := by decide +kernel
theorem dL_law_690 : decode cL_law 690 = .ok (.iconst 0, 1) := by decide +kernel
theorem dL_law_691 : decode cL_law 691 = .ok (.laload, 1) := by decide +kernel
theorem dL_law_692 : decode cL_law 692 = .ok (.iload 6, 2) := by decide +kernel
theorem dL_law_694 : decode cL_law 694 = .ok (.i2l, 1) := by decide +kernel
theorem dL_law_695 : decode cL_law 695 = .ok (.lcmp, 1) := by decide +kernel
theorem dL_law_696 : decode cL_law 696 = .ok (.ifCond .eq 5, 3) := by decide +kernel
theorem dL_law_699 : decode cL_law 699 = .ok (.iconst 0, 1) := by decide +kernel
theorem dL_law_700 : decode cL_law 700 = .ok (.ireturn, 1) := by decide +kernel
theorem dL_law_701 : decode cL_law 701 = .ok (.goto 263, 3) := by decide +kernel
theorem dL_law_704 : decode cL_law 704 = .ok (.aload_n 1, 1) := by decide +kernel
theorem dL_law_705 : decode cL_law 705 = .ok (.aload_n 0, 1) := by decide +kernel
theorem dL_law_706 : decode cL_law 706 = .ok (.iload 4, 2) := by decide +kernel
theorem dL_law_708 : decode cL_law 708 = .ok (.iconst 1, 1) := by decide +kernel
theorem dL_law_709 : decode cL_law 709 = .ok (.iadd, 1) := by decide +kernel
theorem dL_law_710 : decode cL_law 710 = .ok (.iaload, 1) := by decide +kernel
theorem dL_law_711 : decode cL_law 711 = .ok (.aload_n 3, 1) := by decide +kernel
theorem dL_law_712 : decode cL_law 712 = .ok (.invokestatic 109, 3) := by decide +kernel
theorem dL_law_715 : decode cL_law 715 = .ok (.istore 5, 2) := by decide +kernel
theorem dL_law_717 : decode cL_law 717 = .ok (.aload_n 2, 1) := by decide +kernel
theorem dL_law_718 : decode cL_law 718 = .ok (.aload_n 0, 1) := by decide +kernel
theorem dL_law_719 : decode cL_law 719 = .ok (.iload 4, 2) := by decide +kernel
theorem dL_law_721 : decode cL_law 721 = .ok (.iconst 1, 1) := by decide +kernel
theorem dL_law_722 : decode cL_law 722 = .ok (.iadd, 1) := by decide +kernel
theorem dL_law_723 : decode cL_law 723 = .ok (.iaload, 1) := by decide +kernel
theorem dL_law_724 : decode cL_law 724 = .ok (.invokevirtual 111, 3) := by decide +kernel
theorem dL_law_727 : decode cL_law 727 = .ok (.istore 6, 2) := by decide +kernel
theorem dL_law_729 : decode cL_law 729 = .ok (.aload_n 2, 1) := by decide +kernel
theorem dL_law_730 : decode cL_law 730 = .ok (.invokevirtual 80, 3) := by decide +kernel
theorem dL_law_733 : decode cL_law 733 = .ok (.iload 5, 2) := by decide +kernel
theorem dL_law_735 : decode cL_law 735 = .ok (.if_icmp .eq 5, 3) := by decide +kernel
theorem dL_law_738 : decode cL_law 738 = .ok (.iconst 0, 1) := by decide +kernel
theorem dL_law_739 : decode cL_law 739 = .ok (.ireturn, 1) := by decide +kernel
theorem dL_law_740 : decode cL_law 740 = .ok (.iload 5, 2) := by decide +kernel
theorem dL_law_742 : decode cL_law 742 = .ok (.ifCond .ne 15, 3) := by decide +kernel
theorem dL_law_745 : decode cL_law 745 = .ok (.aload_n 3, 1) := by decide +kernel
theorem dL_law_746 : decode cL_law 746 = .ok (.iconst 0, 1) := by decide +kernel
theorem dL_law_747 : decode cL_law 747 = .ok (.laload, 1) := by decide +kernel
theorem dL_law_748 : decode cL_law 748 = .ok (.iload 6, 2) := by decide +kernel
theorem dL_law_750 : decode cL_law 750 = .ok (.i2l, 1) := by decide +kernel
theorem dL_law_751 : decode cL_law 751 = .ok (.lcmp, 1) := by decide +kernel
theorem dL_law_752 : decode cL_law 752 = .ok (.ifCond .eq 5, 3) := by decide +kernel
theorem dL_law_755 : decode cL_law 755 = .ok (.iconst 0, 1) := by decide +kernel
theorem dL_law_756 : decode cL_law 756 = .ok (.ireturn, 1) := by decide +kernel
theorem dL_law_757 : decode cL_law 757 = .ok (.goto 207, 3) := by decide +kernel
theorem dL_law_760 : decode cL_law 760 = .ok (.aload_n 1, 1) := by decide +kernel
theorem dL_law_761 : decode cL_law 761 = .ok (.aload_n 0, 1) := by decide +kernel
theorem dL_law_762 : decode cL_law 762 = .ok (.iload 4, 2) := by decide +kernel
theorem dL_law_764 : decode cL_law 764 = .ok (.iconst 1, 1) := by decide +kernel
theorem dL_law_765 : decode cL_law 765 = .ok (.iadd, 1) := by decide +kernel
theorem dL_law_766 : decode cL_law 766 = .ok (.iaload, 1) := by decide +kernel
theorem dL_law_767 : decode cL_law 767 = .ok (.aload_n 0, 1) := by decide +kernel
theorem dL_law_768 : decode cL_law 768 = .ok (.iload 4, 2) := by decide +kernel
theorem dL_law_770 : decode cL_law 770 = .ok (.iconst 2, 1) := by decide +kernel
theorem dL_law_771 : decode cL_law 771 = .ok (.iadd, 1) := by decide +kernel
theorem dL_law_772 : decode cL_law 772 = .ok (.iaload, 1) := by decide +kernel
theorem dL_law_773 : decode cL_law 773 = .ok (.aload_n 0, 1) := by decide +kernel
theorem dL_law_774 : decode cL_law 774 = .ok (.iload 4, 2) := by decide +kernel
theorem dL_law_776 : decode cL_law 776 = .ok (.iconst 3, 1) := by decide +kernel
theorem dL_law_777 : decode cL_law 777 = .ok (.iadd, 1) := by decide +kernel
theorem dL_law_778 : decode cL_law 778 = .ok (.iaload, 1) := by decide +kernel
theorem dL_law_779 : decode cL_law 779 = .ok (.aload_n 0, 1) := by decide +kernel
theorem dL_law_780 : decode cL_law 780 = .ok (.iload 4, 2) := by decide +kernel
theorem dL_law_782 : decode cL_law 782 = .ok (.iconst 4, 1) := by decide +kernel
theorem dL_law_783 : decode cL_law 783 = .ok (.iadd, 1) := by decide +kernel
theorem dL_law_784 : decode cL_law 784 = .ok (.iaload, 1) := by decide +kernel
theorem dL_law_785 : decode cL_law 785 = .ok (.aload_n 3, 1) := by decide +kernel
theorem dL_law_786 : decode cL_law 786 = .ok (.invokestatic 112, 3) := by decide +kernel
theorem dL_law_789 : decode cL_law 789 = .ok (.istore 5, 2) := by decide +kernel
theorem dL_law_791 : decode cL_law 791 = .ok (.aload_n 2, 1) := by decide +kernel
theorem dL_law_792 : decode cL_law 792 = .ok (.aload_n 0, 1) := by decide +kernel
theorem dL_law_793 : decode cL_law 793 = .ok (.iload 4, 2) := by decide +kernel
theorem dL_law_795 : decode cL_law 795 = .ok (.iconst 1, 1) := by decide +kernel
theorem dL_law_796 : decode cL_law 796 = .ok (.iadd, 1) := by decide +kernel
theorem dL_law_797 : decode cL_law 797 = .ok (.iaload, 1) := by decide +kernel
theorem dL_law_798 : decode cL_law 798 = .ok (.aload_n 0, 1) := by decide +kernel
theorem dL_law_799 : decode cL_law 799 = .ok (.iload 4, 2) := by decide +kernel
theorem dL_law_801 : decode cL_law 801 = .ok (.iconst 2, 1) := by decide +kernel
theorem dL_law_802 : decode cL_law 802 = .ok (.iadd, 1) := by decide +kernel
theorem dL_law_803 : decode cL_law 803 = .ok (.iaload, 1) := by decide +kernel
theorem dL_law_804 : decode cL_law 804 = .ok (.aload_n 0, 1) := by decide +kernel
theorem dL_law_805 : decode cL_law 805 = .ok (.iload 4, 2) := by decide +kernel
theorem dL_law_807 : decode cL_law 807 = .ok (.iconst 3, 1) := by decide +kernel
theorem dL_law_808 : decode cL_law 808 = .ok (.iadd, 1) := by decide +kernel
theorem dL_law_809 : decode cL_law 809 = .ok (.iaload, 1) := by decide +kernel
theorem dL_law_810 : decode cL_law 810 = .ok (.aload_n 0, 1) := by decide +kernel
theorem dL_law_811 : decode cL_law 811 = .ok (.iload 4, 2) := by decide +kernel
theorem dL_law_813 : decode cL_law 813 = .ok (.iconst 4, 1) := by decide +kernel
theorem dL_law_814 : decode cL_law 814 = .ok (.iadd, 1) := by decide +kernel
theorem dL_law_815 : decode cL_law 815 = .ok (.iaload, 1) := by decide +kernel
theorem dL_law_816 : decode cL_law 816 = .ok (.invokevirtual 115, 3) := by decide +kernel
theorem dL_law_819 : decode cL_law 819 = .ok (.istore 6, 2) := by decide +kernel
theorem dL_law_821 : decode cL_law 821 = .ok (.aload_n 2, 1) := by decide +kernel
theorem dL_law_822 : decode cL_law 822 = .ok (.invokevirtual 80, 3) := by decide +kernel
theorem dL_law_825 : decode cL_law 825 = .ok (.iload 5, 2) := by decide +kernel
theorem dL_law_827 : decode cL_law 827 = .ok (.if_icmp .eq 5, 3) := by decide +kernel
theorem dL_law_830 : decode cL_law 830 = .ok (.iconst 0, 1) := by decide +kernel
theorem dL_law_831 : decode cL_law 831 = .ok (.ireturn, 1) := by decide +kernel
theorem dL_law_832 : decode cL_law 832 = .ok (.iload 5, 2) := by decide +kernel
theorem dL_law_834 : decode cL_law 834 = .ok (.ifCond .ne 15, 3) := by decide +kernel
theorem dL_law_837 : decode cL_law 837 = .ok (.aload_n 3, 1) := by decide +kernel
theorem dL_law_838 : decode cL_law 838 = .ok (.iconst 0, 1) := by decide +kernel
theorem dL_law_839 : decode cL_law 839 = .ok (.laload, 1) := by decide +kernel
theorem dL_law_840 : decode cL_law 840 = .ok (.iload 6, 2) := by decide +kernel
theorem dL_law_842 : decode cL_law 842 = .ok (.i2l, 1) := by decide +kernel
theorem dL_law_843 : decode cL_law 843 = .ok (.lcmp, 1) := by decide +kernel
theorem dL_law_844 : decode cL_law 844 = .ok (.ifCond .eq 5, 3) := by decide +kernel
theorem dL_law_847 : decode cL_law 847 = .ok (.iconst 0, 1) := by decide +kernel
theorem dL_law_848 : decode cL_law 848 = .ok (.ireturn, 1) := by decide +kernel
theorem dL_law_849 : decode cL_law 849 = .ok (.goto 115, 3) := by decide +kernel
theorem dL_law_852 : decode cL_law 852 = .ok (.aload_n 1, 1) := by decide +kernel
theorem dL_law_853 : decode cL_law 853 = .ok (.aload_n 0, 1) := by decide +kernel
theorem dL_law_854 : decode cL_law 854 = .ok (.iload 4, 2) := by decide +kernel
theorem dL_law_856 : decode cL_law 856 = .ok (.iconst 1, 1) := by decide +kernel
theorem dL_law_857 : decode cL_law 857 = .ok (.iadd, 1) := by decide +kernel
theorem dL_law_858 : decode cL_law 858 = .ok (.iaload, 1) := by decide +kernel
theorem dL_law_859 : decode cL_law 859 = .ok (.aload_n 3, 1) := by decide +kernel
theorem dL_law_860 : decode cL_law 860 = .ok (.invokestatic 116, 3) := by decide +kernel
theorem dL_law_863 : decode cL_law 863 = .ok (.istore 5, 2) := by decide +kernel
theorem dL_law_865 : decode cL_law 865 = .ok (.aload_n 2, 1) := by decide +kernel
theorem dL_law_866 : decode cL_law 866 = .ok (.aload_n 0, 1) := by decide +kernel
theorem dL_law_867 : decode cL_law 867 = .ok (.iload 4, 2) := by decide +kernel
theorem dL_law_869 : decode cL_law 869 = .ok (.iconst 1, 1) := by decide +kernel
theorem dL_law_870 : decode cL_law 870 = .ok (.iadd, 1) := by decide +kernel
theorem dL_law_871 : decode cL_law 871 = .ok (.iaload, 1) := by decide +kernel
theorem dL_law_872 : decode cL_law 872 = .ok (.invokevirtual 118, 3) := by decide +kernel
theorem dL_law_875 : decode cL_law 875 = .ok (.istore 6, 2) := by decide +kernel
theorem dL_law_877 : decode cL_law 877 = .ok (.aload_n 2, 1) := by decide +kernel
theorem dL_law_878 : decode cL_law 878 = .ok (.invokevirtual 80, 3) := by decide +kernel
theorem dL_law_881 : decode cL_law 881 = .ok (.iload 5, 2) := by decide +kernel
theorem dL_law_883 : decode cL_law 883 = .ok (.if_icmp .eq 5, 3) := by decide +kernel
theorem dL_law_886 : decode cL_law 886 = .ok (.iconst 0, 1) := by decide +kernel
theorem dL_law_887 : decode cL_law 887 = .ok (.ireturn, 1) := by decide +kernel
theorem dL_law_888 : decode cL_law 888 = .ok (.iload 5, 2) := by decide +kernel
theorem dL_law_890 : decode cL_law 890 = .ok (.ifCond .ne 15, 3) := by decide +kernel
theorem dL_law_893 : decode cL_law 893 = .ok (.aload_n 3, 1) := by decide +kernel
theorem dL_law_894 : decode cL_law 894 = .ok (.iconst 0, 1) := by decide +kernel
theorem dL_law_895 : decode cL_law 895 = .ok (.laload, 1) := by decide +kernel
theorem dL_law_896 : decode cL_law 896 = .ok (.iload 6, 2) := by decide +kernel
theorem dL_law_898 : decode cL_law 898 = .ok (.i2l, 1) := by decide +kernel
theorem dL_law_899 : decode cL_law 899 = .ok (.lcmp, 1) := by decide +kernel
theorem dL_law_900 : decode cL_law 900 = .ok (.ifCond .eq 5, 3) := by decide +kernel
theorem dL_law_903 : decode cL_law 903 = .ok (.iconst 0, 1) := by decide +kernel
theorem dL_law_904 : decode cL_law 904 = .ok (.ireturn, 1) := by decide +kernel
theorem dL_law_905 : decode cL_law 905 = .ok (.goto 59, 3) := by decide +kernel
theorem dL_law_908 : decode cL_law 908 = .ok (.aload_n 1, 1) := by decide +kernel
theorem dL_law_909 : decode cL_law 909 = .ok (.aload_n 0, 1) := by decide +kernel
theorem dL_law_910 : decode cL_law 910 = .ok (.iload 4, 2) := by decide +kernel
theorem dL_law_912 : decode cL_law 912 = .ok (.iconst 1, 1) := by decide +kernel
theorem dL_law_913 : decode cL_law 913 = .ok (.iadd, 1) := by decide +kernel
theorem dL_law_914 : decode cL_law 914 = .ok (.iaload, 1) := by decide +kernel
theorem dL_law_915 : decode cL_law 915 = .ok (.aload_n 3, 1) := by decide +kernel
theorem dL_law_916 : decode cL_law 916 = .ok (.invokestatic 119, 3) := by decide +kernel
theorem dL_law_919 : decode cL_law 919 = .ok (.istore 5, 2) := by decide +kernel
theorem dL_law_921 : decode cL_law 921 = .ok (.aload_n 2, 1) := by decide +kernel
theorem dL_law_922 : decode cL_law 922 = .ok (.aload_n 0, 1) := by decide +kernel
theorem dL_law_923 : decode cL_law 923 = .ok (.iload 4, 2) := by decide +kernel
theorem dL_law_925 : decode cL_law 925 = .ok (.iconst 1, 1) := by decide +kernel
theorem dL_law_926 : decode cL_law 926 = .ok (.iadd, 1) := by decide +kernel
theorem dL_law_927 : decode cL_law 927 = .ok (.iaload, 1) := by decide +kernel
theorem dL_law_928 : decode cL_law 928 = .ok (.invokevirtual 121, 3) := by decide +kernel
theorem dL_law_931 : decode cL_law 931 = .ok (.istore 6, 2) := by decide +kernel
theorem dL_law_933 : decode cL_law 933 = .ok (.aload_n 2, 1) := by decide +kernel
theorem dL_law_934 : decode cL_law 934 = .ok (.invokevirtual 80, 3) := by decide +kernel
theorem dL_law_937 : decode cL_law 937 = .ok (.iload 5, 2) := by decide +kernel
theorem dL_law_939 : decode cL_law 939 = .ok (.if_icmp .eq 5, 3) := by decide +kernel
theorem dL_law_942 : decode cL_law 942 = .ok (.iconst 0, 1) := by decide +kernel
theorem dL_law_943 : decode cL_law 943 = .ok (.ireturn, 1) := by decide +kernel
theorem dL_law_944 : decode cL_law 944 = .ok (.iload 5, 2) := by decide +kernel
theorem dL_law_946 : decode cL_law 946 = .ok (.ifCond .ne 15, 3) := by decide +kernel
theorem dL_law_949 : decode cL_law 949 = .ok (.aload_n 3, 1) := by decide +kernel
theorem dL_law_950 : decode cL_law 950 = .ok (.iconst 0, 1) := by decide +kernel
theorem dL_law_951 : decode cL_law 951 = .ok (.laload, 1) := by decide +kernel
theorem dL_law_952 : decode cL_law 952 = .ok (.iload 6, 2) := by decide +kernel
theorem dL_law_954 : decode cL_law 954 = .ok (.i2l, 1) := by decide +kernel
theorem dL_law_955 : decode cL_law 955 = .ok (.lcmp, 1) := by decide +kernel
theorem dL_law_956 : decode cL_law 956 = .ok (.ifCond .eq 5, 3) := by decide +kernel
theorem dL_law_959 : decode cL_law 959 = .ok (.iconst 0, 1) := by decide +kernel
theorem dL_law_960 : decode cL_law 960 = .ok (.ireturn, 1) := by decide +kernel
theorem dL_law_961 : decode cL_law 961 = .ok (.goto 3, 3) := by decide +kernel
theorem dL_law_964 : decode cL_law 964 = .ok (.iinc 4 5, 3) := by decide +kernel
theorem dL_law_967 : decode cL_law 967 = .ok (.goto (-944), 3) := by decide +kernel
theorem dL_law_970 : decode cL_law 970 = .ok (.iconst 1, 1) := by decide +kernel
theorem dL_law_971 : decode cL_law 971 = .ok (.ireturn, 1) := by decide +kernel
end
section
theorem dX7_init_0 : decode cX7_init 0 = .ok (.aload_n 0, 1) := by decide +kernel
theorem dX7_init_1 : decode cX7_init 1 = .ok (.invokespecial 1, 3) := by decide +kernel
theorem dX7_init_4 : decode cX7_init 4 = .ok (.aload_n 0, 1) := by decide +kernel
theorem dX7_init_5 : decode cX7_init 5 = .ok (.sipush 400, 3) := by decide +kernel
theorem dX7_init_8 : decode cX7_init 8 = .ok (.newarray .int, 2) := by decide +kernel
theorem dX7_init_10 : decode cX7_init 10 = .ok (.putfield 7, 3) := by decide +kernel
theorem dX7_init_13 : decode cX7_init 13 = .ok (.aload_n 0, 1) := by decide +kernel
theorem dX7_init_14 : decode cX7_init 14 = .ok (.iconst 4, 1) := by decide +kernel
theorem dX7_init_15 : decode cX7_init 15 = .ok (.newarray .int, 2) := by decide +kernel
theorem dX7_init_17 : decode cX7_init 17 = .ok (.putfield 13, 3) := by decide +kernel
theorem dX7_init_20 : decode cX7_init 20 = .ok (.aload_n 0, 1) := by decide +kernel
theorem dX7_init_21 : decode cX7_init 21 = .ok (.bipush 96, 2) := by decide +kernel
theorem dX7_init_23 : decode cX7_init 23 = .ok (.newarray .int, 2) := by decide +kernel
theorem dX7_init_25 : decode cX7_init 25 = .ok (.putfield 16, 3) := by decide +kernel
theorem dX7_init_28 : decode cX7_init 28 = .ok (.aload_n 0, 1) := by decide +kernel
theorem dX7_init_29 : decode cX7_init 29 = .ok (.bipush 96, 2) := by decide +kernel
theorem dX7_init_31 : decode cX7_init 31 = .ok (.newarray .boolean, 2) := by decide +kernel
theorem dX7_init_33 : decode cX7_init 33 = .ok (.putfield 19, 3) := by decide +kernel
theorem dX7_init_36 : decode cX7_init 36 = .ok (.aload_n 0, 1) := by decide +kernel
theorem dX7_init_37 : decode cX7_init 37 = .ok (.bipush 96, 2) := by decide +kernel
theorem dX7_init_39 : decode cX7_init 39 = .ok (.newarray .int, 2) := by decide +kernel
theorem dX7_init_41 : decode cX7_init 41 = .ok (.putfield 23, 3) := by decide +kernel
theorem dX7_init_44 : decode cX7_init 44 = .ok (.aload_n 0, 1) := by decide +kernel
theorem dX7_init_45 : decode cX7_init 45 = .ok (.bipush 96, 2) := by decide +kernel
theorem dX7_init_47 : decode cX7_init 47 = .ok (.newarray .int, 2) := by decide +kernel
theorem dX7_init_49 : decode cX7_init 49 = .ok (.putfield 26, 3) := by decide +kernel
theorem dX7_init_52 : decode cX7_init 52 = .ok (.aload_n 0, 1) := by decide +kernel
theorem dX7_init_53 : decode cX7_init 53 = .ok (.iconst 4, 1) := by decide +kernel
theorem dX7_init_54 : decode cX7_init 54 = .ok (.newarray .int, 2) := by decide +kernel
theorem dX7_init_56 : decode cX7_init 56 = .ok (.putfield 29, 3) := by decide +kernel
theorem dX7_init_59 : decode cX7_init 59 = .ok (.aload_n 0, 1) := by decide +kernel
theorem dX7_init_60 : decode cX7_init 60 = .ok (.iconst (-1), 1) := by decide +kernel
theorem dX7_init_61 : decode cX7_init 61 = .ok (.putfield 32, 3) := by decide +kernel
theorem dX7_init_64 : decode cX7_init 64 = .ok (.aload_n 0, 1) := by decide +kernel
theorem dX7_init_65 : decode cX7_init 65 = .ok (.bipush 41, 2) := by decide +kernel
theorem dX7_init_67 : decode cX7_init 67 = .ok (.newarray .int, 2) := by decide +kernel
theorem dX7_init_69 : decode cX7_init 69 = .ok (.putfield 36, 3) := by decide +kernel
theorem dX7_init_72 : decode cX7_init 72 = .ok (.aload_n 0, 1) := by decide +kernel
theorem dX7_init_73 : decode cX7_init 73 = .ok (.bipush 42, 2) := by decide +kernel
theorem dX7_init_75 : decode cX7_init 75 = .ok (.newarray .int, 2) := by decide +kernel
theorem dX7_init_77 : decode cX7_init 77 = .ok (.putfield 39, 3) := by decide +kernel
theorem dX7_init_80 : decode cX7_init 80 = .ok (.aload_n 0, 1) := by decide +kernel
theorem dX7_init_81 : decode cX7_init 81 = .ok (.bipush 124, 2) := by decide +kernel
theorem dX7_init_83 : decode cX7_init 83 = .ok (.newarray .int, 2) := by decide +kernel
theorem dX7_init_85 : decode cX7_init 85 = .ok (.putfield 42, 3) := by decide +kernel
theorem dX7_init_88 : decode cX7_init 88 = .ok (.aload_n 0, 1) := by decide +kernel
theorem dX7_init_89 : decode cX7_init 89 = .ok (.bipush 124, 2) := by decide +kernel
theorem dX7_init_91 : decode cX7_init 91 = .ok (.newarray .int, 2) := by decide +kernel
theorem dX7_init_93 : decode cX7_init 93 = .ok (.putfield 45, 3) := by decide +kernel
theorem dX7_init_96 : decode cX7_init 96 = .ok (.aload_n 0, 1) := by decide +kernel
theorem dX7_init_97 : decode cX7_init 97 = .ok (.sipush 400, 3) := by decide +kernel
theorem dX7_init_100 : decode cX7_init 100 = .ok (.newarray .int, 2) := by decide +kernel
theorem dX7_init_102 : decode cX7_init 102 = .ok (.putfield 48, 3) := by decide +kernel
theorem dX7_init_105 : decode cX7_init 105 = .ok (.aload_n 0, 1) := by decide +kernel
theorem dX7_init_106 : decode cX7_init 106 = .ok (.bipush 41, 2) := by decide +kernel
theorem dX7_init_108 : decode cX7_init 108 = .ok (.newarray .int, 2) := by decide +kernel
theorem dX7_init_110 : decode cX7_init 110 = .ok (.putfield 51, 3) := by decide +kernel
theorem dX7_init_113 : decode cX7_init 113 = .ok (.aload_n 0, 1) := by decide +kernel
theorem dX7_init_114 : decode cX7_init 114 = .ok (.bipush 42, 2) := by decide +kernel
theorem dX7_init_116 : decode cX7_init 116 = .ok (.newarray .int, 2) := by decide +kernel
theorem dX7_init_118 : decode cX7_init 118 = .ok (.putfield 54, 3) := by decide +kernel
theorem dX7_init_121 : decode cX7_init 121 = .ok (.aload_n 0, 1) := by decide +kernel
theorem dX7_init_122 : decode cX7_init 122 = .ok (.bipush 124, 2) := by decide +kernel
theorem dX7_init_124 : decode cX7_init 124 = .ok (.newarray .int, 2) := by decide +kernel
theorem dX7_init_126 : decode cX7_init 126 = .ok (.putfield 57, 3) := by decide +kernel
theorem dX7_init_129 : decode cX7_init 129 = .ok (.aload_n 0, 1) := by decide +kernel
theorem dX7_init_130 : decode cX7_init 130 = .ok (.bipush 124, 2) := by decide +kernel
theorem dX7_init_132 : decode cX7_init 132 = .ok (.newarray .int, 2) := by decide +kernel
theorem dX7_init_134 : decode cX7_init 134 = .ok (.putfield 60, 3) := by decide +kernel
theorem dX7_init_137 : decode cX7_init 137 = .ok (.aload_n 0, 1) := by decide +kernel
theorem dX7_init_138 : decode cX7_init 138 = .ok (.sipush 400, 3) := by decide +kernel
theorem dX7_init_141 : decode cX7_init 141 = .ok (.newarray .int, 2) := by decide +kernel
theorem dX7_init_143 : decode cX7_init 143 = .ok (.putfield 63, 3) := by decide +kernel
theorem dX7_init_146 : decode cX7_init 146 = .ok (.aload_n 0, 1) := by decide +kernel
theorem dX7_init_147 : decode cX7_init 147 = .ok (.bipush 20, 2) := by decide +kernel
theorem dX7_init_149 : decode cX7_init 149 = .ok (.newarray .int, 2) := by decide +kernel
theorem dX7_init_151 : decode cX7_init 151 = .ok (.putfield 66, 3) := by decide +kernel
theorem dX7_init_154 : decode cX7_init 154 = .ok (.aload_n 0, 1) := by decide +kernel
theorem dX7_init_155 : decode cX7_init 155 = .ok (.bipush 20, 2) := by decide +kernel
theorem dX7_init_157 : decode cX7_init 157 = .ok (.newarray .int, 2) := by decide +kernel
theorem dX7_init_159 : decode cX7_init 159 = .ok (.putfield 69, 3) := by decide +kernel
theorem dX7_init_162 : decode cX7_init 162 = .ok (.aload_n 0, 1) := by decide +kernel
theorem dX7_init_163 : decode cX7_init 163 = .ok (.bipush 20, 2) := by decide +kernel
theorem dX7_init_165 : decode cX7_init 165 = .ok (.newarray .int, 2) := by decide +kernel
theorem dX7_init_167 : decode cX7_init 167 = .ok (.putfield 72, 3) := by decide +kernel
theorem dX7_init_170 : decode cX7_init 170 = .ok (.aload_n 0, 1) := by decide +kernel
theorem dX7_init_171 : decode cX7_init 171 = .ok (.bipush 20, 2) := by decide +kernel
theorem dX7_init_173 : decode cX7_init 173 = .ok (.newarray .int, 2) := by decide +kernel
theorem dX7_init_175 : decode cX7_init 175 = .ok (.putfield 75, 3) := by decide +kernel
theorem dX7_init_178 : decode cX7_init 178 = .ok (.aload_n 0, 1) := by decide +kernel
theorem dX7_init_179 : decode cX7_init 179 = .ok (.bipush 20, 2) := by decide +kernel
theorem dX7_init_181 : decode cX7_init 181 = .ok (.newarray .int, 2) := by decide +kernel
theorem dX7_init_183 : decode cX7_init 183 = .ok (.putfield 78, 3) := by decide +kernel
theorem dX7_init_186 : decode cX7_init 186 = .ok (.aload_n 0, 1) := by decide +kernel
theorem dX7_init_187 : decode cX7_init 187 = .ok (.bipush 20, 2) := by decide +kernel
theorem dX7_init_189 : decode cX7_init 189 = .ok (.newarray .int, 2) := by decide +kernel
theorem dX7_init_191 : decode cX7_init 191 = .ok (.putfield 81, 3) := by decide +kernel
theorem dX7_init_194 : decode cX7_init 194 = .ok (.aload_n 0, 1) := by decide +kernel
theorem dX7_init_195 : decode cX7_init 195 = .ok (.bipush 20, 2) := by decide +kernel
theorem dX7_init_197 : decode cX7_init 197 = .ok (.newarray .int, 2) := by decide +kernel
theorem dX7_init_199 : decode cX7_init 199 = .ok (.putfield 84, 3) := by decide +kernel
theorem dX7_init_202 : decode cX7_init 202 = .ok (.aload_n 0, 1) := by decide +kernel
theorem dX7_init_203 : decode cX7_init 203 = .ok (.bipush 20, 2) := by decide +kernel
theorem dX7_init_205 : decode cX7_init 205 = .ok (.newarray .int, 2) := by decide +kernel
theorem dX7_init_207 : decode cX7_init 207 = .ok (.putfield 87, 3) := by decide +kernel
theorem dX7_init_210 : decode cX7_init 210 = .ok (.aload_n 0, 1) := by decide +kernel
theorem dX7_init_211 : decode cX7_init 211 = .ok (.iconst 4, 1) := by decide +kernel
theorem dX7_init_212 : decode cX7_init 212 = .ok (.newarray .int, 2) := by decide +kernel
theorem dX7_init_214 : decode cX7_init 214 = .ok (.putfield 90, 3) := by decide +kernel
theorem dX7_init_217 : decode cX7_init 217 = .ok (.aload_n 0, 1) := by decide +kernel
theorem dX7_init_218 : decode cX7_init 218 = .ok (.iconst 4, 1) := by decide +kernel
theorem dX7_init_219 : decode cX7_init 219 = .ok (.newarray .int, 2) := by decide +kernel
theorem dX7_init_221 : decode cX7_init 221 = .ok (.putfield 93, 3) := by decide +kernel
theorem dX7_init_224 : decode cX7_init 224 = .ok (.aload_n 0, 1) := by decide +kernel
theorem dX7_init_225 : decode cX7_init 225 = .ok (.sipush 1200, 3) := by decide +kernel
theorem dX7_init_228 : decode cX7_init 228 = .ok (.newarray .int, 2) := by decide +kernel
theorem dX7_init_230 : decode cX7_init 230 = .ok (.putfield 96, 3) := by decide +kernel
theorem dX7_init_233 : decode cX7_init 233 = .ok (.aload_n 0, 1) := by decide +kernel
theorem dX7_init_234 : decode cX7_init 234 = .ok (.sipush 2400, 3) := by decide +kernel
theorem dX7_init_237 : decode cX7_init 237 = .ok (.newarray .int, 2) := by decide +kernel
theorem dX7_init_239 : decode cX7_init 239 = .ok (.putfield 99, 3) := by decide +kernel
theorem dX7_init_242 : decode cX7_init 242 = .ok (.iconst 0, 1) := by decide +kernel
theorem dX7_init_243 : decode cX7_init 243 = .ok (.istore_n 1, 1) := by decide +kernel
theorem dX7_init_244 : decode cX7_init 244 = .ok (.iload_n 1, 1) := by decide +kernel
theorem dX7_init_245 : decode cX7_init 245 = .ok (.iconst 4, 1) := by decide +kernel
theorem dX7_init_246 : decode cX7_init 246 = .ok (.if_icmp .ge 16, 3) := by decide +kernel
theorem dX7_init_249 : decode cX7_init 249 = .ok (.aload_n 0, 1) := by decide +kernel
theorem dX7_init_250 : decode cX7_init 250 = .ok (.getfield 29, 3) := by decide +kernel
theorem dX7_init_253 : decode cX7_init 253 = .ok (.iload_n 1, 1) := by decide +kernel
theorem dX7_init_254 : decode cX7_init 254 = .ok (.iconst (-1), 1) := by decide +kernel
theorem dX7_init_255 : decode cX7_init 255 = .ok (.iastore, 1) := by decide +kernel
theorem dX7_init_256 : decode cX7_init 256 = .ok (.iinc 1 1, 3) := by decide +kernel
theorem dX7_init_259 : decode cX7_init 259 = .ok (.goto (-15), 3) := by decide +kernel
theorem dX7_init_262 : decode cX7_init 262 = .ok (.return_, 1) := by decide +kernel
theorem dX7_thrown_0 : decode cX7_thrown 0 = .ok (.aload_n 0, 1) := by decide +kernel
theorem dX7_thrown_1 : decode cX7_thrown 1 = .ok (.getfield 102, 3) := by decide +kernel
theorem dX7_thrown_4 : decode cX7_thrown 4 = .ok (.ireturn, 1) := by decide +kernel
theorem dX7_type_0 : decode cX7_type 0 = .ok (.aload_n 0, 1) := by decide +kernel
theorem dX7_type_1 : decode cX7_type 1 = .ok (.iconst 0, 1) := by decide +kernel
theorem dX7_type_2 : decode cX7_type 2 = .ok (.putfield 102, 3) := by decide +kernel
theorem dX7_type_5 : decode cX7_type 5 = .ok (.aload_n 0, 1) := by decide +kernel
theorem dX7_type_6 : decode cX7_type 6 = .ok (.getfield 105, 3) := by decide +kernel
theorem dX7_type_9 : decode cX7_type 9 = .ok (.istore_n 3, 1) := by decide +kernel
theorem dX7_type_10 : decode cX7_type 10 = .ok (.bipush 7, 2) := by decide +kernel
theorem dX7_type_12 : decode cX7_type 12 = .ok (.istore 4, 2) := by decide +kernel
theorem dX7_type_14 : decode cX7_type 14 = .ok (.iload 4, 2) := by decide +kernel
theorem dX7_type_16 : decode cX7_type 16 = .ok (.ifCond .lt 67, 3) := by decide +kernel
theorem dX7_type_19 : decode cX7_type 19 = .ok (.lload_n 1, 1) := by decide +kernel
theorem dX7_type_20 : decode cX7_type 20 = .ok (.bipush 8, 2) := by decide +kernel
theorem dX7_type_22 : decode cX7_type 22 = .ok (.iload 4, 2) := by decide +kernel
theorem dX7_type_24 : decode cX7_type 24 = .ok (.imul, 1) := by decide +kernel
theorem dX7_type_25 : decode cX7_type 25 = .ok (.lshr, 1) := by decide +kernel
theorem dX7_type_26 : decode cX7_type 26 = .ok (.l2i, 1) := by decide +kernel
theorem dX7_type_27 : decode cX7_type 27 = .ok (.sipush 255, 3) := by decide +kernel
theorem dX7_type_30 : decode cX7_type 30 = .ok (.iand, 1) := by decide +kernel
theorem dX7_type_31 : decode cX7_type 31 = .ok (.istore 5, 2) := by decide +kernel
theorem dX7_type_33 : decode cX7_type 33 = .ok (.iload 5, 2) := by decide +kernel
theorem dX7_type_35 : decode cX7_type 35 = .ok (.ifCond .eq 26, 3) := by decide +kernel
theorem dX7_type_38 : decode cX7_type 38 = .ok (.iload 5, 2) := by decide +kernel
theorem dX7_type_40 : decode cX7_type 40 = .ok (.bipush 32, 2) := by decide +kernel
theorem dX7_type_42 : decode cX7_type 42 = .ok (.if_icmp .lt 17, 3) := by decide +kernel
theorem dX7_type_45 : decode cX7_type 45 = .ok (.iload 5, 2) := by decide +kernel
theorem dX7_type_47 : decode cX7_type 47 = .ok (.bipush 126, 2) := by decide +kernel
theorem dX7_type_49 : decode cX7_type 49 = .ok (.if_icmp .gt 10, 3) := by decide +kernel
theorem dX7_type_52 : decode cX7_type 52 = .ok (.iload_n 3, 1) := by decide +kernel
theorem dX7_type_53 : decode cX7_type 53 = .ok (.sipush 400, 3) := by decide +kernel
theorem dX7_type_56 : decode cX7_type 56 = .ok (.if_icmp .ne 5, 3) := by decide +kernel
theorem dX7_type_59 : decode cX7_type 59 = .ok (.iconst 0, 1) := by decide +kernel
theorem dX7_type_60 : decode cX7_type 60 = .ok (.ireturn, 1) := by decide +kernel
theorem dX7_type_61 : decode cX7_type 61 = .ok (.iload 5, 2) := by decide +kernel
theorem dX7_type_63 : decode cX7_type 63 = .ok (.ifCond .eq 14, 3) := by decide +kernel
theorem dX7_type_66 : decode cX7_type 66 = .ok (.aload_n 0, 1) := by decide +kernel
theorem dX7_type_67 : decode cX7_type 67 = .ok (.getfield 7, 3) := by decide +kernel
theorem dX7_type_70 : decode cX7_type 70 = .ok (.iload_n 3, 1) := by decide +kernel
theorem dX7_type_71 : decode cX7_type 71 = .ok (.iload 5, 2) := by decide +kernel
theorem dX7_type_73 : decode cX7_type 73 = .ok (.iastore, 1) := by decide +kernel
theorem dX7_type_74 : decode cX7_type 74 = .ok (.iinc 3 1, 3) := by decide +kernel
theorem dX7_type_77 : decode cX7_type 77 = .ok (.iinc 4 (-1), 3) := by decide +kernel
theorem dX7_type_80 : decode cX7_type 80 = .ok (.goto (-66), 3) := by decide +kernel
theorem dX7_type_83 : decode cX7_type 83 = .ok (.aload_n 0, 1) := by decide +kernel
theorem dX7_type_84 : decode cX7_type 84 = .ok (.iload_n 3, 1) := by decide +kernel
theorem dX7_type_85 : decode cX7_type 85 = .ok (.putfield 105, 3) := by decide +kernel
theorem dX7_type_88 : decode cX7_type 88 = .ok (.iconst 1, 1) := by decide +kernel
theorem dX7_type_89 : decode cX7_type 89 = .ok (.ireturn, 1) := by decide +kernel
theorem dX7_wipe_0 : decode cX7_wipe 0 = .ok (.aload_n 0, 1) := by decide +kernel
theorem dX7_wipe_1 : decode cX7_wipe 1 = .ok (.iconst 0, 1) := by decide +kernel
theorem dX7_wipe_2 : decode cX7_wipe 2 = .ok (.putfield 102, 3) := by decide +kernel
theorem dX7_wipe_5 : decode cX7_wipe 5 = .ok (.aload_n 0, 1) := by decide +kernel
theorem dX7_wipe_6 : decode cX7_wipe 6 = .ok (.iconst 0, 1) := by decide +kernel
theorem dX7_wipe_7 : decode cX7_wipe 7 = .ok (.putfield 105, 3) := by decide +kernel
theorem dX7_wipe_10 : decode cX7_wipe 10 = .ok (.return_, 1) := by decide +kernel
theorem dX7_length_0 : decode cX7_length 0 = .ok (.aload_n 0, 1) := by decide +kernel
theorem dX7_length_1 : decode cX7_length 1 = .ok (.iconst 0, 1) := by decide +kernel
theorem dX7_length_2 : decode cX7_length 2 = .ok (.putfield 102, 3) := by decide +kernel
theorem dX7_length_5 : decode cX7_length 5 = .ok (.aload_n 0, 1) := by decide +kernel
theorem dX7_length_6 : decode cX7_length 6 = .ok (.getfield 105, 3) := by decide +kernel
theorem dX7_length_9 : decode cX7_length 9 = .ok (.ireturn, 1) := by decide +kernel
theorem dX7_isType_0 : decode cX7_isType 0 = .ok (.iload_n 0, 1) := by decide +kernel
theorem dX7_isType_1 : decode cX7_isType 1 = .ok (.ifCond .lt 12, 3) := by decide +kernel
theorem dX7_isType_4 : decode cX7_isType 4 = .ok (.iload_n 0, 1) := by decide +kernel
theorem dX7_isType_5 : decode cX7_isType 5 = .ok (.iconst 4, 1) := by decide +kernel
theorem dX7_isType_6 : decode cX7_isType 6 = .ok (.if_icmp .ge 7, 3) := by decide +kernel
theorem dX7_isType_9 : decode cX7_isType 9 = .ok (.iconst 1, 1) := by decide +kernel
theorem dX7_isType_10 : decode cX7_isType 10 = .ok (.goto 4, 3) := by decide +kernel
theorem dX7_isType_13 : decode cX7_isType 13 = .ok (.iconst 0, 1) := by decide +kernel
theorem dX7_isType_14 : decode cX7_isType 14 = .ok (.ireturn, 1) := by decide +kernel
theorem dX7_isLetter_0 : decode cX7_isLetter 0 = .ok (.iload_n 0, 1) := by decide +kernel
theorem dX7_isLetter_1 : decode cX7_isLetter 1 = .ok (.bipush 65, 2) := by decide +kernel
theorem dX7_isLetter_3 : decode cX7_isLetter 3 = .ok (.if_icmp .lt 13, 3) := by decide +kernel
theorem dX7_isLetter_6 : decode cX7_isLetter 6 = .ok (.iload_n 0, 1) := by decide +kernel
theorem dX7_isLetter_7 : decode cX7_isLetter 7 = .ok (.bipush 90, 2) := by decide +kernel
theorem dX7_isLetter_9 : decode cX7_isLetter 9 = .ok (.if_icmp .gt 7, 3) := by decide +kernel
theorem dX7_isLetter_12 : decode cX7_isLetter 12 = .ok (.iconst 1, 1) := by decide +kernel
theorem dX7_isLetter_13 : decode cX7_isLetter 13 = .ok (.goto 4, 3) := by decide +kernel
theorem dX7_isLetter_16 : decode cX7_isLetter 16 = .ok (.iconst 0, 1) := by decide +kernel
theorem dX7_isLetter_17 : decode cX7_isLetter 17 = .ok (.ireturn, 1) := by decide +kernel
theorem dX7_isTag_0 : decode cX7_isTag 0 = .ok (.iload_n 0, 1) := by decide +kernel
theorem dX7_isTag_1 : decode cX7_isTag 1 = .ok (.ifCond .lt 42, 3) := by decide +kernel
theorem dX7_isTag_4 : decode cX7_isTag 4 = .ok (.iload_n 0, 1) := by decide +kernel
theorem dX7_isTag_5 : decode cX7_isTag 5 = .ok (.bipush 16, 2) := by decide +kernel
theorem dX7_isTag_7 : decode cX7_isTag 7 = .ok (.ishr, 1) := by decide +kernel
theorem dX7_isTag_8 : decode cX7_isTag 8 = .ok (.invokestatic 108, 3) := by decide +kernel
theorem dX7_isTag_11 : decode cX7_isTag 11 = .ok (.ifCond .eq 32, 3) := by decide +kernel
theorem dX7_isTag_14 : decode cX7_isTag 14 = .ok (.iload_n 0, 1) := by decide +kernel
theorem dX7_isTag_15 : decode cX7_isTag 15 = .ok (.bipush 8, 2) := by decide +kernel
theorem dX7_isTag_17 : decode cX7_isTag 17 = .ok (.ishr, 1) := by decide +kernel
theorem dX7_isTag_18 : decode cX7_isTag 18 = .ok (.sipush 255, 3) := by decide +kernel
theorem dX7_isTag_21 : decode cX7_isTag 21 = .ok (.iand, 1) := by decide +kernel
theorem dX7_isTag_22 : decode cX7_isTag 22 = .ok (.invokestatic 108, 3) := by decide +kernel
theorem dX7_isTag_25 : decode cX7_isTag 25 = .ok (.ifCond .eq 18, 3) := by decide +kernel
theorem dX7_isTag_28 : decode cX7_isTag 28 = .ok (.iload_n 0, 1) := by decide +kernel
theorem dX7_isTag_29 : decode cX7_isTag 29 = .ok (.sipush 255, 3) := by decide +kernel
theorem dX7_isTag_32 : decode cX7_isTag 32 = .ok (.iand, 1) := by decide +kernel
theorem dX7_isTag_33 : decode cX7_isTag 33 = .ok (.invokestatic 108, 3) := by decide +kernel
theorem dX7_isTag_36 : decode cX7_isTag 36 = .ok (.ifCond .eq 7, 3) := by decide +kernel
theorem dX7_isTag_39 : decode cX7_isTag 39 = .ok (.iconst 1, 1) := by decide +kernel
theorem dX7_isTag_40 : decode cX7_isTag 40 = .ok (.goto 4, 3) := by decide +kernel
theorem dX7_isTag_43 : decode cX7_isTag 43 = .ok (.iconst 0, 1) := by decide +kernel
theorem dX7_isTag_44 : decode cX7_isTag 44 = .ok (.ireturn, 1) := by decide +kernel
theorem dX7_isEnvelope_0 : decode cX7_isEnvelope 0 = .ok (.iload_n 0, 1) := by decide +kernel
theorem dX7_isEnvelope_1 : decode cX7_isEnvelope 1 = .ok (.ldc 112, 2) := by decide +kernel
theorem dX7_isEnvelope_3 : decode cX7_isEnvelope 3 = .ok (.if_icmp .eq 33, 3) := by decide +kernel
theorem dX7_isEnvelope_6 : decode cX7_isEnvelope 6 = .ok (.iload_n 0, 1) := by decide +kernel
theorem dX7_isEnvelope_7 : decode cX7_isEnvelope 7 = .ok (.ldc 113, 2) := by decide +kernel
theorem dX7_isEnvelope_9 : decode cX7_isEnvelope 9 = .ok (.if_icmp .eq 27, 3) := by decide +kernel
theorem dX7_isEnvelope_12 : decode cX7_isEnvelope 12 = .ok (.iload_n 0, 1) := by decide +kernel
theorem dX7_isEnvelope_13 : decode cX7_isEnvelope 13 = .ok (.ldc 114, 2) := by decide +kernel
theorem dX7_isEnvelope_15 : decode cX7_isEnvelope 15 = .ok (.if_icmp .eq 21, 3) := by decide +kernel
theorem dX7_isEnvelope_18 : decode cX7_isEnvelope 18 = .ok (.iload_n 0, 1) := by decide +kernel
theorem dX7_isEnvelope_19 : decode cX7_isEnvelope 19 = .ok (.ldc 115, 2) := by decide +kernel
theorem dX7_isEnvelope_21 : decode cX7_isEnvelope 21 = .ok (.if_icmp .eq 15, 3) := by decide +kernel
theorem dX7_isEnvelope_24 : decode cX7_isEnvelope 24 = .ok (.iload_n 0, 1) := by decide +kernel
theorem dX7_isEnvelope_25 : decode cX7_isEnvelope 25 = .ok (.ldc 116, 2) := by decide +kernel
theorem dX7_isEnvelope_27 : decode cX7_isEnvelope 27 = .ok (.if_icmp .eq 9, 3) := by decide +kernel
theorem dX7_isEnvelope_30 : decode cX7_isEnvelope 30 = .ok (.iload_n 0, 1) := by decide +kernel
theorem dX7_isEnvelope_31 : decode cX7_isEnvelope 31 = .ok (.ldc 117, 2) := by decide +kernel
theorem dX7_isEnvelope_33 : decode cX7_isEnvelope 33 = .ok (.if_icmp .ne 7, 3) := by decide +kernel
theorem dX7_isEnvelope_36 : decode cX7_isEnvelope 36 = .ok (.iconst 1, 1) := by decide +kernel
theorem dX7_isEnvelope_37 : decode cX7_isEnvelope 37 = .ok (.goto 4, 3) := by decide +kernel
theorem dX7_isEnvelope_40 : decode cX7_isEnvelope 40 = .ok (.iconst 0, 1) := by decide +kernel
theorem dX7_isEnvelope_41 : decode cX7_isEnvelope 41 = .ok (.ireturn, 1) := by decide +kernel
theorem dX7_following_0 : decode cX7_following 0 = .ok (.iload_n 2, 1) := by decide +kernel
theorem dX7_following_1 : decode cX7_following 1 = .ok (.iconst 1, 1) := by decide +kernel
theorem dX7_following_2 : decode cX7_following 2 = .ok (.iadd, 1) := by decide +kernel
theorem dX7_following_3 : decode cX7_following 3 = .ok (.istore 4, 2) := by decide +kernel
theorem dX7_following_5 : decode cX7_following 5 = .ok (.iload 4, 2) := by decide +kernel
theorem dX7_following_7 : decode cX7_following 7 = .ok (.aload_n 0, 1) := by decide +kernel
theorem dX7_following_8 : decode cX7_following 8 = .ok (.getfield 13, 3) := by decide +kernel
theorem dX7_following_11 : decode cX7_following 11 = .ok (.iload_n 1, 1) := by decide +kernel
theorem dX7_following_12 : decode cX7_following 12 = .ok (.iaload, 1) := by decide +kernel
theorem dX7_following_13 : decode cX7_following 13 = .ok (.if_icmp .ge 28, 3) := by decide +kernel
theorem dX7_following_16 : decode cX7_following 16 = .ok (.aload_n 0, 1) := by decide +kernel
theorem dX7_following_17 : decode cX7_following 17 = .ok (.getfield 26, 3) := by decide +kernel
theorem dX7_following_20 : decode cX7_following 20 = .ok (.bipush 24, 2) := by decide +kernel
theorem dX7_following_22 : decode cX7_following 22 = .ok (.iload_n 1, 1) := by decide +kernel
theorem dX7_following_23 : decode cX7_following 23 = .ok (.imul, 1) := by decide +kernel
theorem dX7_following_24 : decode cX7_following 24 = .ok (.iload 4, 2) := by decide +kernel
theorem dX7_following_26 : decode cX7_following 26 = .ok (.iadd, 1) := by decide +kernel
theorem dX7_following_27 : decode cX7_following 27 = .ok (.iaload, 1) := by decide +kernel
theorem dX7_following_28 : decode cX7_following 28 = .ok (.iload_n 3, 1) := by decide +kernel
theorem dX7_following_29 : decode cX7_following 29 = .ok (.if_icmp .ne 6, 3) := by decide +kernel
theorem dX7_following_32 : decode cX7_following 32 = .ok (.iload 4, 2) := by decide +kernel
theorem dX7_following_34 : decode cX7_following 34 = .ok (.ireturn, 1) := by decide +kernel
theorem dX7_following_35 : decode cX7_following 35 = .ok (.iinc 4 1, 3) := by decide +kernel
theorem dX7_following_38 : decode cX7_following 38 = .ok (.goto (-33), 3) := by decide +kernel
theorem dX7_following_41 : decode cX7_following 41 = .ok (.iconst (-1), 1) := by decide +kernel
theorem dX7_following_42 : decode cX7_following 42 = .ok (.ireturn, 1) := by decide +kernel
theorem dX7_add_0 : decode cX7_add 0 = .ok (.bipush 24, 2) := by decide +kernel
theorem dX7_add_2 : decode cX7_add 2 = .ok (.iload_n 1, 1) := by decide +kernel
theorem dX7_add_3 : decode cX7_add 3 = .ok (.imul, 1) := by decide +kernel
theorem dX7_add_4 : decode cX7_add 4 = .ok (.aload_n 0, 1) := by decide +kernel
theorem dX7_add_5 : decode cX7_add 5 = .ok (.getfield 13, 3) := by decide +kernel
theorem dX7_add_8 : decode cX7_add 8 = .ok (.iload_n 1, 1) := by decide +kernel
theorem dX7_add_9 : decode cX7_add 9 = .ok (.iaload, 1) := by decide +kernel
theorem dX7_add_10 : decode cX7_add 10 = .ok (.iadd, 1) := by decide +kernel
theorem dX7_add_11 : decode cX7_add 11 = .ok (.istore 5, 2) := by decide +kernel
theorem dX7_add_13 : decode cX7_add 13 = .ok (.aload_n 0, 1) := by decide +kernel
theorem dX7_add_14 : decode cX7_add 14 = .ok (.getfield 16, 3) := by decide +kernel
theorem dX7_add_17 : decode cX7_add 17 = .ok (.iload 5, 2) := by decide +kernel
theorem dX7_add_19 : decode cX7_add 19 = .ok (.iload_n 2, 1) := by decide +kernel
theorem dX7_add_20 : decode cX7_add 20 = .ok (.iastore, 1) := by decide +kernel
theorem dX7_add_21 : decode cX7_add 21 = .ok (.aload_n 0, 1) := by decide +kernel
theorem dX7_add_22 : decode cX7_add 22 = .ok (.getfield 19, 3) := by decide +kernel
theorem dX7_add_25 : decode cX7_add 25 = .ok (.iload 5, 2) := by decide +kernel
theorem dX7_add_27 : decode cX7_add 27 = .ok (.iload_n 3, 1) := by decide +kernel
theorem dX7_add_28 : decode cX7_add 28 = .ok (.bastore, 1) := by decide +kernel
theorem dX7_add_29 : decode cX7_add 29 = .ok (.aload_n 0, 1) := by decide +kernel
theorem dX7_add_30 : decode cX7_add 30 = .ok (.getfield 23, 3) := by decide +kernel
theorem dX7_add_33 : decode cX7_add 33 = .ok (.iload 5, 2) := by decide +kernel
theorem dX7_add_35 : decode cX7_add 35 = .ok (.iload 4, 2) := by decide +kernel
theorem dX7_add_37 : decode cX7_add 37 = .ok (.iastore, 1) := by decide +kernel
theorem dX7_add_38 : decode cX7_add 38 = .ok (.aload_n 0, 1) := by decide +kernel
theorem dX7_add_39 : decode cX7_add 39 = .ok (.getfield 26, 3) := by decide +kernel
theorem dX7_add_42 : decode cX7_add 42 = .ok (.iload 5, 2) := by decide +kernel
theorem dX7_add_44 : decode cX7_add 44 = .ok (.aload_n 0, 1) := by decide +kernel
theorem dX7_add_45 : decode cX7_add 45 = .ok (.getfield 29, 3) := by decide +kernel
theorem dX7_add_48 : decode cX7_add 48 = .ok (.iload_n 1, 1) := by decide +kernel
theorem dX7_add_49 : decode cX7_add 49 = .ok (.iaload, 1) := by decide +kernel
theorem dX7_add_50 : decode cX7_add 50 = .ok (.iastore, 1) := by decide +kernel
theorem dX7_add_51 : decode cX7_add 51 = .ok (.aload_n 0, 1) := by decide +kernel
theorem dX7_add_52 : decode cX7_add 52 = .ok (.getfield 13, 3) := by decide +kernel
theorem dX7_add_55 : decode cX7_add 55 = .ok (.iload_n 1, 1) := by decide +kernel
theorem dX7_add_56 : decode cX7_add 56 = .ok (.dup2, 1) := by decide +kernel
theorem dX7_add_57 : decode cX7_add 57 = .ok (.iaload, 1) := by decide +kernel
theorem dX7_add_58 : decode cX7_add 58 = .ok (.iconst 1, 1) := by decide +kernel
theorem dX7_add_59 : decode cX7_add 59 = .ok (.iadd, 1) := by decide +kernel
theorem dX7_add_60 : decode cX7_add 60 = .ok (.iastore, 1) := by decide +kernel
theorem dX7_add_61 : decode cX7_add 61 = .ok (.aload_n 0, 1) := by decide +kernel
theorem dX7_add_62 : decode cX7_add 62 = .ok (.getfield 13, 3) := by decide +kernel
theorem dX7_add_65 : decode cX7_add 65 = .ok (.iload_n 1, 1) := by decide +kernel
theorem dX7_add_66 : decode cX7_add 66 = .ok (.iaload, 1) := by decide +kernel
theorem dX7_add_67 : decode cX7_add 67 = .ok (.ireturn, 1) := by decide +kernel
theorem dX7_isBare_0 : decode cX7_isBare 0 = .ok (.aload_n 0, 1) := by decide +kernel
theorem dX7_isBare_1 : decode cX7_isBare 1 = .ok (.getfield 29, 3) := by decide +kernel
theorem dX7_isBare_4 : decode cX7_isBare 4 = .ok (.iload_n 1, 1) := by decide +kernel
theorem dX7_isBare_5 : decode cX7_isBare 5 = .ok (.iaload, 1) := by decide +kernel
theorem dX7_isBare_6 : decode cX7_isBare 6 = .ok (.ifCond .lt 22, 3) := by decide +kernel
theorem dX7_isBare_9 : decode cX7_isBare 9 = .ok (.aload_n 0, 1) := by decide +kernel
theorem dX7_isBare_10 : decode cX7_isBare 10 = .ok (.iload_n 1, 1) := by decide +kernel
theorem dX7_isBare_11 : decode cX7_isBare 11 = .ok (.iconst (-1), 1) := by decide +kernel
theorem dX7_isBare_12 : decode cX7_isBare 12 = .ok (.aload_n 0, 1) := by decide +kernel
theorem dX7_isBare_13 : decode cX7_isBare 13 = .ok (.getfield 29, 3) := by decide +kernel
theorem dX7_isBare_16 : decode cX7_isBare 16 = .ok (.iload_n 1, 1) := by decide +kernel
theorem dX7_isBare_17 : decode cX7_isBare 17 = .ok (.iaload, 1) := by decide +kernel
theorem dX7_isBare_18 : decode cX7_isBare 18 = .ok (.invokevirtual 118, 3) := by decide +kernel
theorem dX7_isBare_21 : decode cX7_isBare 21 = .ok (.ifCond .ge 7, 3) := by decide +kernel
theorem dX7_isBare_24 : decode cX7_isBare 24 = .ok (.iconst 1, 1) := by decide +kernel
theorem dX7_isBare_25 : decode cX7_isBare 25 = .ok (.goto 4, 3) := by decide +kernel
theorem dX7_isBare_28 : decode cX7_isBare 28 = .ok (.iconst 0, 1) := by decide +kernel
theorem dX7_isBare_29 : decode cX7_isBare 29 = .ok (.ireturn, 1) := by decide +kernel
theorem dX7_slot_0 : decode cX7_slot 0 = .ok (.aload_n 0, 1) := by decide +kernel
theorem dX7_slot_1 : decode cX7_slot 1 = .ok (.iload_n 1, 1) := by decide +kernel
theorem dX7_slot_2 : decode cX7_slot 2 = .ok (.invokestatic 122, 3) := by decide +kernel
theorem dX7_slot_5 : decode cX7_slot 5 = .ok (.ifCond .eq 30, 3) := by decide +kernel
theorem dX7_slot_8 : decode cX7_slot 8 = .ok (.iload_n 2, 1) := by decide +kernel
theorem dX7_slot_9 : decode cX7_slot 9 = .ok (.invokestatic 125, 3) := by decide +kernel
theorem dX7_slot_12 : decode cX7_slot 12 = .ok (.ifCond .eq 23, 3) := by decide +kernel
theorem dX7_slot_15 : decode cX7_slot 15 = .ok (.iload 4, 2) := by decide +kernel
theorem dX7_slot_17 : decode cX7_slot 17 = .ok (.iconst 1, 1) := by decide +kernel
theorem dX7_slot_18 : decode cX7_slot 18 = .ok (.if_icmp .lt 17, 3) := by decide +kernel
theorem dX7_slot_21 : decode cX7_slot 21 = .ok (.iload 4, 2) := by decide +kernel
theorem dX7_slot_23 : decode cX7_slot 23 = .ok (.bipush 99, 2) := by decide +kernel
theorem dX7_slot_25 : decode cX7_slot 25 = .ok (.if_icmp .gt 10, 3) := by decide +kernel
theorem dX7_slot_28 : decode cX7_slot 28 = .ok (.iload_n 2, 1) := by decide +kernel
theorem dX7_slot_29 : decode cX7_slot 29 = .ok (.invokestatic 128, 3) := by decide +kernel
theorem dX7_slot_32 : decode cX7_slot 32 = .ok (.ifCond .eq 7, 3) := by decide +kernel
theorem dX7_slot_35 : decode cX7_slot 35 = .ok (.iconst 1, 1) := by decide +kernel
theorem dX7_slot_36 : decode cX7_slot 36 = .ok (.goto 4, 3) := by decide +kernel
theorem dX7_slot_39 : decode cX7_slot 39 = .ok (.iconst 0, 1) := by decide +kernel
theorem dX7_slot_40 : decode cX7_slot 40 = .ok (.putfield 102, 3) := by decide +kernel
theorem dX7_slot_43 : decode cX7_slot 43 = .ok (.aload_n 0, 1) := by decide +kernel
theorem dX7_slot_44 : decode cX7_slot 44 = .ok (.getfield 102, 3) := by decide +kernel
theorem dX7_slot_47 : decode cX7_slot 47 = .ok (.ifCond .le 5, 3) := by decide +kernel
theorem dX7_slot_50 : decode cX7_slot 50 = .ok (.iconst 0, 1) := by decide +kernel
theorem dX7_slot_51 : decode cX7_slot 51 = .ok (.ireturn, 1) := by decide +kernel
theorem dX7_slot_52 : decode cX7_slot 52 = .ok (.aload_n 0, 1) := by decide +kernel
theorem dX7_slot_53 : decode cX7_slot 53 = .ok (.aload_n 0, 1) := by decide +kernel
theorem dX7_slot_54 : decode cX7_slot 54 = .ok (.getfield 13, 3) := by decide +kernel
theorem dX7_slot_57 : decode cX7_slot 57 = .ok (.iload_n 1, 1) := by decide +kernel
theorem dX7_slot_58 : decode cX7_slot 58 = .ok (.iaload, 1) := by decide +kernel
theorem dX7_slot_59 : decode cX7_slot 59 = .ok (.bipush 24, 2) := by decide +kernel
theorem dX7_slot_61 : decode cX7_slot 61 = .ok (.if_icmp .eq 21, 3) := by decide +kernel
theorem dX7_slot_64 : decode cX7_slot 64 = .ok (.aload_n 0, 1) := by decide +kernel
theorem dX7_slot_65 : decode cX7_slot 65 = .ok (.iload_n 1, 1) := by decide +kernel
theorem dX7_slot_66 : decode cX7_slot 66 = .ok (.invokevirtual 131, 3) := by decide +kernel
theorem dX7_slot_69 : decode cX7_slot 69 = .ok (.ifCond .eq 17, 3) := by decide +kernel
theorem dX7_slot_72 : decode cX7_slot 72 = .ok (.iload_n 3, 1) := by decide +kernel
theorem dX7_slot_73 : decode cX7_slot 73 = .ok (.ifCond .eq 9, 3) := by decide +kernel
theorem dX7_slot_76 : decode cX7_slot 76 = .ok (.iload 4, 2) := by decide +kernel
theorem dX7_slot_78 : decode cX7_slot 78 = .ok (.iconst 1, 1) := by decide +kernel
theorem dX7_slot_79 : decode cX7_slot 79 = .ok (.if_icmp .eq 7, 3) := by decide +kernel
theorem dX7_slot_82 : decode cX7_slot 82 = .ok (.iconst 2, 1) := by decide +kernel
theorem dX7_slot_83 : decode cX7_slot 83 = .ok (.goto 4, 3) := by decide +kernel
theorem dX7_slot_86 : decode cX7_slot 86 = .ok (.iconst 0, 1) := by decide +kernel
theorem dX7_slot_87 : decode cX7_slot 87 = .ok (.putfield 102, 3) := by decide +kernel
theorem dX7_slot_90 : decode cX7_slot 90 = .ok (.aload_n 0, 1) := by decide +kernel
theorem dX7_slot_91 : decode cX7_slot 91 = .ok (.getfield 102, 3) := by decide +kernel
theorem dX7_slot_94 : decode cX7_slot 94 = .ok (.ifCond .le 7, 3) := by decide +kernel
theorem dX7_slot_97 : decode cX7_slot 97 = .ok (.iconst 0, 1) := by decide +kernel
theorem dX7_slot_98 : decode cX7_slot 98 = .ok (.goto 12, 3) := by decide +kernel
theorem dX7_slot_101 : decode cX7_slot 101 = .ok (.aload_n 0, 1) := by decide +kernel
theorem dX7_slot_102 : decode cX7_slot 102 = .ok (.iload_n 1, 1) := by decide +kernel
theorem dX7_slot_103 : decode cX7_slot 103 = .ok (.iload_n 2, 1) := by decide +kernel
theorem dX7_slot_104 : decode cX7_slot 104 = .ok (.iload_n 3, 1) := by decide +kernel
theorem dX7_slot_105 : decode cX7_slot 105 = .ok (.iload 4, 2) := by decide +kernel
theorem dX7_slot_107 : decode cX7_slot 107 = .ok (.invokevirtual 134, 3) := by decide +kernel
theorem dX7_slot_110 : decode cX7_slot 110 = .ok (.ireturn, 1) := by decide +kernel
theorem dX7_openGroups_0 : decode cX7_openGroups 0 = .ok (.iconst 0, 1) := by decide +kernel
theorem dX7_openGroups_1 : decode cX7_openGroups 1 = .ok (.istore_n 2, 1) := by decide +kernel
theorem dX7_openGroups_2 : decode cX7_openGroups 2 = .ok (.aload_n 0, 1) := by decide +kernel
theorem dX7_openGroups_3 : decode cX7_openGroups 3 = .ok (.getfield 29, 3) := by decide +kernel
theorem dX7_openGroups_6 : decode cX7_openGroups 6 = .ok (.iload_n 1, 1) := by decide +kernel
theorem dX7_openGroups_7 : decode cX7_openGroups 7 = .ok (.iaload, 1) := by decide +kernel
theorem dX7_openGroups_8 : decode cX7_openGroups 8 = .ok (.istore_n 3, 1) := by decide +kernel
theorem dX7_openGroups_9 : decode cX7_openGroups 9 = .ok (.iload_n 3, 1) := by decide +kernel
theorem dX7_openGroups_10 : decode cX7_openGroups 10 = .ok (.ifCond .lt 21, 3) := by decide +kernel
theorem dX7_openGroups_13 : decode cX7_openGroups 13 = .ok (.iinc 2 1, 3) := by decide +kernel
theorem dX7_openGroups_16 : decode cX7_openGroups 16 = .ok (.aload_n 0, 1) := by decide +kernel
theorem dX7_openGroups_17 : decode cX7_openGroups 17 = .ok (.getfield 26, 3) := by decide +kernel
theorem dX7_openGroups_20 : decode cX7_openGroups 20 = .ok (.bipush 24, 2) := by decide +kernel
theorem dX7_openGroups_22 : decode cX7_openGroups 22 = .ok (.iload_n 1, 1) := by decide +kernel
theorem dX7_openGroups_23 : decode cX7_openGroups 23 = .ok (.imul, 1) := by decide +kernel
theorem dX7_openGroups_24 : decode cX7_openGroups 24 = .ok (.iload_n 3, 1) := by decide +kernel
theorem dX7_openGroups_25 : decode cX7_openGroups 25 = .ok (.iadd, 1) := by decide +kernel
theorem dX7_openGroups_26 : decode cX7_openGroups 26 = .ok (.iaload, 1) := by decide +kernel
theorem dX7_openGroups_27 : decode cX7_openGroups 27 = .ok (.istore_n 3, 1) := by decide +kernel
theorem dX7_openGroups_28 : decode cX7_openGroups 28 = .ok (.goto (-19), 3) := by decide +kernel
theorem dX7_openGroups_31 : decode cX7_openGroups 31 = .ok (.iload_n 2, 1) := by decide +kernel
theorem dX7_openGroups_32 : decode cX7_openGroups 32 = .ok (.ireturn, 1) := by decide +kernel
theorem dX7_open_0 : decode cX7_open 0 = .ok (.aload_n 0, 1) := by decide +kernel
theorem dX7_open_1 : decode cX7_open 1 = .ok (.iload_n 1, 1) := by decide +kernel
theorem dX7_open_2 : decode cX7_open 2 = .ok (.invokestatic 122, 3) := by decide +kernel
theorem dX7_open_5 : decode cX7_open 5 = .ok (.ifCond .eq 14, 3) := by decide +kernel
theorem dX7_open_8 : decode cX7_open 8 = .ok (.iload_n 3, 1) := by decide +kernel
theorem dX7_open_9 : decode cX7_open 9 = .ok (.iconst 1, 1) := by decide +kernel
theorem dX7_open_10 : decode cX7_open 10 = .ok (.if_icmp .lt 9, 3) := by decide +kernel
theorem dX7_open_13 : decode cX7_open 13 = .ok (.iload_n 3, 1) := by decide +kernel
theorem dX7_open_14 : decode cX7_open 14 = .ok (.bipush 99, 2) := by decide +kernel
theorem dX7_open_16 : decode cX7_open 16 = .ok (.if_icmp .le 7, 3) := by decide +kernel
theorem dX7_open_19 : decode cX7_open 19 = .ok (.iconst 1, 1) := by decide +kernel
theorem dX7_open_20 : decode cX7_open 20 = .ok (.goto 4, 3) := by decide +kernel
theorem dX7_open_23 : decode cX7_open 23 = .ok (.iconst 0, 1) := by decide +kernel
theorem dX7_open_24 : decode cX7_open 24 = .ok (.putfield 102, 3) := by decide +kernel
theorem dX7_open_27 : decode cX7_open 27 = .ok (.aload_n 0, 1) := by decide +kernel
theorem dX7_open_28 : decode cX7_open 28 = .ok (.getfield 102, 3) := by decide +kernel
theorem dX7_open_31 : decode cX7_open 31 = .ok (.ifCond .le 5, 3) := by decide +kernel
theorem dX7_open_34 : decode cX7_open 34 = .ok (.iconst 0, 1) := by decide +kernel
theorem dX7_open_35 : decode cX7_open 35 = .ok (.ireturn, 1) := by decide +kernel
theorem dX7_open_36 : decode cX7_open 36 = .ok (.aload_n 0, 1) := by decide +kernel
theorem dX7_open_37 : decode cX7_open 37 = .ok (.aload_n 0, 1) := by decide +kernel
theorem dX7_open_38 : decode cX7_open 38 = .ok (.getfield 13, 3) := by decide +kernel
theorem dX7_open_41 : decode cX7_open 41 = .ok (.iload_n 1, 1) := by decide +kernel
theorem dX7_open_42 : decode cX7_open 42 = .ok (.iaload, 1) := by decide +kernel
theorem dX7_open_43 : decode cX7_open 43 = .ok (.bipush 24, 2) := by decide +kernel
theorem dX7_open_45 : decode cX7_open 45 = .ok (.if_icmp .eq 20, 3) := by decide +kernel
theorem dX7_open_48 : decode cX7_open 48 = .ok (.aload_n 0, 1) := by decide +kernel
theorem dX7_open_49 : decode cX7_open 49 = .ok (.iload_n 1, 1) := by decide +kernel
theorem dX7_open_50 : decode cX7_open 50 = .ok (.invokevirtual 138, 3) := by decide +kernel
theorem dX7_open_53 : decode cX7_open 53 = .ok (.iconst 3, 1) := by decide +kernel
theorem dX7_open_54 : decode cX7_open 54 = .ok (.if_icmp .eq 11, 3) := by decide +kernel
theorem dX7_open_57 : decode cX7_open 57 = .ok (.aload_n 0, 1) := by decide +kernel
theorem dX7_open_58 : decode cX7_open 58 = .ok (.iload_n 1, 1) := by decide +kernel
theorem dX7_open_59 : decode cX7_open 59 = .ok (.invokevirtual 131, 3) := by decide +kernel
theorem dX7_open_62 : decode cX7_open 62 = .ok (.ifCond .eq 7, 3) := by decide +kernel
theorem dX7_open_65 : decode cX7_open 65 = .ok (.iconst 2, 1) := by decide +kernel
theorem dX7_open_66 : decode cX7_open 66 = .ok (.goto 4, 3) := by decide +kernel
theorem dX7_open_69 : decode cX7_open 69 = .ok (.iconst 0, 1) := by decide +kernel
theorem dX7_open_70 : decode cX7_open 70 = .ok (.putfield 102, 3) := by decide +kernel
theorem dX7_open_73 : decode cX7_open 73 = .ok (.aload_n 0, 1) := by decide +kernel
theorem dX7_open_74 : decode cX7_open 74 = .ok (.getfield 102, 3) := by decide +kernel
theorem dX7_open_77 : decode cX7_open 77 = .ok (.ifCond .le 5, 3) := by decide +kernel
theorem dX7_open_80 : decode cX7_open 80 = .ok (.iconst 0, 1) := by decide +kernel
theorem dX7_open_81 : decode cX7_open 81 = .ok (.ireturn, 1) := by decide +kernel
theorem dX7_open_82 : decode cX7_open 82 = .ok (.aload_n 0, 1) := by decide +kernel
theorem dX7_open_83 : decode cX7_open 83 = .ok (.iload_n 1, 1) := by decide +kernel
theorem dX7_open_84 : decode cX7_open 84 = .ok (.iconst 0, 1) := by decide +kernel
theorem dX7_open_85 : decode cX7_open 85 = .ok (.iload_n 2, 1) := by decide +kernel
theorem dX7_open_86 : decode cX7_open 86 = .ok (.iload_n 3, 1) := by decide +kernel
theorem dX7_open_87 : decode cX7_open 87 = .ok (.invokevirtual 134, 3) := by decide +kernel
theorem dX7_open_90 : decode cX7_open 90 = .ok (.istore 4, 2) := by decide +kernel
theorem dX7_open_92 : decode cX7_open 92 = .ok (.aload_n 0, 1) := by decide +kernel
theorem dX7_open_93 : decode cX7_open 93 = .ok (.getfield 29, 3) := by decide +kernel
theorem dX7_open_96 : decode cX7_open 96 = .ok (.iload_n 1, 1) := by decide +kernel
theorem dX7_open_97 : decode cX7_open 97 = .ok (.iload 4, 2) := by decide +kernel
theorem dX7_open_99 : decode cX7_open 99 = .ok (.iconst 1, 1) := by decide +kernel
theorem dX7_open_100 : decode cX7_open 100 = .ok (.isub, 1) := by decide +kernel
theorem dX7_open_101 : decode cX7_open 101 = .ok (.iastore, 1) := by decide +kernel
theorem dX7_open_102 : decode cX7_open 102 = .ok (.iload 4, 2) := by decide +kernel
theorem dX7_open_104 : decode cX7_open 104 = .ok (.ireturn, 1) := by decide +kernel
theorem dX7_close_0 : decode cX7_close 0 = .ok (.aload_n 0, 1) := by decide +kernel
theorem dX7_close_1 : decode cX7_close 1 = .ok (.iload_n 1, 1) := by decide +kernel
theorem dX7_close_2 : decode cX7_close 2 = .ok (.invokestatic 122, 3) := by decide +kernel
theorem dX7_close_5 : decode cX7_close 5 = .ok (.ifCond .eq 7, 3) := by decide +kernel
theorem dX7_close_8 : decode cX7_close 8 = .ok (.iconst 0, 1) := by decide +kernel
theorem dX7_close_9 : decode cX7_close 9 = .ok (.goto 4, 3) := by decide +kernel
theorem dX7_close_12 : decode cX7_close 12 = .ok (.iconst 1, 1) := by decide +kernel
theorem dX7_close_13 : decode cX7_close 13 = .ok (.putfield 102, 3) := by decide +kernel
theorem dX7_close_16 : decode cX7_close 16 = .ok (.aload_n 0, 1) := by decide +kernel
theorem dX7_close_17 : decode cX7_close 17 = .ok (.getfield 102, 3) := by decide +kernel
theorem dX7_close_20 : decode cX7_close 20 = .ok (.ifCond .gt 23, 3) := by decide +kernel
theorem dX7_close_23 : decode cX7_close 23 = .ok (.aload_n 0, 1) := by decide +kernel
theorem dX7_close_24 : decode cX7_close 24 = .ok (.getfield 29, 3) := by decide +kernel
theorem dX7_close_27 : decode cX7_close 27 = .ok (.aload_n 0, 1) := by decide +kernel
theorem dX7_close_28 : decode cX7_close 28 = .ok (.getfield 102, 3) := by decide +kernel
theorem dX7_close_31 : decode cX7_close 31 = .ok (.ifCond .le 7, 3) := by decide +kernel
theorem dX7_close_34 : decode cX7_close 34 = .ok (.iconst 0, 1) := by decide +kernel
theorem dX7_close_35 : decode cX7_close 35 = .ok (.goto 4, 3) := by decide +kernel
theorem dX7_close_38 : decode cX7_close 38 = .ok (.iload_n 1, 1) := by decide +kernel
theorem dX7_close_39 : decode cX7_close 39 = .ok (.iaload, 1) := by decide +kernel
theorem dX7_close_40 : decode cX7_close 40 = .ok (.ifCond .ge 5, 3) := by decide +kernel
theorem dX7_close_43 : decode cX7_close 43 = .ok (.iconst 0, 1) := by decide +kernel
theorem dX7_close_44 : decode cX7_close 44 = .ok (.ireturn, 1) := by decide +kernel
theorem dX7_close_45 : decode cX7_close 45 = .ok (.aload_n 0, 1) := by decide +kernel
theorem dX7_close_46 : decode cX7_close 46 = .ok (.iload_n 1, 1) := by decide +kernel
theorem dX7_close_47 : decode cX7_close 47 = .ok (.invokevirtual 131, 3) := by decide +kernel
theorem dX7_close_50 : decode cX7_close 50 = .ok (.ifCond .eq 5, 3) := by decide +kernel
theorem dX7_close_53 : decode cX7_close 53 = .ok (.iconst 0, 1) := by decide +kernel
theorem dX7_close_54 : decode cX7_close 54 = .ok (.ireturn, 1) := by decide +kernel
theorem dX7_close_55 : decode cX7_close 55 = .ok (.aload_n 0, 1) := by decide +kernel
theorem dX7_close_56 : decode cX7_close 56 = .ok (.getfield 29, 3) := by decide +kernel
theorem dX7_close_59 : decode cX7_close 59 = .ok (.iload_n 1, 1) := by decide +kernel
theorem dX7_close_60 : decode cX7_close 60 = .ok (.aload_n 0, 1) := by decide +kernel
theorem dX7_close_61 : decode cX7_close 61 = .ok (.getfield 26, 3) := by decide +kernel
theorem dX7_close_64 : decode cX7_close 64 = .ok (.bipush 24, 2) := by decide +kernel
theorem dX7_close_66 : decode cX7_close 66 = .ok (.iload_n 1, 1) := by decide +kernel
theorem dX7_close_67 : decode cX7_close 67 = .ok (.imul, 1) := by decide +kernel
theorem dX7_close_68 : decode cX7_close 68 = .ok (.aload_n 0, 1) := by decide +kernel
theorem dX7_close_69 : decode cX7_close 69 = .ok (.getfield 29, 3) := by decide +kernel
theorem dX7_close_72 : decode cX7_close 72 = .ok (.iload_n 1, 1) := by decide +kernel
theorem dX7_close_73 : decode cX7_close 73 = .ok (.iaload, 1) := by decide +kernel
theorem dX7_close_74 : decode cX7_close 74 = .ok (.iadd, 1) := by decide +kernel
theorem dX7_close_75 : decode cX7_close 75 = .ok (.iaload, 1) := by decide +kernel
theorem dX7_close_76 : decode cX7_close 76 = .ok (.iastore, 1) := by decide +kernel
theorem dX7_close_77 : decode cX7_close 77 = .ok (.iconst 1, 1) := by decide +kernel
theorem dX7_close_78 : decode cX7_close 78 = .ok (.ireturn, 1) := by decide +kernel
theorem dX7_clear_0 : decode cX7_clear 0 = .ok (.aload_n 0, 1) := by decide +kernel
theorem dX7_clear_1 : decode cX7_clear 1 = .ok (.iload_n 1, 1) := by decide +kernel
theorem dX7_clear_2 : decode cX7_clear 2 = .ok (.invokestatic 122, 3) := by decide +kernel
theorem dX7_clear_5 : decode cX7_clear 5 = .ok (.ifCond .eq 7, 3) := by decide +kernel
theorem dX7_clear_8 : decode cX7_clear 8 = .ok (.iconst 0, 1) := by decide +kernel
theorem dX7_clear_9 : decode cX7_clear 9 = .ok (.goto 4, 3) := by decide +kernel
theorem dX7_clear_12 : decode cX7_clear 12 = .ok (.iconst 1, 1) := by decide +kernel
theorem dX7_clear_13 : decode cX7_clear 13 = .ok (.putfield 102, 3) := by decide +kernel
theorem dX7_clear_16 : decode cX7_clear 16 = .ok (.aload_n 0, 1) := by decide +kernel
theorem dX7_clear_17 : decode cX7_clear 17 = .ok (.getfield 102, 3) := by decide +kernel
theorem dX7_clear_20 : decode cX7_clear 20 = .ok (.ifCond .gt 23, 3) := by decide +kernel
theorem dX7_clear_23 : decode cX7_clear 23 = .ok (.aload_n 0, 1) := by decide +kernel
theorem dX7_clear_24 : decode cX7_clear 24 = .ok (.getfield 13, 3) := by decide +kernel
theorem dX7_clear_27 : decode cX7_clear 27 = .ok (.aload_n 0, 1) := by decide +kernel
theorem dX7_clear_28 : decode cX7_clear 28 = .ok (.getfield 102, 3) := by decide +kernel
theorem dX7_clear_31 : decode cX7_clear 31 = .ok (.ifCond .le 7, 3) := by decide +kernel
theorem dX7_clear_34 : decode cX7_clear 34 = .ok (.iconst 0, 1) := by decide +kernel
theorem dX7_clear_35 : decode cX7_clear 35 = .ok (.goto 4, 3) := by decide +kernel
theorem dX7_clear_38 : decode cX7_clear 38 = .ok (.iload_n 1, 1) := by decide +kernel
theorem dX7_clear_39 : decode cX7_clear 39 = .ok (.iaload, 1) := by decide +kernel
theorem dX7_clear_40 : decode cX7_clear 40 = .ok (.ifCond .ne 5, 3) := by decide +kernel
theorem dX7_clear_43 : decode cX7_clear 43 = .ok (.iconst 0, 1) := by decide +kernel
theorem dX7_clear_44 : decode cX7_clear 44 = .ok (.ireturn, 1) := by decide +kernel
theorem dX7_clear_45 : decode cX7_clear 45 = .ok (.aload_n 0, 1) := by decide +kernel
theorem dX7_clear_46 : decode cX7_clear 46 = .ok (.getfield 13, 3) := by decide +kernel
theorem dX7_clear_49 : decode cX7_clear 49 = .ok (.iload_n 1, 1) := by decide +kernel
theorem dX7_clear_50 : decode cX7_clear 50 = .ok (.iconst 0, 1) := by decide +kernel
theorem dX7_clear_51 : decode cX7_clear 51 = .ok (.iastore, 1) := by decide +kernel
theorem dX7_clear_52 : decode cX7_clear 52 = .ok (.aload_n 0, 1) := by decide +kernel
theorem dX7_clear_53 : decode cX7_clear 53 = .ok (.getfield 29, 3) := by decide +kernel
theorem dX7_clear_56 : decode cX7_clear 56 = .ok (.iload_n 1, 1) := by decide +kernel
theorem dX7_clear_57 : decode cX7_clear 57 = .ok (.iconst (-1), 1) := by decide +kernel
theorem dX7_clear_58 : decode cX7_clear 58 = .ok (.iastore, 1) := by decide +kernel
theorem dX7_clear_59 : decode cX7_clear 59 = .ok (.iconst 1, 1) := by decide +kernel
theorem dX7_clear_60 : decode cX7_clear 60 = .ok (.ireturn, 1) := by decide +kernel
theorem dX7_canMark_0 : decode cX7_canMark 0 = .ok (.iload_n 0, 1) := by decide +kernel
theorem dX7_canMark_1 : decode cX7_canMark 1 = .ok (.bipush 32, 2) := by decide +kernel
theorem dX7_canMark_3 : decode cX7_canMark 3 = .ok (.if_icmp .le 38, 3) := by decide +kernel
theorem dX7_canMark_6 : decode cX7_canMark 6 = .ok (.iload_n 0, 1) := by decide +kernel
theorem dX7_canMark_7 : decode cX7_canMark 7 = .ok (.invokestatic 108, 3) := by decide +kernel
theorem dX7_canMark_10 : decode cX7_canMark 10 = .ok (.ifCond .ne 31, 3) := by decide +kernel
theorem dX7_canMark_13 : decode cX7_canMark 13 = .ok (.iload_n 0, 1) := by decide +kernel
theorem dX7_canMark_14 : decode cX7_canMark 14 = .ok (.bipush 97, 2) := by decide +kernel
theorem dX7_canMark_16 : decode cX7_canMark 16 = .ok (.if_icmp .lt 9, 3) := by decide +kernel
theorem dX7_canMark_19 : decode cX7_canMark 19 = .ok (.iload_n 0, 1) := by decide +kernel
theorem dX7_canMark_20 : decode cX7_canMark 20 = .ok (.bipush 122, 2) := by decide +kernel
theorem dX7_canMark_22 : decode cX7_canMark 22 = .ok (.if_icmp .le 19, 3) := by decide +kernel
theorem dX7_canMark_25 : decode cX7_canMark 25 = .ok (.iload_n 0, 1) := by decide +kernel
theorem dX7_canMark_26 : decode cX7_canMark 26 = .ok (.bipush 48, 2) := by decide +kernel
theorem dX7_canMark_28 : decode cX7_canMark 28 = .ok (.if_icmp .lt 9, 3) := by decide +kernel
theorem dX7_canMark_31 : decode cX7_canMark 31 = .ok (.iload_n 0, 1) := by decide +kernel
theorem dX7_canMark_32 : decode cX7_canMark 32 = .ok (.bipush 57, 2) := by decide +kernel
theorem dX7_canMark_34 : decode cX7_canMark 34 = .ok (.if_icmp .le 7, 3) := by decide +kernel
theorem dX7_canMark_37 : decode cX7_canMark 37 = .ok (.iconst 1, 1) := by decide +kernel
theorem dX7_canMark_38 : decode cX7_canMark 38 = .ok (.goto 4, 3) := by decide +kernel
theorem dX7_canMark_41 : decode cX7_canMark 41 = .ok (.iconst 0, 1) := by decide +kernel
theorem dX7_canMark_42 : decode cX7_canMark 42 = .ok (.ireturn, 1) := by decide +kernel
theorem dX7_marks_0 : decode cX7_marks 0 = .ok (.aload_n 0, 1) := by decide +kernel
theorem dX7_marks_1 : decode cX7_marks 1 = .ok (.bipush 58, 2) := by decide +kernel
theorem dX7_marks_3 : decode cX7_marks 3 = .ok (.putfield 142, 3) := by decide +kernel
theorem dX7_marks_6 : decode cX7_marks 6 = .ok (.aload_n 0, 1) := by decide +kernel
theorem dX7_marks_7 : decode cX7_marks 7 = .ok (.bipush 43, 2) := by decide +kernel
theorem dX7_marks_9 : decode cX7_marks 9 = .ok (.putfield 145, 3) := by decide +kernel
theorem dX7_marks_12 : decode cX7_marks 12 = .ok (.aload_n 0, 1) := by decide +kernel
theorem dX7_marks_13 : decode cX7_marks 13 = .ok (.bipush 63, 2) := by decide +kernel
theorem dX7_marks_15 : decode cX7_marks 15 = .ok (.putfield 148, 3) := by decide +kernel
theorem dX7_marks_18 : decode cX7_marks 18 = .ok (.aload_n 0, 1) := by decide +kernel
theorem dX7_marks_19 : decode cX7_marks 19 = .ok (.bipush 39, 2) := by decide +kernel
theorem dX7_marks_21 : decode cX7_marks 21 = .ok (.putfield 151, 3) := by decide +kernel
theorem dX7_marks_24 : decode cX7_marks 24 = .ok (.aload_n 0, 1) := by decide +kernel
theorem dX7_marks_25 : decode cX7_marks 25 = .ok (.getfield 105, 3) := by decide +kernel
theorem dX7_marks_28 : decode cX7_marks 28 = .ok (.iconst 3, 1) := by decide +kernel
theorem dX7_marks_29 : decode cX7_marks 29 = .ok (.if_icmp .lt 36, 3) := by decide +kernel
theorem dX7_marks_32 : decode cX7_marks 32 = .ok (.aload_n 0, 1) := by decide +kernel
theorem dX7_marks_33 : decode cX7_marks 33 = .ok (.getfield 7, 3) := by decide +kernel
theorem dX7_marks_36 : decode cX7_marks 36 = .ok (.iconst 0, 1) := by decide +kernel
theorem dX7_marks_37 : decode cX7_marks 37 = .ok (.iaload, 1) := by decide +kernel
theorem dX7_marks_38 : decode cX7_marks 38 = .ok (.bipush 85, 2) := by decide +kernel
theorem dX7_marks_40 : decode cX7_marks 40 = .ok (.if_icmp .ne 25, 3) := by decide +kernel
theorem dX7_marks_43 : decode cX7_marks 43 = .ok (.aload_n 0, 1) := by decide +kernel
theorem dX7_marks_44 : decode cX7_marks 44 = .ok (.getfield 7, 3) := by decide +kernel
theorem dX7_marks_47 : decode cX7_marks 47 = .ok (.iconst 1, 1) := by decide +kernel
theorem dX7_marks_48 : decode cX7_marks 48 = .ok (.iaload, 1) := by decide +kernel
theorem dX7_marks_49 : decode cX7_marks 49 = .ok (.bipush 78, 2) := by decide +kernel
theorem dX7_marks_51 : decode cX7_marks 51 = .ok (.if_icmp .ne 14, 3) := by decide +kernel
theorem dX7_marks_54 : decode cX7_marks 54 = .ok (.aload_n 0, 1) := by decide +kernel
theorem dX7_marks_55 : decode cX7_marks 55 = .ok (.getfield 7, 3) := by decide +kernel
theorem dX7_marks_58 : decode cX7_marks 58 = .ok (.iconst 2, 1) := by decide +kernel
theorem dX7_marks_59 : decode cX7_marks 59 = .ok (.iaload, 1) := by decide +kernel
theorem dX7_marks_60 : decode cX7_marks 60 = .ok (.bipush 65, 2) := by decide +kernel
theorem dX7_marks_62 : decode cX7_marks 62 = .ok (.if_icmp .eq 5, 3) := by decide +kernel
theorem dX7_marks_65 : decode cX7_marks 65 = .ok (.iconst 0, 1) := by decide +kernel
theorem dX7_marks_66 : decode cX7_marks 66 = .ok (.ireturn, 1) := by decide +kernel
theorem dX7_marks_67 : decode cX7_marks 67 = .ok (.iconst 3, 1) := by decide +kernel
theorem dX7_marks_68 : decode cX7_marks 68 = .ok (.istore_n 1, 1) := by decide +kernel
theorem dX7_marks_69 : decode cX7_marks 69 = .ok (.iload_n 1, 1) := by decide +kernel
theorem dX7_marks_70 : decode cX7_marks 70 = .ok (.bipush 9, 2) := by decide +kernel
theorem dX7_marks_72 : decode cX7_marks 72 = .ok (.if_icmp .ge 157, 3) := by decide +kernel
theorem dX7_marks_75 : decode cX7_marks 75 = .ok (.aload_n 0, 1) := by decide +kernel
theorem dX7_marks_76 : decode cX7_marks 76 = .ok (.iload_n 1, 1) := by decide +kernel
theorem dX7_marks_77 : decode cX7_marks 77 = .ok (.putfield 32, 3) := by decide +kernel
theorem dX7_marks_80 : decode cX7_marks 80 = .ok (.iload_n 1, 1) := by decide +kernel
theorem dX7_marks_81 : decode cX7_marks 81 = .ok (.aload_n 0, 1) := by decide +kernel
theorem dX7_marks_82 : decode cX7_marks 82 = .ok (.getfield 105, 3) := by decide +kernel
theorem dX7_marks_85 : decode cX7_marks 85 = .ok (.if_icmp .ne 5, 3) := by decide +kernel
theorem dX7_marks_88 : decode cX7_marks 88 = .ok (.iconst (-1), 1) := by decide +kernel
theorem dX7_marks_89 : decode cX7_marks 89 = .ok (.ireturn, 1) := by decide +kernel
theorem dX7_marks_90 : decode cX7_marks 90 = .ok (.aload_n 0, 1) := by decide +kernel
theorem dX7_marks_91 : decode cX7_marks 91 = .ok (.getfield 7, 3) := by decide +kernel
theorem dX7_marks_94 : decode cX7_marks 94 = .ok (.iload_n 1, 1) := by decide +kernel
theorem dX7_marks_95 : decode cX7_marks 95 = .ok (.iaload, 1) := by decide +kernel
theorem dX7_marks_96 : decode cX7_marks 96 = .ok (.istore_n 2, 1) := by decide +kernel
theorem dX7_marks_97 : decode cX7_marks 97 = .ok (.iload_n 1, 1) := by decide +kernel
theorem dX7_marks_98 : decode cX7_marks 98 = .ok (.iconst 5, 1) := by decide +kernel
theorem dX7_marks_99 : decode cX7_marks 99 = .ok (.if_icmp .eq 37, 3) := by decide +kernel
theorem dX7_marks_102 : decode cX7_marks 102 = .ok (.iload_n 1, 1) := by decide +kernel
theorem dX7_marks_103 : decode cX7_marks 103 = .ok (.bipush 7, 2) := by decide +kernel
theorem dX7_marks_105 : decode cX7_marks 105 = .ok (.if_icmp .ne 12, 3) := by decide +kernel
theorem dX7_marks_108 : decode cX7_marks 108 = .ok (.iload_n 2, 1) := by decide +kernel
theorem dX7_marks_109 : decode cX7_marks 109 = .ok (.bipush 32, 2) := by decide +kernel
theorem dX7_marks_111 : decode cX7_marks 111 = .ok (.if_icmp .ne 29, 3) := by decide +kernel
theorem dX7_marks_114 : decode cX7_marks 114 = .ok (.goto 22, 3) := by decide +kernel
theorem dX7_marks_117 : decode cX7_marks 117 = .ok (.iload_n 2, 1) := by decide +kernel
theorem dX7_marks_118 : decode cX7_marks 118 = .ok (.invokestatic 154, 3) := by decide +kernel
theorem dX7_marks_121 : decode cX7_marks 121 = .ok (.ifCond .ne 15, 3) := by decide +kernel
theorem dX7_marks_124 : decode cX7_marks 124 = .ok (.iload_n 1, 1) := by decide +kernel
theorem dX7_marks_125 : decode cX7_marks 125 = .ok (.bipush 6, 2) := by decide +kernel
theorem dX7_marks_127 : decode cX7_marks 127 = .ok (.if_icmp .ne 13, 3) := by decide +kernel
theorem dX7_marks_130 : decode cX7_marks 130 = .ok (.iload_n 2, 1) := by decide +kernel
theorem dX7_marks_131 : decode cX7_marks 131 = .ok (.bipush 32, 2) := by decide +kernel
theorem dX7_marks_133 : decode cX7_marks 133 = .ok (.if_icmp .ne 7, 3) := by decide +kernel
theorem dX7_marks_136 : decode cX7_marks 136 = .ok (.iconst 1, 1) := by decide +kernel
theorem dX7_marks_137 : decode cX7_marks 137 = .ok (.goto 4, 3) := by decide +kernel
theorem dX7_marks_140 : decode cX7_marks 140 = .ok (.iconst 0, 1) := by decide +kernel
theorem dX7_marks_141 : decode cX7_marks 141 = .ok (.istore_n 3, 1) := by decide +kernel
theorem dX7_marks_142 : decode cX7_marks 142 = .ok (.iload_n 3, 1) := by decide +kernel
theorem dX7_marks_143 : decode cX7_marks 143 = .ok (.ifCond .eq 72, 3) := by decide +kernel
theorem dX7_marks_146 : decode cX7_marks 146 = .ok (.iload_n 1, 1) := by decide +kernel
theorem dX7_marks_147 : decode cX7_marks 147 = .ok (.iconst 4, 1) := by decide +kernel
theorem dX7_marks_148 : decode cX7_marks 148 = .ok (.if_icmp .lt 24, 3) := by decide +kernel
theorem dX7_marks_151 : decode cX7_marks 151 = .ok (.iload_n 1, 1) := by decide +kernel
theorem dX7_marks_152 : decode cX7_marks 152 = .ok (.iconst 5, 1) := by decide +kernel
theorem dX7_marks_153 : decode cX7_marks 153 = .ok (.if_icmp .eq 19, 3) := by decide +kernel
theorem dX7_marks_156 : decode cX7_marks 156 = .ok (.iload_n 1, 1) := by decide +kernel
theorem dX7_marks_157 : decode cX7_marks 157 = .ok (.bipush 7, 2) := by decide +kernel
theorem dX7_marks_159 : decode cX7_marks 159 = .ok (.if_icmp .eq 13, 3) := by decide +kernel
theorem dX7_marks_162 : decode cX7_marks 162 = .ok (.iload_n 2, 1) := by decide +kernel
theorem dX7_marks_163 : decode cX7_marks 163 = .ok (.aload_n 0, 1) := by decide +kernel
theorem dX7_marks_164 : decode cX7_marks 164 = .ok (.getfield 7, 3) := by decide +kernel
theorem dX7_marks_167 : decode cX7_marks 167 = .ok (.iconst 3, 1) := by decide +kernel
theorem dX7_marks_168 : decode cX7_marks 168 = .ok (.iaload, 1) := by decide +kernel
theorem dX7_marks_169 : decode cX7_marks 169 = .ok (.if_icmp .eq 46, 3) := by decide +kernel
theorem dX7_marks_172 : decode cX7_marks 172 = .ok (.iload_n 1, 1) := by decide +kernel
theorem dX7_marks_173 : decode cX7_marks 173 = .ok (.bipush 6, 2) := by decide +kernel
theorem dX7_marks_175 : decode cX7_marks 175 = .ok (.if_icmp .lt 19, 3) := by decide +kernel
theorem dX7_marks_178 : decode cX7_marks 178 = .ok (.iload_n 1, 1) := by decide +kernel
theorem dX7_marks_179 : decode cX7_marks 179 = .ok (.bipush 7, 2) := by decide +kernel
theorem dX7_marks_181 : decode cX7_marks 181 = .ok (.if_icmp .eq 13, 3) := by decide +kernel
theorem dX7_marks_184 : decode cX7_marks 184 = .ok (.iload_n 2, 1) := by decide +kernel
theorem dX7_marks_185 : decode cX7_marks 185 = .ok (.aload_n 0, 1) := by decide +kernel
theorem dX7_marks_186 : decode cX7_marks 186 = .ok (.getfield 7, 3) := by decide +kernel
theorem dX7_marks_189 : decode cX7_marks 189 = .ok (.iconst 4, 1) := by decide +kernel
theorem dX7_marks_190 : decode cX7_marks 190 = .ok (.iaload, 1) := by decide +kernel
theorem dX7_marks_191 : decode cX7_marks 191 = .ok (.if_icmp .eq 24, 3) := by decide +kernel
theorem dX7_marks_194 : decode cX7_marks 194 = .ok (.iload_n 1, 1) := by decide +kernel
theorem dX7_marks_195 : decode cX7_marks 195 = .ok (.bipush 8, 2) := by decide +kernel
theorem dX7_marks_197 : decode cX7_marks 197 = .ok (.if_icmp .lt 14, 3) := by decide +kernel
theorem dX7_marks_200 : decode cX7_marks 200 = .ok (.iload_n 2, 1) := by decide +kernel
theorem dX7_marks_201 : decode cX7_marks 201 = .ok (.aload_n 0, 1) := by decide +kernel
theorem dX7_marks_202 : decode cX7_marks 202 = .ok (.getfield 7, 3) := by decide +kernel
theorem dX7_marks_205 : decode cX7_marks 205 = .ok (.bipush 6, 2) := by decide +kernel
theorem dX7_marks_207 : decode cX7_marks 207 = .ok (.iaload, 1) := by decide +kernel
theorem dX7_marks_208 : decode cX7_marks 208 = .ok (.if_icmp .eq 7, 3) := by decide +kernel
theorem dX7_marks_211 : decode cX7_marks 211 = .ok (.iconst 1, 1) := by decide +kernel
theorem dX7_marks_212 : decode cX7_marks 212 = .ok (.goto 4, 3) := by decide +kernel
theorem dX7_marks_215 : decode cX7_marks 215 = .ok (.iconst 0, 1) := by decide +kernel
theorem dX7_marks_216 : decode cX7_marks 216 = .ok (.istore_n 3, 1) := by decide +kernel
theorem dX7_marks_217 : decode cX7_marks 217 = .ok (.iload_n 3, 1) := by decide +kernel
theorem dX7_marks_218 : decode cX7_marks 218 = .ok (.ifCond .ne 5, 3) := by decide +kernel
theorem dX7_marks_221 : decode cX7_marks 221 = .ok (.iconst (-1), 1) := by decide +kernel
theorem dX7_marks_222 : decode cX7_marks 222 = .ok (.ireturn, 1) := by decide +kernel
theorem dX7_marks_223 : decode cX7_marks 223 = .ok (.iinc 1 1, 3) := by decide +kernel
theorem dX7_marks_226 : decode cX7_marks 226 = .ok (.goto (-157), 3) := by decide +kernel
theorem dX7_marks_229 : decode cX7_marks 229 = .ok (.aload_n 0, 1) := by decide +kernel
theorem dX7_marks_230 : decode cX7_marks 230 = .ok (.aload_n 0, 1) := by decide +kernel
theorem dX7_marks_231 : decode cX7_marks 231 = .ok (.getfield 7, 3) := by decide +kernel
theorem dX7_marks_234 : decode cX7_marks 234 = .ok (.iconst 3, 1) := by decide +kernel
theorem dX7_marks_235 : decode cX7_marks 235 = .ok (.iaload, 1) := by decide +kernel
theorem dX7_marks_236 : decode cX7_marks 236 = .ok (.putfield 142, 3) := by decide +kernel
theorem dX7_marks_239 : decode cX7_marks 239 = .ok (.aload_n 0, 1) := by decide +kernel
theorem dX7_marks_240 : decode cX7_marks 240 = .ok (.aload_n 0, 1) := by decide +kernel
theorem dX7_marks_241 : decode cX7_marks 241 = .ok (.getfield 7, 3) := by decide +kernel
theorem dX7_marks_244 : decode cX7_marks 244 = .ok (.iconst 4, 1) := by decide +kernel
theorem dX7_marks_245 : decode cX7_marks 245 = .ok (.iaload, 1) := by decide +kernel
theorem dX7_marks_246 : decode cX7_marks 246 = .ok (.putfield 145, 3) := by decide +kernel
theorem dX7_marks_249 : decode cX7_marks 249 = .ok (.aload_n 0, 1) := by decide +kernel
theorem dX7_marks_250 : decode cX7_marks 250 = .ok (.aload_n 0, 1) := by decide +kernel
theorem dX7_marks_251 : decode cX7_marks 251 = .ok (.getfield 7, 3) := by decide +kernel
theorem dX7_marks_254 : decode cX7_marks 254 = .ok (.bipush 6, 2) := by decide +kernel
theorem dX7_marks_256 : decode cX7_marks 256 = .ok (.iaload, 1) := by decide +kernel
theorem dX7_marks_257 : decode cX7_marks 257 = .ok (.bipush 32, 2) := by decide +kernel
theorem dX7_marks_259 : decode cX7_marks 259 = .ok (.if_icmp .ne 7, 3) := by decide +kernel
theorem dX7_marks_262 : decode cX7_marks 262 = .ok (.iconst 0, 1) := by decide +kernel
theorem dX7_marks_263 : decode cX7_marks 263 = .ok (.goto 10, 3) := by decide +kernel
theorem dX7_marks_266 : decode cX7_marks 266 = .ok (.aload_n 0, 1) := by decide +kernel
theorem dX7_marks_267 : decode cX7_marks 267 = .ok (.getfield 7, 3) := by decide +kernel
theorem dX7_marks_270 : decode cX7_marks 270 = .ok (.bipush 6, 2) := by decide +kernel
theorem dX7_marks_272 : decode cX7_marks 272 = .ok (.iaload, 1) := by decide +kernel
theorem dX7_marks_273 : decode cX7_marks 273 = .ok (.putfield 148, 3) := by decide +kernel
theorem dX7_marks_276 : decode cX7_marks 276 = .ok (.aload_n 0, 1) := by decide +kernel
theorem dX7_marks_277 : decode cX7_marks 277 = .ok (.aload_n 0, 1) := by decide +kernel
theorem dX7_marks_278 : decode cX7_marks 278 = .ok (.getfield 7, 3) := by decide +kernel
theorem dX7_marks_281 : decode cX7_marks 281 = .ok (.bipush 8, 2) := by decide +kernel
theorem dX7_marks_283 : decode cX7_marks 283 = .ok (.iaload, 1) := by decide +kernel
theorem dX7_marks_284 : decode cX7_marks 284 = .ok (.putfield 151, 3) := by decide +kernel
theorem dX7_marks_287 : decode cX7_marks 287 = .ok (.bipush 9, 2) := by decide +kernel
theorem dX7_marks_289 : decode cX7_marks 289 = .ok (.ireturn, 1) := by decide +kernel
theorem dX7_beginComponent_0 : decode cX7_beginComponent 0 = .ok (.aload_n 0, 1) := by decide +kernel
theorem dX7_beginComponent_1 : decode cX7_beginComponent 1 = .ok (.getfield 45, 3) := by decide +kernel
theorem dX7_beginComponent_4 : decode cX7_beginComponent 4 = .ok (.aload_n 0, 1) := by decide +kernel
theorem dX7_beginComponent_5 : decode cX7_beginComponent 5 = .ok (.getfield 157, 3) := by decide +kernel
theorem dX7_beginComponent_8 : decode cX7_beginComponent 8 = .ok (.aload_n 0, 1) := by decide +kernel
theorem dX7_beginComponent_9 : decode cX7_beginComponent 9 = .ok (.getfield 160, 3) := by decide +kernel
theorem dX7_beginComponent_12 : decode cX7_beginComponent 12 = .ok (.iastore, 1) := by decide +kernel
theorem dX7_beginComponent_13 : decode cX7_beginComponent 13 = .ok (.aload_n 0, 1) := by decide +kernel
theorem dX7_beginComponent_14 : decode cX7_beginComponent 14 = .ok (.dup, 1) := by decide +kernel
theorem dX7_beginComponent_15 : decode cX7_beginComponent 15 = .ok (.getfield 157, 3) := by decide +kernel
theorem dX7_beginComponent_18 : decode cX7_beginComponent 18 = .ok (.iconst 1, 1) := by decide +kernel
theorem dX7_beginComponent_19 : decode cX7_beginComponent 19 = .ok (.iadd, 1) := by decide +kernel
theorem dX7_beginComponent_20 : decode cX7_beginComponent 20 = .ok (.putfield 157, 3) := by decide +kernel
theorem dX7_beginComponent_23 : decode cX7_beginComponent 23 = .ok (.aload_n 0, 1) := by decide +kernel
theorem dX7_beginComponent_24 : decode cX7_beginComponent 24 = .ok (.getfield 45, 3) := by decide +kernel
theorem dX7_beginComponent_27 : decode cX7_beginComponent 27 = .ok (.aload_n 0, 1) := by decide +kernel
theorem dX7_beginComponent_28 : decode cX7_beginComponent 28 = .ok (.getfield 157, 3) := by decide +kernel
theorem dX7_beginComponent_31 : decode cX7_beginComponent 31 = .ok (.aload_n 0, 1) := by decide +kernel
theorem dX7_beginComponent_32 : decode cX7_beginComponent 32 = .ok (.getfield 160, 3) := by decide +kernel
theorem dX7_beginComponent_35 : decode cX7_beginComponent 35 = .ok (.iastore, 1) := by decide +kernel
theorem dX7_beginComponent_36 : decode cX7_beginComponent 36 = .ok (.return_, 1) := by decide +kernel
theorem dX7_beginElement_0 : decode cX7_beginElement 0 = .ok (.aload_n 0, 1) := by decide +kernel
theorem dX7_beginElement_1 : decode cX7_beginElement 1 = .ok (.getfield 42, 3) := by decide +kernel
theorem dX7_beginElement_4 : decode cX7_beginElement 4 = .ok (.aload_n 0, 1) := by decide +kernel
theorem dX7_beginElement_5 : decode cX7_beginElement 5 = .ok (.getfield 163, 3) := by decide +kernel
theorem dX7_beginElement_8 : decode cX7_beginElement 8 = .ok (.aload_n 0, 1) := by decide +kernel
theorem dX7_beginElement_9 : decode cX7_beginElement 9 = .ok (.getfield 157, 3) := by decide +kernel
theorem dX7_beginElement_12 : decode cX7_beginElement 12 = .ok (.iastore, 1) := by decide +kernel
theorem dX7_beginElement_13 : decode cX7_beginElement 13 = .ok (.aload_n 0, 1) := by decide +kernel
theorem dX7_beginElement_14 : decode cX7_beginElement 14 = .ok (.dup, 1) := by decide +kernel
theorem dX7_beginElement_15 : decode cX7_beginElement 15 = .ok (.getfield 163, 3) := by decide +kernel
theorem dX7_beginElement_18 : decode cX7_beginElement 18 = .ok (.iconst 1, 1) := by decide +kernel
theorem dX7_beginElement_19 : decode cX7_beginElement 19 = .ok (.iadd, 1) := by decide +kernel
theorem dX7_beginElement_20 : decode cX7_beginElement 20 = .ok (.putfield 163, 3) := by decide +kernel
theorem dX7_beginElement_23 : decode cX7_beginElement 23 = .ok (.aload_n 0, 1) := by decide +kernel
theorem dX7_beginElement_24 : decode cX7_beginElement 24 = .ok (.invokevirtual 166, 3) := by decide +kernel
theorem dX7_beginElement_27 : decode cX7_beginElement 27 = .ok (.aload_n 0, 1) := by decide +kernel
theorem dX7_beginElement_28 : decode cX7_beginElement 28 = .ok (.getfield 42, 3) := by decide +kernel
theorem dX7_beginElement_31 : decode cX7_beginElement 31 = .ok (.aload_n 0, 1) := by decide +kernel
theorem dX7_beginElement_32 : decode cX7_beginElement 32 = .ok (.getfield 163, 3) := by decide +kernel
theorem dX7_beginElement_35 : decode cX7_beginElement 35 = .ok (.aload_n 0, 1) := by decide +kernel
theorem dX7_beginElement_36 : decode cX7_beginElement 36 = .ok (.getfield 157, 3) := by decide +kernel
theorem dX7_beginElement_39 : decode cX7_beginElement 39 = .ok (.iastore, 1) := by decide +kernel
theorem dX7_beginElement_40 : decode cX7_beginElement 40 = .ok (.return_, 1) := by decide +kernel
theorem dX7_put_0 : decode cX7_put 0 = .ok (.aload_n 0, 1) := by decide +kernel
theorem dX7_put_1 : decode cX7_put 1 = .ok (.getfield 48, 3) := by decide +kernel
theorem dX7_put_4 : decode cX7_put 4 = .ok (.aload_n 0, 1) := by decide +kernel
theorem dX7_put_5 : decode cX7_put 5 = .ok (.getfield 160, 3) := by decide +kernel
theorem dX7_put_8 : decode cX7_put 8 = .ok (.iload_n 1, 1) := by decide +kernel
theorem dX7_put_9 : decode cX7_put 9 = .ok (.iastore, 1) := by decide +kernel
theorem dX7_put_10 : decode cX7_put 10 = .ok (.aload_n 0, 1) := by decide +kernel
theorem dX7_put_11 : decode cX7_put 11 = .ok (.dup, 1) := by decide +kernel
theorem dX7_put_12 : decode cX7_put 12 = .ok (.getfield 160, 3) := by decide +kernel
theorem dX7_put_15 : decode cX7_put 15 = .ok (.iconst 1, 1) := by decide +kernel
theorem dX7_put_16 : decode cX7_put 16 = .ok (.iadd, 1) := by decide +kernel
theorem dX7_put_17 : decode cX7_put 17 = .ok (.putfield 160, 3) := by decide +kernel
theorem dX7_put_20 : decode cX7_put 20 = .ok (.aload_n 0, 1) := by decide +kernel
theorem dX7_put_21 : decode cX7_put 21 = .ok (.getfield 45, 3) := by decide +kernel
theorem dX7_put_24 : decode cX7_put 24 = .ok (.aload_n 0, 1) := by decide +kernel
theorem dX7_put_25 : decode cX7_put 25 = .ok (.getfield 157, 3) := by decide +kernel
theorem dX7_put_28 : decode cX7_put 28 = .ok (.aload_n 0, 1) := by decide +kernel
theorem dX7_put_29 : decode cX7_put 29 = .ok (.getfield 160, 3) := by decide +kernel
theorem dX7_put_32 : decode cX7_put 32 = .ok (.iastore, 1) := by decide +kernel
theorem dX7_put_33 : decode cX7_put 33 = .ok (.return_, 1) := by decide +kernel
theorem dX7_next_0 : decode cX7_next 0 = .ok (.iload_n 1, 1) := by decide +kernel
theorem dX7_next_1 : decode cX7_next 1 = .ok (.iconst 3, 1) := by decide +kernel
theorem dX7_next_2 : decode cX7_next 2 = .ok (.if_icmp .ge 56, 3) := by decide +kernel
theorem dX7_next_5 : decode cX7_next 5 = .ok (.iload_n 2, 1) := by decide +kernel
theorem dX7_next_6 : decode cX7_next 6 = .ok (.invokestatic 108, 3) := by decide +kernel
theorem dX7_next_9 : decode cX7_next 9 = .ok (.ifCond .eq 12, 3) := by decide +kernel
theorem dX7_next_12 : decode cX7_next 12 = .ok (.aload_n 0, 1) := by decide +kernel
theorem dX7_next_13 : decode cX7_next 13 = .ok (.getfield 169, 3) := by decide +kernel
theorem dX7_next_16 : decode cX7_next 16 = .ok (.bipush 40, 2) := by decide +kernel
theorem dX7_next_18 : decode cX7_next 18 = .ok (.if_icmp .ne 5, 3) := by decide +kernel
theorem dX7_next_21 : decode cX7_next 21 = .ok (.iconst (-1), 1) := by decide +kernel
theorem dX7_next_22 : decode cX7_next 22 = .ok (.ireturn, 1) := by decide +kernel
theorem dX7_next_23 : decode cX7_next 23 = .ok (.aload_n 0, 1) := by decide +kernel
theorem dX7_next_24 : decode cX7_next 24 = .ok (.getfield 36, 3) := by decide +kernel
theorem dX7_next_27 : decode cX7_next 27 = .ok (.aload_n 0, 1) := by decide +kernel
theorem dX7_next_28 : decode cX7_next 28 = .ok (.getfield 169, 3) := by decide +kernel
theorem dX7_next_31 : decode cX7_next 31 = .ok (.iload_n 1, 1) := by decide +kernel
theorem dX7_next_32 : decode cX7_next 32 = .ok (.ifCond .ne 7, 3) := by decide +kernel
theorem dX7_next_35 : decode cX7_next 35 = .ok (.iload_n 2, 1) := by decide +kernel
theorem dX7_next_36 : decode cX7_next 36 = .ok (.goto 17, 3) := by decide +kernel
theorem dX7_next_39 : decode cX7_next 39 = .ok (.aload_n 0, 1) := by decide +kernel
theorem dX7_next_40 : decode cX7_next 40 = .ok (.getfield 36, 3) := by decide +kernel
theorem dX7_next_43 : decode cX7_next 43 = .ok (.aload_n 0, 1) := by decide +kernel
theorem dX7_next_44 : decode cX7_next 44 = .ok (.getfield 169, 3) := by decide +kernel
theorem dX7_next_47 : decode cX7_next 47 = .ok (.iaload, 1) := by decide +kernel
theorem dX7_next_48 : decode cX7_next 48 = .ok (.bipush 8, 2) := by decide +kernel
theorem dX7_next_50 : decode cX7_next 50 = .ok (.ishl, 1) := by decide +kernel
theorem dX7_next_51 : decode cX7_next 51 = .ok (.iload_n 2, 1) := by decide +kernel
theorem dX7_next_52 : decode cX7_next 52 = .ok (.ior, 1) := by decide +kernel
theorem dX7_next_53 : decode cX7_next 53 = .ok (.iastore, 1) := by decide +kernel
theorem dX7_next_54 : decode cX7_next 54 = .ok (.iload_n 1, 1) := by decide +kernel
theorem dX7_next_55 : decode cX7_next 55 = .ok (.iconst 1, 1) := by decide +kernel
theorem dX7_next_56 : decode cX7_next 56 = .ok (.iadd, 1) := by decide +kernel
theorem dX7_next_57 : decode cX7_next 57 = .ok (.ireturn, 1) := by decide +kernel
theorem dX7_next_58 : decode cX7_next 58 = .ok (.iload_n 1, 1) := by decide +kernel
theorem dX7_next_59 : decode cX7_next 59 = .ok (.iconst 5, 1) := by decide +kernel
theorem dX7_next_60 : decode cX7_next 60 = .ok (.if_icmp .ne 10, 3) := by decide +kernel
theorem dX7_next_63 : decode cX7_next 63 = .ok (.aload_n 0, 1) := by decide +kernel
theorem dX7_next_64 : decode cX7_next 64 = .ok (.iload_n 2, 1) := by decide +kernel
theorem dX7_next_65 : decode cX7_next 65 = .ok (.invokevirtual 172, 3) := by decide +kernel
theorem dX7_next_68 : decode cX7_next 68 = .ok (.iconst 4, 1) := by decide +kernel
theorem dX7_next_69 : decode cX7_next 69 = .ok (.ireturn, 1) := by decide +kernel
theorem dX7_next_70 : decode cX7_next 70 = .ok (.iload_n 2, 1) := by decide +kernel
theorem dX7_next_71 : decode cX7_next 71 = .ok (.aload_n 0, 1) := by decide +kernel
theorem dX7_next_72 : decode cX7_next 72 = .ok (.getfield 151, 3) := by decide +kernel
theorem dX7_next_75 : decode cX7_next 75 = .ok (.if_icmp .ne 28, 3) := by decide +kernel
theorem dX7_next_78 : decode cX7_next 78 = .ok (.aload_n 0, 1) := by decide +kernel
theorem dX7_next_79 : decode cX7_next 79 = .ok (.dup, 1) := by decide +kernel
theorem dX7_next_80 : decode cX7_next 80 = .ok (.getfield 169, 3) := by decide +kernel
theorem dX7_next_83 : decode cX7_next 83 = .ok (.iconst 1, 1) := by decide +kernel
theorem dX7_next_84 : decode cX7_next 84 = .ok (.iadd, 1) := by decide +kernel
theorem dX7_next_85 : decode cX7_next 85 = .ok (.putfield 169, 3) := by decide +kernel
theorem dX7_next_88 : decode cX7_next 88 = .ok (.aload_n 0, 1) := by decide +kernel
theorem dX7_next_89 : decode cX7_next 89 = .ok (.getfield 39, 3) := by decide +kernel
theorem dX7_next_92 : decode cX7_next 92 = .ok (.aload_n 0, 1) := by decide +kernel
theorem dX7_next_93 : decode cX7_next 93 = .ok (.getfield 169, 3) := by decide +kernel
theorem dX7_next_96 : decode cX7_next 96 = .ok (.aload_n 0, 1) := by decide +kernel
theorem dX7_next_97 : decode cX7_next 97 = .ok (.getfield 163, 3) := by decide +kernel
theorem dX7_next_100 : decode cX7_next 100 = .ok (.iastore, 1) := by decide +kernel
theorem dX7_next_101 : decode cX7_next 101 = .ok (.iconst 0, 1) := by decide +kernel
theorem dX7_next_102 : decode cX7_next 102 = .ok (.ireturn, 1) := by decide +kernel
theorem dX7_next_103 : decode cX7_next 103 = .ok (.iload_n 2, 1) := by decide +kernel
theorem dX7_next_104 : decode cX7_next 104 = .ok (.aload_n 0, 1) := by decide +kernel
theorem dX7_next_105 : decode cX7_next 105 = .ok (.getfield 145, 3) := by decide +kernel
theorem dX7_next_108 : decode cX7_next 108 = .ok (.if_icmp .ne 20, 3) := by decide +kernel
theorem dX7_next_111 : decode cX7_next 111 = .ok (.aload_n 0, 1) := by decide +kernel
theorem dX7_next_112 : decode cX7_next 112 = .ok (.getfield 157, 3) := by decide +kernel
theorem dX7_next_115 : decode cX7_next 115 = .ok (.bipush 120, 2) := by decide +kernel
theorem dX7_next_117 : decode cX7_next 117 = .ok (.if_icmp .ne 5, 3) := by decide +kernel
theorem dX7_next_120 : decode cX7_next 120 = .ok (.iconst (-1), 1) := by decide +kernel
theorem dX7_next_121 : decode cX7_next 121 = .ok (.ireturn, 1) := by decide +kernel
theorem dX7_next_122 : decode cX7_next 122 = .ok (.aload_n 0, 1) := by decide +kernel
theorem dX7_next_123 : decode cX7_next 123 = .ok (.invokevirtual 176, 3) := by decide +kernel
theorem dX7_next_126 : decode cX7_next 126 = .ok (.iconst 4, 1) := by decide +kernel
theorem dX7_next_127 : decode cX7_next 127 = .ok (.ireturn, 1) := by decide +kernel
theorem dX7_next_128 : decode cX7_next 128 = .ok (.iload_n 1, 1) := by decide +kernel
theorem dX7_next_129 : decode cX7_next 129 = .ok (.iconst 3, 1) := by decide +kernel
theorem dX7_next_130 : decode cX7_next 130 = .ok (.if_icmp .ne 5, 3) := by decide +kernel
theorem dX7_next_133 : decode cX7_next 133 = .ok (.iconst (-1), 1) := by decide +kernel
theorem dX7_next_134 : decode cX7_next 134 = .ok (.ireturn, 1) := by decide +kernel
theorem dX7_next_135 : decode cX7_next 135 = .ok (.iload_n 2, 1) := by decide +kernel
theorem dX7_next_136 : decode cX7_next 136 = .ok (.aload_n 0, 1) := by decide +kernel
theorem dX7_next_137 : decode cX7_next 137 = .ok (.getfield 142, 3) := by decide +kernel
theorem dX7_next_140 : decode cX7_next 140 = .ok (.if_icmp .ne 33, 3) := by decide +kernel
theorem dX7_next_143 : decode cX7_next 143 = .ok (.aload_n 0, 1) := by decide +kernel
theorem dX7_next_144 : decode cX7_next 144 = .ok (.getfield 157, 3) := by decide +kernel
theorem dX7_next_147 : decode cX7_next 147 = .ok (.bipush 120, 2) := by decide +kernel
theorem dX7_next_149 : decode cX7_next 149 = .ok (.if_icmp .ne 5, 3) := by decide +kernel
theorem dX7_next_152 : decode cX7_next 152 = .ok (.iconst (-1), 1) := by decide +kernel
theorem dX7_next_153 : decode cX7_next 153 = .ok (.ireturn, 1) := by decide +kernel
theorem dX7_next_154 : decode cX7_next 154 = .ok (.aload_n 0, 1) := by decide +kernel
theorem dX7_next_155 : decode cX7_next 155 = .ok (.invokevirtual 166, 3) := by decide +kernel
theorem dX7_next_158 : decode cX7_next 158 = .ok (.aload_n 0, 1) := by decide +kernel
theorem dX7_next_159 : decode cX7_next 159 = .ok (.getfield 42, 3) := by decide +kernel
theorem dX7_next_162 : decode cX7_next 162 = .ok (.aload_n 0, 1) := by decide +kernel
theorem dX7_next_163 : decode cX7_next 163 = .ok (.getfield 163, 3) := by decide +kernel
theorem dX7_next_166 : decode cX7_next 166 = .ok (.aload_n 0, 1) := by decide +kernel
theorem dX7_next_167 : decode cX7_next 167 = .ok (.getfield 157, 3) := by decide +kernel
theorem dX7_next_170 : decode cX7_next 170 = .ok (.iastore, 1) := by decide +kernel
theorem dX7_next_171 : decode cX7_next 171 = .ok (.iconst 4, 1) := by decide +kernel
theorem dX7_next_172 : decode cX7_next 172 = .ok (.ireturn, 1) := by decide +kernel
theorem dX7_next_173 : decode cX7_next 173 = .ok (.iload_n 2, 1) := by decide +kernel
theorem dX7_next_174 : decode cX7_next 174 = .ok (.aload_n 0, 1) := by decide +kernel
theorem dX7_next_175 : decode cX7_next 175 = .ok (.getfield 148, 3) := by decide +kernel
theorem dX7_next_178 : decode cX7_next 178 = .ok (.if_icmp .ne 5, 3) := by decide +kernel
theorem dX7_next_181 : decode cX7_next 181 = .ok (.iconst 5, 1) := by decide +kernel
theorem dX7_next_182 : decode cX7_next 182 = .ok (.ireturn, 1) := by decide +kernel
theorem dX7_next_183 : decode cX7_next 183 = .ok (.aload_n 0, 1) := by decide +kernel
theorem dX7_next_184 : decode cX7_next 184 = .ok (.iload_n 2, 1) := by decide +kernel
theorem dX7_next_185 : decode cX7_next 185 = .ok (.invokevirtual 172, 3) := by decide +kernel
theorem dX7_next_188 : decode cX7_next 188 = .ok (.iconst 4, 1) := by decide +kernel
theorem dX7_next_189 : decode cX7_next 189 = .ok (.ireturn, 1) := by decide +kernel
theorem dX7_scans_0 : decode cX7_scans 0 = .ok (.aload_n 0, 1) := by decide +kernel
theorem dX7_scans_1 : decode cX7_scans 1 = .ok (.invokevirtual 179, 3) := by decide +kernel
theorem dX7_scans_4 : decode cX7_scans 4 = .ok (.istore_n 1, 1) := by decide +kernel
theorem dX7_scans_5 : decode cX7_scans 5 = .ok (.iload_n 1, 1) := by decide +kernel
theorem dX7_scans_6 : decode cX7_scans 6 = .ok (.ifCond .ge 5, 3) := by decide +kernel
theorem dX7_scans_9 : decode cX7_scans 9 = .ok (.iconst 0, 1) := by decide +kernel
theorem dX7_scans_10 : decode cX7_scans 10 = .ok (.ireturn, 1) := by decide +kernel
theorem dX7_scans_11 : decode cX7_scans 11 = .ok (.aload_n 0, 1) := by decide +kernel
theorem dX7_scans_12 : decode cX7_scans 12 = .ok (.iconst 0, 1) := by decide +kernel
theorem dX7_scans_13 : decode cX7_scans 13 = .ok (.putfield 169, 3) := by decide +kernel
theorem dX7_scans_16 : decode cX7_scans 16 = .ok (.aload_n 0, 1) := by decide +kernel
theorem dX7_scans_17 : decode cX7_scans 17 = .ok (.iconst 0, 1) := by decide +kernel
theorem dX7_scans_18 : decode cX7_scans 18 = .ok (.putfield 163, 3) := by decide +kernel
theorem dX7_scans_21 : decode cX7_scans 21 = .ok (.aload_n 0, 1) := by decide +kernel
theorem dX7_scans_22 : decode cX7_scans 22 = .ok (.iconst 0, 1) := by decide +kernel
theorem dX7_scans_23 : decode cX7_scans 23 = .ok (.putfield 157, 3) := by decide +kernel
theorem dX7_scans_26 : decode cX7_scans 26 = .ok (.aload_n 0, 1) := by decide +kernel
theorem dX7_scans_27 : decode cX7_scans 27 = .ok (.iconst 0, 1) := by decide +kernel
theorem dX7_scans_28 : decode cX7_scans 28 = .ok (.putfield 160, 3) := by decide +kernel
theorem dX7_scans_31 : decode cX7_scans 31 = .ok (.aload_n 0, 1) := by decide +kernel
theorem dX7_scans_32 : decode cX7_scans 32 = .ok (.getfield 39, 3) := by decide +kernel
theorem dX7_scans_35 : decode cX7_scans 35 = .ok (.iconst 0, 1) := by decide +kernel
theorem dX7_scans_36 : decode cX7_scans 36 = .ok (.iconst 0, 1) := by decide +kernel
theorem dX7_scans_37 : decode cX7_scans 37 = .ok (.iastore, 1) := by decide +kernel
theorem dX7_scans_38 : decode cX7_scans 38 = .ok (.aload_n 0, 1) := by decide +kernel
theorem dX7_scans_39 : decode cX7_scans 39 = .ok (.getfield 42, 3) := by decide +kernel
theorem dX7_scans_42 : decode cX7_scans 42 = .ok (.iconst 0, 1) := by decide +kernel
theorem dX7_scans_43 : decode cX7_scans 43 = .ok (.iconst 0, 1) := by decide +kernel
theorem dX7_scans_44 : decode cX7_scans 44 = .ok (.iastore, 1) := by decide +kernel
theorem dX7_scans_45 : decode cX7_scans 45 = .ok (.aload_n 0, 1) := by decide +kernel
theorem dX7_scans_46 : decode cX7_scans 46 = .ok (.getfield 45, 3) := by decide +kernel
theorem dX7_scans_49 : decode cX7_scans 49 = .ok (.iconst 0, 1) := by decide +kernel
theorem dX7_scans_50 : decode cX7_scans 50 = .ok (.iconst 0, 1) := by decide +kernel
theorem dX7_scans_51 : decode cX7_scans 51 = .ok (.iastore, 1) := by decide +kernel
theorem dX7_scans_52 : decode cX7_scans 52 = .ok (.iconst 0, 1) := by decide +kernel
theorem dX7_scans_53 : decode cX7_scans 53 = .ok (.istore_n 2, 1) := by decide +kernel
theorem dX7_scans_54 : decode cX7_scans 54 = .ok (.iload_n 1, 1) := by decide +kernel
theorem dX7_scans_55 : decode cX7_scans 55 = .ok (.aload_n 0, 1) := by decide +kernel
theorem dX7_scans_56 : decode cX7_scans 56 = .ok (.getfield 105, 3) := by decide +kernel
theorem dX7_scans_59 : decode cX7_scans 59 = .ok (.if_icmp .ge 30, 3) := by decide +kernel
theorem dX7_scans_62 : decode cX7_scans 62 = .ok (.iload_n 2, 1) := by decide +kernel
theorem dX7_scans_63 : decode cX7_scans 63 = .ok (.ifCond .lt 26, 3) := by decide +kernel
theorem dX7_scans_66 : decode cX7_scans 66 = .ok (.aload_n 0, 1) := by decide +kernel
theorem dX7_scans_67 : decode cX7_scans 67 = .ok (.iload_n 1, 1) := by decide +kernel
theorem dX7_scans_68 : decode cX7_scans 68 = .ok (.putfield 32, 3) := by decide +kernel
theorem dX7_scans_71 : decode cX7_scans 71 = .ok (.aload_n 0, 1) := by decide +kernel
theorem dX7_scans_72 : decode cX7_scans 72 = .ok (.iload_n 2, 1) := by decide +kernel
theorem dX7_scans_73 : decode cX7_scans 73 = .ok (.aload_n 0, 1) := by decide +kernel
theorem dX7_scans_74 : decode cX7_scans 74 = .ok (.getfield 7, 3) := by decide +kernel
theorem dX7_scans_77 : decode cX7_scans 77 = .ok (.iload_n 1, 1) := by decide +kernel
theorem dX7_scans_78 : decode cX7_scans 78 = .ok (.iaload, 1) := by decide +kernel
theorem dX7_scans_79 : decode cX7_scans 79 = .ok (.invokevirtual 183, 3) := by decide +kernel
theorem dX7_scans_82 : decode cX7_scans 82 = .ok (.istore_n 2, 1) := by decide +kernel
theorem dX7_scans_83 : decode cX7_scans 83 = .ok (.iinc 1 1, 3) := by decide +kernel
theorem dX7_scans_86 : decode cX7_scans 86 = .ok (.goto (-32), 3) := by decide +kernel
theorem dX7_scans_89 : decode cX7_scans 89 = .ok (.iload_n 2, 1) := by decide +kernel
theorem dX7_scans_90 : decode cX7_scans 90 = .ok (.ifCond .ge 5, 3) := by decide +kernel
theorem dX7_scans_93 : decode cX7_scans 93 = .ok (.iconst 0, 1) := by decide +kernel
theorem dX7_scans_94 : decode cX7_scans 94 = .ok (.ireturn, 1) := by decide +kernel
theorem dX7_scans_95 : decode cX7_scans 95 = .ok (.aload_n 0, 1) := by decide +kernel
theorem dX7_scans_96 : decode cX7_scans 96 = .ok (.aload_n 0, 1) := by decide +kernel
theorem dX7_scans_97 : decode cX7_scans 97 = .ok (.getfield 105, 3) := by decide +kernel
theorem dX7_scans_100 : decode cX7_scans 100 = .ok (.putfield 32, 3) := by decide +kernel
theorem dX7_scans_103 : decode cX7_scans 103 = .ok (.iload_n 2, 1) := by decide +kernel
theorem dX7_scans_104 : decode cX7_scans 104 = .ok (.ifCond .ne 14, 3) := by decide +kernel
theorem dX7_scans_107 : decode cX7_scans 107 = .ok (.aload_n 0, 1) := by decide +kernel
theorem dX7_scans_108 : decode cX7_scans 108 = .ok (.getfield 169, 3) := by decide +kernel
theorem dX7_scans_111 : decode cX7_scans 111 = .ok (.ifCond .le 7, 3) := by decide +kernel
theorem dX7_scans_114 : decode cX7_scans 114 = .ok (.iconst 1, 1) := by decide +kernel
theorem dX7_scans_115 : decode cX7_scans 115 = .ok (.goto 4, 3) := by decide +kernel
theorem dX7_scans_118 : decode cX7_scans 118 = .ok (.iconst 0, 1) := by decide +kernel
theorem dX7_scans_119 : decode cX7_scans 119 = .ok (.ireturn, 1) := by decide +kernel
theorem dX7_wraps_0 : decode cX7_wraps 0 = .ok (.aload_n 0, 1) := by decide +kernel
theorem dX7_wraps_1 : decode cX7_wraps 1 = .ok (.getfield 169, 3) := by decide +kernel
theorem dX7_wraps_4 : decode cX7_wraps 4 = .ok (.istore_n 1, 1) := by decide +kernel
theorem dX7_wraps_5 : decode cX7_wraps 5 = .ok (.iload_n 1, 1) := by decide +kernel
theorem dX7_wraps_6 : decode cX7_wraps 6 = .ok (.iconst 4, 1) := by decide +kernel
theorem dX7_wraps_7 : decode cX7_wraps 7 = .ok (.if_icmp .lt 27, 3) := by decide +kernel
theorem dX7_wraps_10 : decode cX7_wraps 10 = .ok (.aload_n 0, 1) := by decide +kernel
theorem dX7_wraps_11 : decode cX7_wraps 11 = .ok (.getfield 36, 3) := by decide +kernel
theorem dX7_wraps_14 : decode cX7_wraps 14 = .ok (.iconst 0, 1) := by decide +kernel
theorem dX7_wraps_15 : decode cX7_wraps 15 = .ok (.iaload, 1) := by decide +kernel
theorem dX7_wraps_16 : decode cX7_wraps 16 = .ok (.ldc 112, 2) := by decide +kernel
theorem dX7_wraps_18 : decode cX7_wraps 18 = .ok (.if_icmp .ne 16, 3) := by decide +kernel
theorem dX7_wraps_21 : decode cX7_wraps 21 = .ok (.aload_n 0, 1) := by decide +kernel
theorem dX7_wraps_22 : decode cX7_wraps 22 = .ok (.getfield 36, 3) := by decide +kernel
theorem dX7_wraps_25 : decode cX7_wraps 25 = .ok (.iload_n 1, 1) := by decide +kernel
theorem dX7_wraps_26 : decode cX7_wraps 26 = .ok (.iconst 1, 1) := by decide +kernel
theorem dX7_wraps_27 : decode cX7_wraps 27 = .ok (.isub, 1) := by decide +kernel
theorem dX7_wraps_28 : decode cX7_wraps 28 = .ok (.iaload, 1) := by decide +kernel
theorem dX7_wraps_29 : decode cX7_wraps 29 = .ok (.ldc 113, 2) := by decide +kernel
theorem dX7_wraps_31 : decode cX7_wraps 31 = .ok (.if_icmp .eq 5, 3) := by decide +kernel
theorem dX7_wraps_34 : decode cX7_wraps 34 = .ok (.iconst 0, 1) := by decide +kernel
theorem dX7_wraps_35 : decode cX7_wraps 35 = .ok (.ireturn, 1) := by decide +kernel
theorem dX7_wraps_36 : decode cX7_wraps 36 = .ok (.aload_n 0, 1) := by decide +kernel
theorem dX7_wraps_37 : decode cX7_wraps 37 = .ok (.getfield 36, 3) := by decide +kernel
theorem dX7_wraps_40 : decode cX7_wraps 40 = .ok (.iconst 1, 1) := by decide +kernel
theorem dX7_wraps_41 : decode cX7_wraps 41 = .ok (.iaload, 1) := by decide +kernel
theorem dX7_wraps_42 : decode cX7_wraps 42 = .ok (.ldc 114, 2) := by decide +kernel
theorem dX7_wraps_44 : decode cX7_wraps 44 = .ok (.if_icmp .ne 7, 3) := by decide +kernel
theorem dX7_wraps_47 : decode cX7_wraps 47 = .ok (.iconst 1, 1) := by decide +kernel
theorem dX7_wraps_48 : decode cX7_wraps 48 = .ok (.goto 4, 3) := by decide +kernel
theorem dX7_wraps_51 : decode cX7_wraps 51 = .ok (.iconst 0, 1) := by decide +kernel
theorem dX7_wraps_52 : decode cX7_wraps 52 = .ok (.istore_n 2, 1) := by decide +kernel
theorem dX7_wraps_53 : decode cX7_wraps 53 = .ok (.iconst 1, 1) := by decide +kernel
theorem dX7_wraps_54 : decode cX7_wraps 54 = .ok (.istore_n 3, 1) := by decide +kernel
theorem dX7_wraps_55 : decode cX7_wraps 55 = .ok (.iload_n 3, 1) := by decide +kernel
theorem dX7_wraps_56 : decode cX7_wraps 56 = .ok (.iload_n 1, 1) := by decide +kernel
theorem dX7_wraps_57 : decode cX7_wraps 57 = .ok (.iconst 1, 1) := by decide +kernel
theorem dX7_wraps_58 : decode cX7_wraps 58 = .ok (.isub, 1) := by decide +kernel
theorem dX7_wraps_59 : decode cX7_wraps 59 = .ok (.if_icmp .ge 151, 3) := by decide +kernel
theorem dX7_wraps_62 : decode cX7_wraps 62 = .ok (.iload_n 2, 1) := by decide +kernel
theorem dX7_wraps_63 : decode cX7_wraps 63 = .ok (.ifCond .eq 16, 3) := by decide +kernel
theorem dX7_wraps_66 : decode cX7_wraps 66 = .ok (.aload_n 0, 1) := by decide +kernel
theorem dX7_wraps_67 : decode cX7_wraps 67 = .ok (.getfield 36, 3) := by decide +kernel
theorem dX7_wraps_70 : decode cX7_wraps 70 = .ok (.iload_n 3, 1) := by decide +kernel
theorem dX7_wraps_71 : decode cX7_wraps 71 = .ok (.iaload, 1) := by decide +kernel
theorem dX7_wraps_72 : decode cX7_wraps 72 = .ok (.ldc 114, 2) := by decide +kernel
theorem dX7_wraps_74 : decode cX7_wraps 74 = .ok (.if_icmp .eq 5, 3) := by decide +kernel
theorem dX7_wraps_77 : decode cX7_wraps 77 = .ok (.iconst 0, 1) := by decide +kernel
theorem dX7_wraps_78 : decode cX7_wraps 78 = .ok (.ireturn, 1) := by decide +kernel
theorem dX7_wraps_79 : decode cX7_wraps 79 = .ok (.iload_n 2, 1) := by decide +kernel
theorem dX7_wraps_80 : decode cX7_wraps 80 = .ok (.ifCond .eq 9, 3) := by decide +kernel
theorem dX7_wraps_83 : decode cX7_wraps 83 = .ok (.iload_n 3, 1) := by decide +kernel
theorem dX7_wraps_84 : decode cX7_wraps 84 = .ok (.iconst 1, 1) := by decide +kernel
theorem dX7_wraps_85 : decode cX7_wraps 85 = .ok (.iadd, 1) := by decide +kernel
theorem dX7_wraps_86 : decode cX7_wraps 86 = .ok (.goto 4, 3) := by decide +kernel
theorem dX7_wraps_89 : decode cX7_wraps 89 = .ok (.iload_n 3, 1) := by decide +kernel
theorem dX7_wraps_90 : decode cX7_wraps 90 = .ok (.istore_n 3, 1) := by decide +kernel
theorem dX7_wraps_91 : decode cX7_wraps 91 = .ok (.iconst 0, 1) := by decide +kernel
theorem dX7_wraps_92 : decode cX7_wraps 92 = .ok (.istore 4, 2) := by decide +kernel
theorem dX7_wraps_94 : decode cX7_wraps 94 = .ok (.iload_n 3, 1) := by decide +kernel
theorem dX7_wraps_95 : decode cX7_wraps 95 = .ok (.iload_n 1, 1) := by decide +kernel
theorem dX7_wraps_96 : decode cX7_wraps 96 = .ok (.iconst 1, 1) := by decide +kernel
theorem dX7_wraps_97 : decode cX7_wraps 97 = .ok (.isub, 1) := by decide +kernel
theorem dX7_wraps_98 : decode cX7_wraps 98 = .ok (.if_icmp .ge 64, 3) := by decide +kernel
theorem dX7_wraps_101 : decode cX7_wraps 101 = .ok (.aload_n 0, 1) := by decide +kernel
theorem dX7_wraps_102 : decode cX7_wraps 102 = .ok (.getfield 36, 3) := by decide +kernel
theorem dX7_wraps_105 : decode cX7_wraps 105 = .ok (.iload_n 3, 1) := by decide +kernel
theorem dX7_wraps_106 : decode cX7_wraps 106 = .ok (.iaload, 1) := by decide +kernel
theorem dX7_wraps_107 : decode cX7_wraps 107 = .ok (.ldc 116, 2) := by decide +kernel
theorem dX7_wraps_109 : decode cX7_wraps 109 = .ok (.if_icmp .ne 53, 3) := by decide +kernel
theorem dX7_wraps_112 : decode cX7_wraps 112 = .ok (.iinc 3 1, 3) := by decide +kernel
theorem dX7_wraps_115 : decode cX7_wraps 115 = .ok (.iload_n 3, 1) := by decide +kernel
theorem dX7_wraps_116 : decode cX7_wraps 116 = .ok (.iload_n 1, 1) := by decide +kernel
theorem dX7_wraps_117 : decode cX7_wraps 117 = .ok (.iconst 1, 1) := by decide +kernel
theorem dX7_wraps_118 : decode cX7_wraps 118 = .ok (.isub, 1) := by decide +kernel
theorem dX7_wraps_119 : decode cX7_wraps 119 = .ok (.if_icmp .ge 21, 3) := by decide +kernel
theorem dX7_wraps_122 : decode cX7_wraps 122 = .ok (.aload_n 0, 1) := by decide +kernel
theorem dX7_wraps_123 : decode cX7_wraps 123 = .ok (.getfield 36, 3) := by decide +kernel
theorem dX7_wraps_126 : decode cX7_wraps 126 = .ok (.iload_n 3, 1) := by decide +kernel
theorem dX7_wraps_127 : decode cX7_wraps 127 = .ok (.iaload, 1) := by decide +kernel
theorem dX7_wraps_128 : decode cX7_wraps 128 = .ok (.invokestatic 128, 3) := by decide +kernel
theorem dX7_wraps_131 : decode cX7_wraps 131 = .ok (.ifCond .ne 9, 3) := by decide +kernel
theorem dX7_wraps_134 : decode cX7_wraps 134 = .ok (.iinc 3 1, 3) := by decide +kernel
theorem dX7_wraps_137 : decode cX7_wraps 137 = .ok (.goto (-22), 3) := by decide +kernel
theorem dX7_wraps_140 : decode cX7_wraps 140 = .ok (.aload_n 0, 1) := by decide +kernel
theorem dX7_wraps_141 : decode cX7_wraps 141 = .ok (.getfield 36, 3) := by decide +kernel
theorem dX7_wraps_144 : decode cX7_wraps 144 = .ok (.iload_n 3, 1) := by decide +kernel
theorem dX7_wraps_145 : decode cX7_wraps 145 = .ok (.iaload, 1) := by decide +kernel
theorem dX7_wraps_146 : decode cX7_wraps 146 = .ok (.ldc 117, 2) := by decide +kernel
theorem dX7_wraps_148 : decode cX7_wraps 148 = .ok (.if_icmp .eq 5, 3) := by decide +kernel
theorem dX7_wraps_151 : decode cX7_wraps 151 = .ok (.iconst 0, 1) := by decide +kernel
theorem dX7_wraps_152 : decode cX7_wraps 152 = .ok (.ireturn, 1) := by decide +kernel
theorem dX7_wraps_153 : decode cX7_wraps 153 = .ok (.iinc 3 1, 3) := by decide +kernel
theorem dX7_wraps_156 : decode cX7_wraps 156 = .ok (.iinc 4 1, 3) := by decide +kernel
theorem dX7_wraps_159 : decode cX7_wraps 159 = .ok (.goto (-65), 3) := by decide +kernel
theorem dX7_wraps_162 : decode cX7_wraps 162 = .ok (.iload 4, 2) := by decide +kernel
theorem dX7_wraps_164 : decode cX7_wraps 164 = .ok (.ifCond .eq 29, 3) := by decide +kernel
theorem dX7_wraps_167 : decode cX7_wraps 167 = .ok (.iload_n 2, 1) := by decide +kernel
theorem dX7_wraps_168 : decode cX7_wraps 168 = .ok (.ifCond .eq 14, 3) := by decide +kernel
theorem dX7_wraps_171 : decode cX7_wraps 171 = .ok (.aload_n 0, 1) := by decide +kernel
theorem dX7_wraps_172 : decode cX7_wraps 172 = .ok (.getfield 36, 3) := by decide +kernel
theorem dX7_wraps_175 : decode cX7_wraps 175 = .ok (.iload_n 3, 1) := by decide +kernel
theorem dX7_wraps_176 : decode cX7_wraps 176 = .ok (.iaload, 1) := by decide +kernel
theorem dX7_wraps_177 : decode cX7_wraps 177 = .ok (.ldc 115, 2) := by decide +kernel
theorem dX7_wraps_179 : decode cX7_wraps 179 = .ok (.if_icmp .ne 14, 3) := by decide +kernel
theorem dX7_wraps_182 : decode cX7_wraps 182 = .ok (.iload_n 2, 1) := by decide +kernel
theorem dX7_wraps_183 : decode cX7_wraps 183 = .ok (.ifCond .ne 12, 3) := by decide +kernel
theorem dX7_wraps_186 : decode cX7_wraps 186 = .ok (.iload_n 3, 1) := by decide +kernel
theorem dX7_wraps_187 : decode cX7_wraps 187 = .ok (.iload_n 1, 1) := by decide +kernel
theorem dX7_wraps_188 : decode cX7_wraps 188 = .ok (.iconst 1, 1) := by decide +kernel
theorem dX7_wraps_189 : decode cX7_wraps 189 = .ok (.isub, 1) := by decide +kernel
theorem dX7_wraps_190 : decode cX7_wraps 190 = .ok (.if_icmp .ge 5, 3) := by decide +kernel
theorem dX7_wraps_193 : decode cX7_wraps 193 = .ok (.iconst 0, 1) := by decide +kernel
theorem dX7_wraps_194 : decode cX7_wraps 194 = .ok (.ireturn, 1) := by decide +kernel
theorem dX7_wraps_195 : decode cX7_wraps 195 = .ok (.iload_n 2, 1) := by decide +kernel
theorem dX7_wraps_196 : decode cX7_wraps 196 = .ok (.ifCond .eq 9, 3) := by decide +kernel
theorem dX7_wraps_199 : decode cX7_wraps 199 = .ok (.iload_n 3, 1) := by decide +kernel
theorem dX7_wraps_200 : decode cX7_wraps 200 = .ok (.iconst 1, 1) := by decide +kernel
theorem dX7_wraps_201 : decode cX7_wraps 201 = .ok (.iadd, 1) := by decide +kernel
theorem dX7_wraps_202 : decode cX7_wraps 202 = .ok (.goto 4, 3) := by decide +kernel
theorem dX7_wraps_205 : decode cX7_wraps 205 = .ok (.iload_n 3, 1) := by decide +kernel
theorem dX7_wraps_206 : decode cX7_wraps 206 = .ok (.istore_n 3, 1) := by decide +kernel
theorem dX7_wraps_207 : decode cX7_wraps 207 = .ok (.goto (-152), 3) := by decide +kernel
theorem dX7_wraps_210 : decode cX7_wraps 210 = .ok (.iconst 1, 1) := by decide +kernel
theorem dX7_wraps_211 : decode cX7_wraps 211 = .ok (.ireturn, 1) := by decide +kernel
theorem dX7_take_0 : decode cX7_take 0 = .ok (.aload_n 0, 1) := by decide +kernel
theorem dX7_take_1 : decode cX7_take 1 = .ok (.aload_n 0, 1) := by decide +kernel
theorem dX7_take_2 : decode cX7_take 2 = .ok (.getfield 169, 3) := by decide +kernel
theorem dX7_take_5 : decode cX7_take 5 = .ok (.putfield 187, 3) := by decide +kernel
theorem dX7_take_8 : decode cX7_take 8 = .ok (.aload_n 0, 1) := by decide +kernel
theorem dX7_take_9 : decode cX7_take 9 = .ok (.aload_n 0, 1) := by decide +kernel
theorem dX7_take_10 : decode cX7_take 10 = .ok (.getfield 163, 3) := by decide +kernel
theorem dX7_take_13 : decode cX7_take 13 = .ok (.putfield 190, 3) := by decide +kernel
theorem dX7_take_16 : decode cX7_take 16 = .ok (.aload_n 0, 1) := by decide +kernel
theorem dX7_take_17 : decode cX7_take 17 = .ok (.aload_n 0, 1) := by decide +kernel
theorem dX7_take_18 : decode cX7_take 18 = .ok (.getfield 157, 3) := by decide +kernel
theorem dX7_take_21 : decode cX7_take 21 = .ok (.putfield 193, 3) := by decide +kernel
theorem dX7_take_24 : decode cX7_take 24 = .ok (.iconst 0, 1) := by decide +kernel
theorem dX7_take_25 : decode cX7_take 25 = .ok (.istore_n 1, 1) := by decide +kernel
theorem dX7_take_26 : decode cX7_take 26 = .ok (.iload_n 1, 1) := by decide +kernel
theorem dX7_take_27 : decode cX7_take 27 = .ok (.aload_n 0, 1) := by decide +kernel
theorem dX7_take_28 : decode cX7_take 28 = .ok (.getfield 187, 3) := by decide +kernel
theorem dX7_take_31 : decode cX7_take 31 = .ok (.if_icmp .gt 33, 3) := by decide +kernel
theorem dX7_take_34 : decode cX7_take 34 = .ok (.aload_n 0, 1) := by decide +kernel
theorem dX7_take_35 : decode cX7_take 35 = .ok (.getfield 51, 3) := by decide +kernel
theorem dX7_take_38 : decode cX7_take 38 = .ok (.iload_n 1, 1) := by decide +kernel
theorem dX7_take_39 : decode cX7_take 39 = .ok (.aload_n 0, 1) := by decide +kernel
theorem dX7_take_40 : decode cX7_take 40 = .ok (.getfield 36, 3) := by decide +kernel
theorem dX7_take_43 : decode cX7_take 43 = .ok (.iload_n 1, 1) := by decide +kernel
theorem dX7_take_44 : decode cX7_take 44 = .ok (.iaload, 1) := by decide +kernel
theorem dX7_take_45 : decode cX7_take 45 = .ok (.iastore, 1) := by decide +kernel
theorem dX7_take_46 : decode cX7_take 46 = .ok (.aload_n 0, 1) := by decide +kernel
theorem dX7_take_47 : decode cX7_take 47 = .ok (.getfield 54, 3) := by decide +kernel
theorem dX7_take_50 : decode cX7_take 50 = .ok (.iload_n 1, 1) := by decide +kernel
theorem dX7_take_51 : decode cX7_take 51 = .ok (.aload_n 0, 1) := by decide +kernel
theorem dX7_take_52 : decode cX7_take 52 = .ok (.getfield 39, 3) := by decide +kernel
theorem dX7_take_55 : decode cX7_take 55 = .ok (.iload_n 1, 1) := by decide +kernel
theorem dX7_take_56 : decode cX7_take 56 = .ok (.iaload, 1) := by decide +kernel
theorem dX7_take_57 : decode cX7_take 57 = .ok (.iastore, 1) := by decide +kernel
theorem dX7_take_58 : decode cX7_take 58 = .ok (.iinc 1 1, 3) := by decide +kernel
theorem dX7_take_61 : decode cX7_take 61 = .ok (.goto (-35), 3) := by decide +kernel
theorem dX7_take_64 : decode cX7_take 64 = .ok (.iconst 0, 1) := by decide +kernel
theorem dX7_take_65 : decode cX7_take 65 = .ok (.istore_n 1, 1) := by decide +kernel
theorem dX7_take_66 : decode cX7_take 66 = .ok (.iload_n 1, 1) := by decide +kernel
theorem dX7_take_67 : decode cX7_take 67 = .ok (.aload_n 0, 1) := by decide +kernel
theorem dX7_take_68 : decode cX7_take 68 = .ok (.getfield 190, 3) := by decide +kernel
theorem dX7_take_71 : decode cX7_take 71 = .ok (.if_icmp .gt 21, 3) := by decide +kernel
theorem dX7_take_74 : decode cX7_take 74 = .ok (.aload_n 0, 1) := by decide +kernel
theorem dX7_take_75 : decode cX7_take 75 = .ok (.getfield 57, 3) := by decide +kernel
theorem dX7_take_78 : decode cX7_take 78 = .ok (.iload_n 1, 1) := by decide +kernel
theorem dX7_take_79 : decode cX7_take 79 = .ok (.aload_n 0, 1) := by decide +kernel
theorem dX7_take_80 : decode cX7_take 80 = .ok (.getfield 42, 3) := by decide +kernel
theorem dX7_take_83 : decode cX7_take 83 = .ok (.iload_n 1, 1) := by decide +kernel
theorem dX7_take_84 : decode cX7_take 84 = .ok (.iaload, 1) := by decide +kernel
theorem dX7_take_85 : decode cX7_take 85 = .ok (.iastore, 1) := by decide +kernel
theorem dX7_take_86 : decode cX7_take 86 = .ok (.iinc 1 1, 3) := by decide +kernel
theorem dX7_take_89 : decode cX7_take 89 = .ok (.goto (-23), 3) := by decide +kernel
theorem dX7_take_92 : decode cX7_take 92 = .ok (.iconst 0, 1) := by decide +kernel
theorem dX7_take_93 : decode cX7_take 93 = .ok (.istore_n 1, 1) := by decide +kernel
theorem dX7_take_94 : decode cX7_take 94 = .ok (.iload_n 1, 1) := by decide +kernel
theorem dX7_take_95 : decode cX7_take 95 = .ok (.aload_n 0, 1) := by decide +kernel
theorem dX7_take_96 : decode cX7_take 96 = .ok (.getfield 193, 3) := by decide +kernel
theorem dX7_take_99 : decode cX7_take 99 = .ok (.if_icmp .gt 21, 3) := by decide +kernel
theorem dX7_take_102 : decode cX7_take 102 = .ok (.aload_n 0, 1) := by decide +kernel
theorem dX7_take_103 : decode cX7_take 103 = .ok (.getfield 60, 3) := by decide +kernel
theorem dX7_take_106 : decode cX7_take 106 = .ok (.iload_n 1, 1) := by decide +kernel
theorem dX7_take_107 : decode cX7_take 107 = .ok (.aload_n 0, 1) := by decide +kernel
theorem dX7_take_108 : decode cX7_take 108 = .ok (.getfield 45, 3) := by decide +kernel
theorem dX7_take_111 : decode cX7_take 111 = .ok (.iload_n 1, 1) := by decide +kernel
theorem dX7_take_112 : decode cX7_take 112 = .ok (.iaload, 1) := by decide +kernel
theorem dX7_take_113 : decode cX7_take 113 = .ok (.iastore, 1) := by decide +kernel
theorem dX7_take_114 : decode cX7_take 114 = .ok (.iinc 1 1, 3) := by decide +kernel
theorem dX7_take_117 : decode cX7_take 117 = .ok (.goto (-23), 3) := by decide +kernel
theorem dX7_take_120 : decode cX7_take 120 = .ok (.iconst 0, 1) := by decide +kernel
theorem dX7_take_121 : decode cX7_take 121 = .ok (.istore_n 1, 1) := by decide +kernel
theorem dX7_take_122 : decode cX7_take 122 = .ok (.iload_n 1, 1) := by decide +kernel
theorem dX7_take_123 : decode cX7_take 123 = .ok (.aload_n 0, 1) := by decide +kernel
theorem dX7_take_124 : decode cX7_take 124 = .ok (.getfield 160, 3) := by decide +kernel
theorem dX7_take_127 : decode cX7_take 127 = .ok (.if_icmp .ge 21, 3) := by decide +kernel
theorem dX7_take_130 : decode cX7_take 130 = .ok (.aload_n 0, 1) := by decide +kernel
theorem dX7_take_131 : decode cX7_take 131 = .ok (.getfield 63, 3) := by decide +kernel
theorem dX7_take_134 : decode cX7_take 134 = .ok (.iload_n 1, 1) := by decide +kernel
theorem dX7_take_135 : decode cX7_take 135 = .ok (.aload_n 0, 1) := by decide +kernel
theorem dX7_take_136 : decode cX7_take 136 = .ok (.getfield 48, 3) := by decide +kernel
theorem dX7_take_139 : decode cX7_take 139 = .ok (.iload_n 1, 1) := by decide +kernel
theorem dX7_take_140 : decode cX7_take 140 = .ok (.iaload, 1) := by decide +kernel
theorem dX7_take_141 : decode cX7_take 141 = .ok (.iastore, 1) := by decide +kernel
theorem dX7_take_142 : decode cX7_take 142 = .ok (.iinc 1 1, 3) := by decide +kernel
theorem dX7_take_145 : decode cX7_take 145 = .ok (.goto (-23), 3) := by decide +kernel
theorem dX7_take_148 : decode cX7_take 148 = .ok (.aload_n 0, 1) := by decide +kernel
theorem dX7_take_149 : decode cX7_take 149 = .ok (.iconst 0, 1) := by decide +kernel
theorem dX7_take_150 : decode cX7_take 150 = .ok (.putfield 196, 3) := by decide +kernel
theorem dX7_take_153 : decode cX7_take 153 = .ok (.aload_n 0, 1) := by decide +kernel
theorem dX7_take_154 : decode cX7_take 154 = .ok (.iconst 0, 1) := by decide +kernel
theorem dX7_take_155 : decode cX7_take 155 = .ok (.putfield 199, 3) := by decide +kernel
theorem dX7_take_158 : decode cX7_take 158 = .ok (.iconst 1, 1) := by decide +kernel
theorem dX7_take_159 : decode cX7_take 159 = .ok (.istore_n 1, 1) := by decide +kernel
theorem dX7_take_160 : decode cX7_take 160 = .ok (.iload_n 1, 1) := by decide +kernel
theorem dX7_take_161 : decode cX7_take 161 = .ok (.aload_n 0, 1) := by decide +kernel
theorem dX7_take_162 : decode cX7_take 162 = .ok (.getfield 187, 3) := by decide +kernel
theorem dX7_take_165 : decode cX7_take 165 = .ok (.iconst 1, 1) := by decide +kernel
theorem dX7_take_166 : decode cX7_take 166 = .ok (.isub, 1) := by decide +kernel
theorem dX7_take_167 : decode cX7_take 167 = .ok (.if_icmp .ge 141, 3) := by decide +kernel
theorem dX7_take_170 : decode cX7_take 170 = .ok (.aload_n 0, 1) := by decide +kernel
theorem dX7_take_171 : decode cX7_take 171 = .ok (.getfield 51, 3) := by decide +kernel
theorem dX7_take_174 : decode cX7_take 174 = .ok (.iload_n 1, 1) := by decide +kernel
theorem dX7_take_175 : decode cX7_take 175 = .ok (.iaload, 1) := by decide +kernel
theorem dX7_take_176 : decode cX7_take 176 = .ok (.ldc 114, 2) := by decide +kernel
theorem dX7_take_178 : decode cX7_take 178 = .ok (.if_icmp .ne 26, 3) := by decide +kernel
theorem dX7_take_181 : decode cX7_take 181 = .ok (.aload_n 0, 1) := by decide +kernel
theorem dX7_take_182 : decode cX7_take 182 = .ok (.getfield 81, 3) := by decide +kernel
theorem dX7_take_185 : decode cX7_take 185 = .ok (.aload_n 0, 1) := by decide +kernel
theorem dX7_take_186 : decode cX7_take 186 = .ok (.getfield 199, 3) := by decide +kernel
theorem dX7_take_189 : decode cX7_take 189 = .ok (.iload_n 1, 1) := by decide +kernel
theorem dX7_take_190 : decode cX7_take 190 = .ok (.iastore, 1) := by decide +kernel
theorem dX7_take_191 : decode cX7_take 191 = .ok (.aload_n 0, 1) := by decide +kernel
theorem dX7_take_192 : decode cX7_take 192 = .ok (.dup, 1) := by decide +kernel
theorem dX7_take_193 : decode cX7_take 193 = .ok (.getfield 199, 3) := by decide +kernel
theorem dX7_take_196 : decode cX7_take 196 = .ok (.iconst 1, 1) := by decide +kernel
theorem dX7_take_197 : decode cX7_take 197 = .ok (.iadd, 1) := by decide +kernel
theorem dX7_take_198 : decode cX7_take 198 = .ok (.putfield 199, 3) := by decide +kernel
theorem dX7_take_201 : decode cX7_take 201 = .ok (.goto 101, 3) := by decide +kernel
theorem dX7_take_204 : decode cX7_take 204 = .ok (.aload_n 0, 1) := by decide +kernel
theorem dX7_take_205 : decode cX7_take 205 = .ok (.getfield 51, 3) := by decide +kernel
theorem dX7_take_208 : decode cX7_take 208 = .ok (.iload_n 1, 1) := by decide +kernel
theorem dX7_take_209 : decode cX7_take 209 = .ok (.iaload, 1) := by decide +kernel
theorem dX7_take_210 : decode cX7_take 210 = .ok (.ldc 115, 2) := by decide +kernel
theorem dX7_take_212 : decode cX7_take 212 = .ok (.if_icmp .ne 18, 3) := by decide +kernel
theorem dX7_take_215 : decode cX7_take 215 = .ok (.aload_n 0, 1) := by decide +kernel
theorem dX7_take_216 : decode cX7_take 216 = .ok (.getfield 84, 3) := by decide +kernel
theorem dX7_take_219 : decode cX7_take 219 = .ok (.aload_n 0, 1) := by decide +kernel
theorem dX7_take_220 : decode cX7_take 220 = .ok (.getfield 199, 3) := by decide +kernel
theorem dX7_take_223 : decode cX7_take 223 = .ok (.iconst 1, 1) := by decide +kernel
theorem dX7_take_224 : decode cX7_take 224 = .ok (.isub, 1) := by decide +kernel
theorem dX7_take_225 : decode cX7_take 225 = .ok (.iload_n 1, 1) := by decide +kernel
theorem dX7_take_226 : decode cX7_take 226 = .ok (.iastore, 1) := by decide +kernel
theorem dX7_take_227 : decode cX7_take 227 = .ok (.goto 75, 3) := by decide +kernel
theorem dX7_take_230 : decode cX7_take 230 = .ok (.aload_n 0, 1) := by decide +kernel
theorem dX7_take_231 : decode cX7_take 231 = .ok (.getfield 51, 3) := by decide +kernel
theorem dX7_take_234 : decode cX7_take 234 = .ok (.iload_n 1, 1) := by decide +kernel
theorem dX7_take_235 : decode cX7_take 235 = .ok (.iaload, 1) := by decide +kernel
theorem dX7_take_236 : decode cX7_take 236 = .ok (.ldc 116, 2) := by decide +kernel
theorem dX7_take_238 : decode cX7_take 238 = .ok (.if_icmp .ne 41, 3) := by decide +kernel
theorem dX7_take_241 : decode cX7_take 241 = .ok (.aload_n 0, 1) := by decide +kernel
theorem dX7_take_242 : decode cX7_take 242 = .ok (.getfield 66, 3) := by decide +kernel
theorem dX7_take_245 : decode cX7_take 245 = .ok (.aload_n 0, 1) := by decide +kernel
theorem dX7_take_246 : decode cX7_take 246 = .ok (.getfield 196, 3) := by decide +kernel
theorem dX7_take_249 : decode cX7_take 249 = .ok (.iload_n 1, 1) := by decide +kernel
theorem dX7_take_250 : decode cX7_take 250 = .ok (.iastore, 1) := by decide +kernel
theorem dX7_take_251 : decode cX7_take 251 = .ok (.aload_n 0, 1) := by decide +kernel
theorem dX7_take_252 : decode cX7_take 252 = .ok (.getfield 72, 3) := by decide +kernel
theorem dX7_take_255 : decode cX7_take 255 = .ok (.aload_n 0, 1) := by decide +kernel
theorem dX7_take_256 : decode cX7_take 256 = .ok (.getfield 196, 3) := by decide +kernel
theorem dX7_take_259 : decode cX7_take 259 = .ok (.aload_n 0, 1) := by decide +kernel
theorem dX7_take_260 : decode cX7_take 260 = .ok (.getfield 199, 3) := by decide +kernel
theorem dX7_take_263 : decode cX7_take 263 = .ok (.iconst 1, 1) := by decide +kernel
theorem dX7_take_264 : decode cX7_take 264 = .ok (.isub, 1) := by decide +kernel
theorem dX7_take_265 : decode cX7_take 265 = .ok (.iastore, 1) := by decide +kernel
theorem dX7_take_266 : decode cX7_take 266 = .ok (.aload_n 0, 1) := by decide +kernel
theorem dX7_take_267 : decode cX7_take 267 = .ok (.dup, 1) := by decide +kernel
theorem dX7_take_268 : decode cX7_take 268 = .ok (.getfield 196, 3) := by decide +kernel
theorem dX7_take_271 : decode cX7_take 271 = .ok (.iconst 1, 1) := by decide +kernel
theorem dX7_take_272 : decode cX7_take 272 = .ok (.iadd, 1) := by decide +kernel
theorem dX7_take_273 : decode cX7_take 273 = .ok (.putfield 196, 3) := by decide +kernel
theorem dX7_take_276 : decode cX7_take 276 = .ok (.goto 26, 3) := by decide +kernel
theorem dX7_take_279 : decode cX7_take 279 = .ok (.aload_n 0, 1) := by decide +kernel
theorem dX7_take_280 : decode cX7_take 280 = .ok (.getfield 51, 3) := by decide +kernel
theorem dX7_take_283 : decode cX7_take 283 = .ok (.iload_n 1, 1) := by decide +kernel
theorem dX7_take_284 : decode cX7_take 284 = .ok (.iaload, 1) := by decide +kernel
theorem dX7_take_285 : decode cX7_take 285 = .ok (.ldc 117, 2) := by decide +kernel
theorem dX7_take_287 : decode cX7_take 287 = .ok (.if_icmp .ne 15, 3) := by decide +kernel
theorem dX7_take_290 : decode cX7_take 290 = .ok (.aload_n 0, 1) := by decide +kernel
theorem dX7_take_291 : decode cX7_take 291 = .ok (.getfield 69, 3) := by decide +kernel
theorem dX7_take_294 : decode cX7_take 294 = .ok (.aload_n 0, 1) := by decide +kernel
theorem dX7_take_295 : decode cX7_take 295 = .ok (.getfield 196, 3) := by decide +kernel
theorem dX7_take_298 : decode cX7_take 298 = .ok (.iconst 1, 1) := by decide +kernel
theorem dX7_take_299 : decode cX7_take 299 = .ok (.isub, 1) := by decide +kernel
theorem dX7_take_300 : decode cX7_take 300 = .ok (.iload_n 1, 1) := by decide +kernel
theorem dX7_take_301 : decode cX7_take 301 = .ok (.iastore, 1) := by decide +kernel
theorem dX7_take_302 : decode cX7_take 302 = .ok (.iinc 1 1, 3) := by decide +kernel
theorem dX7_take_305 : decode cX7_take 305 = .ok (.goto (-145), 3) := by decide +kernel
theorem dX7_take_308 : decode cX7_take 308 = .ok (.return_, 1) := by decide +kernel
theorem dX7_component_0 : decode cX7_component 0 = .ok (.aload_n 0, 1) := by decide +kernel
theorem dX7_component_1 : decode cX7_component 1 = .ok (.getfield 54, 3) := by decide +kernel
theorem dX7_component_4 : decode cX7_component 4 = .ok (.iload_n 1, 1) := by decide +kernel
theorem dX7_component_5 : decode cX7_component 5 = .ok (.iaload, 1) := by decide +kernel
theorem dX7_component_6 : decode cX7_component 6 = .ok (.iload_n 2, 1) := by decide +kernel
theorem dX7_component_7 : decode cX7_component 7 = .ok (.iadd, 1) := by decide +kernel
theorem dX7_component_8 : decode cX7_component 8 = .ok (.istore_n 3, 1) := by decide +kernel
theorem dX7_component_9 : decode cX7_component 9 = .ok (.iload_n 3, 1) := by decide +kernel
theorem dX7_component_10 : decode cX7_component 10 = .ok (.aload_n 0, 1) := by decide +kernel
theorem dX7_component_11 : decode cX7_component 11 = .ok (.getfield 54, 3) := by decide +kernel
theorem dX7_component_14 : decode cX7_component 14 = .ok (.iload_n 1, 1) := by decide +kernel
theorem dX7_component_15 : decode cX7_component 15 = .ok (.iconst 1, 1) := by decide +kernel
theorem dX7_component_16 : decode cX7_component 16 = .ok (.iadd, 1) := by decide +kernel
theorem dX7_component_17 : decode cX7_component 17 = .ok (.iaload, 1) := by decide +kernel
theorem dX7_component_18 : decode cX7_component 18 = .ok (.if_icmp .ge 12, 3) := by decide +kernel
theorem dX7_component_21 : decode cX7_component 21 = .ok (.aload_n 0, 1) := by decide +kernel
theorem dX7_component_22 : decode cX7_component 22 = .ok (.getfield 57, 3) := by decide +kernel
theorem dX7_component_25 : decode cX7_component 25 = .ok (.iload_n 3, 1) := by decide +kernel
theorem dX7_component_26 : decode cX7_component 26 = .ok (.iaload, 1) := by decide +kernel
theorem dX7_component_27 : decode cX7_component 27 = .ok (.goto 4, 3) := by decide +kernel
theorem dX7_component_30 : decode cX7_component 30 = .ok (.iconst (-1), 1) := by decide +kernel
theorem dX7_component_31 : decode cX7_component 31 = .ok (.ireturn, 1) := by decide +kernel
theorem dX7_sizeOf_0 : decode cX7_sizeOf 0 = .ok (.iload_n 1, 1) := by decide +kernel
theorem dX7_sizeOf_1 : decode cX7_sizeOf 1 = .ok (.ifCond .ge 7, 3) := by decide +kernel
theorem dX7_sizeOf_4 : decode cX7_sizeOf 4 = .ok (.iconst 0, 1) := by decide +kernel
theorem dX7_sizeOf_5 : decode cX7_sizeOf 5 = .ok (.goto 18, 3) := by decide +kernel
theorem dX7_sizeOf_8 : decode cX7_sizeOf 8 = .ok (.aload_n 0, 1) := by decide +kernel
theorem dX7_sizeOf_9 : decode cX7_sizeOf 9 = .ok (.getfield 60, 3) := by decide +kernel
theorem dX7_sizeOf_12 : decode cX7_sizeOf 12 = .ok (.iload_n 1, 1) := by decide +kernel
theorem dX7_sizeOf_13 : decode cX7_sizeOf 13 = .ok (.iconst 1, 1) := by decide +kernel
theorem dX7_sizeOf_14 : decode cX7_sizeOf 14 = .ok (.iadd, 1) := by decide +kernel
theorem dX7_sizeOf_15 : decode cX7_sizeOf 15 = .ok (.iaload, 1) := by decide +kernel
theorem dX7_sizeOf_16 : decode cX7_sizeOf 16 = .ok (.aload_n 0, 1) := by decide +kernel
theorem dX7_sizeOf_17 : decode cX7_sizeOf 17 = .ok (.getfield 60, 3) := by decide +kernel
theorem dX7_sizeOf_20 : decode cX7_sizeOf 20 = .ok (.iload_n 1, 1) := by decide +kernel
theorem dX7_sizeOf_21 : decode cX7_sizeOf 21 = .ok (.iaload, 1) := by decide +kernel
theorem dX7_sizeOf_22 : decode cX7_sizeOf 22 = .ok (.isub, 1) := by decide +kernel
theorem dX7_sizeOf_23 : decode cX7_sizeOf 23 = .ok (.ireturn, 1) := by decide +kernel
theorem dX7_same_0 : decode cX7_same 0 = .ok (.aload_n 0, 1) := by decide +kernel
theorem dX7_same_1 : decode cX7_same 1 = .ok (.iload_n 1, 1) := by decide +kernel
theorem dX7_same_2 : decode cX7_same 2 = .ok (.invokevirtual 202, 3) := by decide +kernel
theorem dX7_same_5 : decode cX7_same 5 = .ok (.istore_n 3, 1) := by decide +kernel
theorem dX7_same_6 : decode cX7_same 6 = .ok (.iload_n 3, 1) := by decide +kernel
theorem dX7_same_7 : decode cX7_same 7 = .ok (.aload_n 0, 1) := by decide +kernel
theorem dX7_same_8 : decode cX7_same 8 = .ok (.iload_n 2, 1) := by decide +kernel
theorem dX7_same_9 : decode cX7_same 9 = .ok (.invokevirtual 202, 3) := by decide +kernel
theorem dX7_same_12 : decode cX7_same 12 = .ok (.if_icmp .ne 7, 3) := by decide +kernel
theorem dX7_same_15 : decode cX7_same 15 = .ok (.iconst 1, 1) := by decide +kernel
theorem dX7_same_16 : decode cX7_same 16 = .ok (.goto 4, 3) := by decide +kernel
theorem dX7_same_19 : decode cX7_same 19 = .ok (.iconst 0, 1) := by decide +kernel
theorem dX7_same_20 : decode cX7_same 20 = .ok (.istore 4, 2) := by decide +kernel
theorem dX7_same_22 : decode cX7_same 22 = .ok (.iconst 0, 1) := by decide +kernel
theorem dX7_same_23 : decode cX7_same 23 = .ok (.istore 5, 2) := by decide +kernel
theorem dX7_same_25 : decode cX7_same 25 = .ok (.iload 5, 2) := by decide +kernel
theorem dX7_same_27 : decode cX7_same 27 = .ok (.iload_n 3, 1) := by decide +kernel
theorem dX7_same_28 : decode cX7_same 28 = .ok (.if_icmp .ge 52, 3) := by decide +kernel
theorem dX7_same_31 : decode cX7_same 31 = .ok (.iload 4, 2) := by decide +kernel
theorem dX7_same_33 : decode cX7_same 33 = .ok (.ifCond .eq 47, 3) := by decide +kernel
theorem dX7_same_36 : decode cX7_same 36 = .ok (.aload_n 0, 1) := by decide +kernel
theorem dX7_same_37 : decode cX7_same 37 = .ok (.getfield 63, 3) := by decide +kernel
theorem dX7_same_40 : decode cX7_same 40 = .ok (.aload_n 0, 1) := by decide +kernel
theorem dX7_same_41 : decode cX7_same 41 = .ok (.getfield 60, 3) := by decide +kernel
theorem dX7_same_44 : decode cX7_same 44 = .ok (.iload_n 1, 1) := by decide +kernel
theorem dX7_same_45 : decode cX7_same 45 = .ok (.iaload, 1) := by decide +kernel
theorem dX7_same_46 : decode cX7_same 46 = .ok (.iload 5, 2) := by decide +kernel
theorem dX7_same_48 : decode cX7_same 48 = .ok (.iadd, 1) := by decide +kernel
theorem dX7_same_49 : decode cX7_same 49 = .ok (.iaload, 1) := by decide +kernel
theorem dX7_same_50 : decode cX7_same 50 = .ok (.aload_n 0, 1) := by decide +kernel
theorem dX7_same_51 : decode cX7_same 51 = .ok (.getfield 63, 3) := by decide +kernel
theorem dX7_same_54 : decode cX7_same 54 = .ok (.aload_n 0, 1) := by decide +kernel
theorem dX7_same_55 : decode cX7_same 55 = .ok (.getfield 60, 3) := by decide +kernel
theorem dX7_same_58 : decode cX7_same 58 = .ok (.iload_n 2, 1) := by decide +kernel
theorem dX7_same_59 : decode cX7_same 59 = .ok (.iaload, 1) := by decide +kernel
theorem dX7_same_60 : decode cX7_same 60 = .ok (.iload 5, 2) := by decide +kernel
theorem dX7_same_62 : decode cX7_same 62 = .ok (.iadd, 1) := by decide +kernel
theorem dX7_same_63 : decode cX7_same 63 = .ok (.iaload, 1) := by decide +kernel
theorem dX7_same_64 : decode cX7_same 64 = .ok (.if_icmp .ne 7, 3) := by decide +kernel
theorem dX7_same_67 : decode cX7_same 67 = .ok (.iconst 1, 1) := by decide +kernel
theorem dX7_same_68 : decode cX7_same 68 = .ok (.goto 4, 3) := by decide +kernel
theorem dX7_same_71 : decode cX7_same 71 = .ok (.iconst 0, 1) := by decide +kernel
theorem dX7_same_72 : decode cX7_same 72 = .ok (.istore 4, 2) := by decide +kernel
theorem dX7_same_74 : decode cX7_same 74 = .ok (.iinc 5 1, 3) := by decide +kernel
theorem dX7_same_77 : decode cX7_same 77 = .ok (.goto (-52), 3) := by decide +kernel
theorem dX7_same_80 : decode cX7_same 80 = .ok (.iload 4, 2) := by decide +kernel
theorem dX7_same_82 : decode cX7_same 82 = .ok (.ireturn, 1) := by decide +kernel
theorem dX7_isNumber_0 : decode cX7_isNumber 0 = .ok (.aload_n 0, 1) := by decide +kernel
theorem dX7_isNumber_1 : decode cX7_isNumber 1 = .ok (.iload_n 1, 1) := by decide +kernel
theorem dX7_isNumber_2 : decode cX7_isNumber 2 = .ok (.invokevirtual 202, 3) := by decide +kernel
theorem dX7_isNumber_5 : decode cX7_isNumber 5 = .ok (.istore_n 3, 1) := by decide +kernel
theorem dX7_isNumber_6 : decode cX7_isNumber 6 = .ok (.iload_n 3, 1) := by decide +kernel
theorem dX7_isNumber_7 : decode cX7_isNumber 7 = .ok (.iconst 1, 1) := by decide +kernel
theorem dX7_isNumber_8 : decode cX7_isNumber 8 = .ok (.if_icmp .lt 8, 3) := by decide +kernel
theorem dX7_isNumber_11 : decode cX7_isNumber 11 = .ok (.iload_n 3, 1) := by decide +kernel
theorem dX7_isNumber_12 : decode cX7_isNumber 12 = .ok (.iconst 3, 1) := by decide +kernel
theorem dX7_isNumber_13 : decode cX7_isNumber 13 = .ok (.if_icmp .le 5, 3) := by decide +kernel
theorem dX7_isNumber_16 : decode cX7_isNumber 16 = .ok (.iconst 0, 1) := by decide +kernel
theorem dX7_isNumber_17 : decode cX7_isNumber 17 = .ok (.ireturn, 1) := by decide +kernel
theorem dX7_isNumber_18 : decode cX7_isNumber 18 = .ok (.aload_n 0, 1) := by decide +kernel
theorem dX7_isNumber_19 : decode cX7_isNumber 19 = .ok (.getfield 60, 3) := by decide +kernel
theorem dX7_isNumber_22 : decode cX7_isNumber 22 = .ok (.iload_n 1, 1) := by decide +kernel
theorem dX7_isNumber_23 : decode cX7_isNumber 23 = .ok (.iaload, 1) := by decide +kernel
theorem dX7_isNumber_24 : decode cX7_isNumber 24 = .ok (.istore 4, 2) := by decide +kernel
theorem dX7_isNumber_26 : decode cX7_isNumber 26 = .ok (.iconst 0, 1) := by decide +kernel
theorem dX7_isNumber_27 : decode cX7_isNumber 27 = .ok (.istore 5, 2) := by decide +kernel
theorem dX7_isNumber_29 : decode cX7_isNumber 29 = .ok (.iload_n 3, 1) := by decide +kernel
theorem dX7_isNumber_30 : decode cX7_isNumber 30 = .ok (.iconst 1, 1) := by decide +kernel
theorem dX7_isNumber_31 : decode cX7_isNumber 31 = .ok (.if_icmp .eq 15, 3) := by decide +kernel
theorem dX7_isNumber_34 : decode cX7_isNumber 34 = .ok (.aload_n 0, 1) := by decide +kernel
theorem dX7_isNumber_35 : decode cX7_isNumber 35 = .ok (.getfield 63, 3) := by decide +kernel
theorem dX7_isNumber_38 : decode cX7_isNumber 38 = .ok (.iload 4, 2) := by decide +kernel
theorem dX7_isNumber_40 : decode cX7_isNumber 40 = .ok (.iaload, 1) := by decide +kernel
theorem dX7_isNumber_41 : decode cX7_isNumber 41 = .ok (.bipush 48, 2) := by decide +kernel
theorem dX7_isNumber_43 : decode cX7_isNumber 43 = .ok (.if_icmp .eq 7, 3) := by decide +kernel
theorem dX7_isNumber_46 : decode cX7_isNumber 46 = .ok (.iconst 1, 1) := by decide +kernel
theorem dX7_isNumber_47 : decode cX7_isNumber 47 = .ok (.goto 4, 3) := by decide +kernel
theorem dX7_isNumber_50 : decode cX7_isNumber 50 = .ok (.iconst 0, 1) := by decide +kernel
theorem dX7_isNumber_51 : decode cX7_isNumber 51 = .ok (.istore 6, 2) := by decide +kernel
theorem dX7_isNumber_53 : decode cX7_isNumber 53 = .ok (.iconst 0, 1) := by decide +kernel
theorem dX7_isNumber_54 : decode cX7_isNumber 54 = .ok (.istore 7, 2) := by decide +kernel
theorem dX7_isNumber_56 : decode cX7_isNumber 56 = .ok (.iload 7, 2) := by decide +kernel
theorem dX7_isNumber_58 : decode cX7_isNumber 58 = .ok (.iload_n 3, 1) := by decide +kernel
theorem dX7_isNumber_59 : decode cX7_isNumber 59 = .ok (.if_icmp .ge 60, 3) := by decide +kernel
theorem dX7_isNumber_62 : decode cX7_isNumber 62 = .ok (.aload_n 0, 1) := by decide +kernel
theorem dX7_isNumber_63 : decode cX7_isNumber 63 = .ok (.getfield 63, 3) := by decide +kernel
theorem dX7_isNumber_66 : decode cX7_isNumber 66 = .ok (.iload 4, 2) := by decide +kernel
theorem dX7_isNumber_68 : decode cX7_isNumber 68 = .ok (.iload 7, 2) := by decide +kernel
theorem dX7_isNumber_70 : decode cX7_isNumber 70 = .ok (.iadd, 1) := by decide +kernel
theorem dX7_isNumber_71 : decode cX7_isNumber 71 = .ok (.iaload, 1) := by decide +kernel
theorem dX7_isNumber_72 : decode cX7_isNumber 72 = .ok (.istore 8, 2) := by decide +kernel
theorem dX7_isNumber_74 : decode cX7_isNumber 74 = .ok (.iload 6, 2) := by decide +kernel
theorem dX7_isNumber_76 : decode cX7_isNumber 76 = .ok (.ifCond .eq 21, 3) := by decide +kernel
theorem dX7_isNumber_79 : decode cX7_isNumber 79 = .ok (.iload 8, 2) := by decide +kernel
theorem dX7_isNumber_81 : decode cX7_isNumber 81 = .ok (.bipush 48, 2) := by decide +kernel
theorem dX7_isNumber_83 : decode cX7_isNumber 83 = .ok (.if_icmp .lt 14, 3) := by decide +kernel
theorem dX7_isNumber_86 : decode cX7_isNumber 86 = .ok (.iload 8, 2) := by decide +kernel
theorem dX7_isNumber_88 : decode cX7_isNumber 88 = .ok (.bipush 57, 2) := by decide +kernel
theorem dX7_isNumber_90 : decode cX7_isNumber 90 = .ok (.if_icmp .gt 7, 3) := by decide +kernel
theorem dX7_isNumber_93 : decode cX7_isNumber 93 = .ok (.iconst 1, 1) := by decide +kernel
theorem dX7_isNumber_94 : decode cX7_isNumber 94 = .ok (.goto 4, 3) := by decide +kernel
theorem dX7_isNumber_97 : decode cX7_isNumber 97 = .ok (.iconst 0, 1) := by decide +kernel
theorem dX7_isNumber_98 : decode cX7_isNumber 98 = .ok (.istore 6, 2) := by decide +kernel
theorem dX7_isNumber_100 : decode cX7_isNumber 100 = .ok (.bipush 10, 2) := by decide +kernel
theorem dX7_isNumber_102 : decode cX7_isNumber 102 = .ok (.iload 5, 2) := by decide +kernel
theorem dX7_isNumber_104 : decode cX7_isNumber 104 = .ok (.imul, 1) := by decide +kernel
theorem dX7_isNumber_105 : decode cX7_isNumber 105 = .ok (.iload 8, 2) := by decide +kernel
theorem dX7_isNumber_107 : decode cX7_isNumber 107 = .ok (.iadd, 1) := by decide +kernel
theorem dX7_isNumber_108 : decode cX7_isNumber 108 = .ok (.bipush 48, 2) := by decide +kernel
theorem dX7_isNumber_110 : decode cX7_isNumber 110 = .ok (.isub, 1) := by decide +kernel
theorem dX7_isNumber_111 : decode cX7_isNumber 111 = .ok (.istore 5, 2) := by decide +kernel
theorem dX7_isNumber_113 : decode cX7_isNumber 113 = .ok (.iinc 7 1, 3) := by decide +kernel
theorem dX7_isNumber_116 : decode cX7_isNumber 116 = .ok (.goto (-60), 3) := by decide +kernel
theorem dX7_isNumber_119 : decode cX7_isNumber 119 = .ok (.iload 6, 2) := by decide +kernel
theorem dX7_isNumber_121 : decode cX7_isNumber 121 = .ok (.ifCond .eq 13, 3) := by decide +kernel
theorem dX7_isNumber_124 : decode cX7_isNumber 124 = .ok (.iload 5, 2) := by decide +kernel
theorem dX7_isNumber_126 : decode cX7_isNumber 126 = .ok (.iload_n 2, 1) := by decide +kernel
theorem dX7_isNumber_127 : decode cX7_isNumber 127 = .ok (.if_icmp .ne 7, 3) := by decide +kernel
theorem dX7_isNumber_130 : decode cX7_isNumber 130 = .ok (.iconst 1, 1) := by decide +kernel
theorem dX7_isNumber_131 : decode cX7_isNumber 131 = .ok (.goto 4, 3) := by decide +kernel
theorem dX7_isNumber_134 : decode cX7_isNumber 134 = .ok (.iconst 0, 1) := by decide +kernel
theorem dX7_isNumber_135 : decode cX7_isNumber 135 = .ok (.ireturn, 1) := by decide +kernel
theorem dX7_check_0 : decode cX7_check 0 = .ok (.aload_n 0, 1) := by decide +kernel
theorem dX7_check_1 : decode cX7_check 1 = .ok (.iload_n 3, 1) := by decide +kernel
theorem dX7_check_2 : decode cX7_check 2 = .ok (.iconst 1, 1) := by decide +kernel
theorem dX7_check_3 : decode cX7_check 3 = .ok (.invokevirtual 205, 3) := by decide +kernel
theorem dX7_check_6 : decode cX7_check 6 = .ok (.istore 5, 2) := by decide +kernel
theorem dX7_check_8 : decode cX7_check 8 = .ok (.aload_n 0, 1) := by decide +kernel
theorem dX7_check_9 : decode cX7_check 9 = .ok (.iload 5, 2) := by decide +kernel
theorem dX7_check_11 : decode cX7_check 11 = .ok (.invokevirtual 202, 3) := by decide +kernel
theorem dX7_check_14 : decode cX7_check 14 = .ok (.ifCond .le 22, 3) := by decide +kernel
theorem dX7_check_17 : decode cX7_check 17 = .ok (.aload_n 0, 1) := by decide +kernel
theorem dX7_check_18 : decode cX7_check 18 = .ok (.iload 5, 2) := by decide +kernel
theorem dX7_check_20 : decode cX7_check 20 = .ok (.aload_n 0, 1) := by decide +kernel
theorem dX7_check_21 : decode cX7_check 21 = .ok (.iload_n 1, 1) := by decide +kernel
theorem dX7_check_22 : decode cX7_check 22 = .ok (.iload_n 2, 1) := by decide +kernel
theorem dX7_check_23 : decode cX7_check 23 = .ok (.invokevirtual 205, 3) := by decide +kernel
theorem dX7_check_26 : decode cX7_check 26 = .ok (.invokevirtual 208, 3) := by decide +kernel
theorem dX7_check_29 : decode cX7_check 29 = .ok (.ifCond .eq 7, 3) := by decide +kernel
theorem dX7_check_32 : decode cX7_check 32 = .ok (.iconst 1, 1) := by decide +kernel
theorem dX7_check_33 : decode cX7_check 33 = .ok (.goto 4, 3) := by decide +kernel
theorem dX7_check_36 : decode cX7_check 36 = .ok (.iconst 0, 1) := by decide +kernel
theorem dX7_check_37 : decode cX7_check 37 = .ok (.istore 6, 2) := by decide +kernel
theorem dX7_check_39 : decode cX7_check 39 = .ok (.iload 6, 2) := by decide +kernel
theorem dX7_check_41 : decode cX7_check 41 = .ok (.ifCond .eq 7, 3) := by decide +kernel
theorem dX7_check_44 : decode cX7_check 44 = .ok (.iconst 0, 1) := by decide +kernel
theorem dX7_check_45 : decode cX7_check 45 = .ok (.goto 4, 3) := by decide +kernel
theorem dX7_check_48 : decode cX7_check 48 = .ok (.iconst 1, 1) := by decide +kernel
theorem dX7_check_49 : decode cX7_check 49 = .ok (.aload_n 0, 1) := by decide +kernel
theorem dX7_check_50 : decode cX7_check 50 = .ok (.aload_n 0, 1) := by decide +kernel
theorem dX7_check_51 : decode cX7_check 51 = .ok (.iload_n 3, 1) := by decide +kernel
theorem dX7_check_52 : decode cX7_check 52 = .ok (.iconst 0, 1) := by decide +kernel
theorem dX7_check_53 : decode cX7_check 53 = .ok (.invokevirtual 205, 3) := by decide +kernel
theorem dX7_check_56 : decode cX7_check 56 = .ok (.iload 4, 2) := by decide +kernel
theorem dX7_check_58 : decode cX7_check 58 = .ok (.invokevirtual 212, 3) := by decide +kernel
theorem dX7_check_61 : decode cX7_check 61 = .ok (.ifCond .eq 7, 3) := by decide +kernel
theorem dX7_check_64 : decode cX7_check 64 = .ok (.iconst 0, 1) := by decide +kernel
theorem dX7_check_65 : decode cX7_check 65 = .ok (.goto 4, 3) := by decide +kernel
theorem dX7_check_68 : decode cX7_check 68 = .ok (.iconst 2, 1) := by decide +kernel
theorem dX7_check_69 : decode cX7_check 69 = .ok (.iadd, 1) := by decide +kernel
theorem dX7_check_70 : decode cX7_check 70 = .ok (.ireturn, 1) := by decide +kernel
theorem dX7_begins_0 : decode cX7_begins 0 = .ok (.bipush 24, 2) := by decide +kernel
theorem dX7_begins_2 : decode cX7_begins 2 = .ok (.iload_n 1, 1) := by decide +kernel
theorem dX7_begins_3 : decode cX7_begins 3 = .ok (.imul, 1) := by decide +kernel
theorem dX7_begins_4 : decode cX7_begins 4 = .ok (.iload_n 2, 1) := by decide +kernel
theorem dX7_begins_5 : decode cX7_begins 5 = .ok (.iadd, 1) := by decide +kernel
theorem dX7_begins_6 : decode cX7_begins 6 = .ok (.istore_n 3, 1) := by decide +kernel
theorem dX7_begins_7 : decode cX7_begins 7 = .ok (.aload_n 0, 1) := by decide +kernel
theorem dX7_begins_8 : decode cX7_begins 8 = .ok (.getfield 16, 3) := by decide +kernel
theorem dX7_begins_11 : decode cX7_begins 11 = .ok (.iload_n 3, 1) := by decide +kernel
theorem dX7_begins_12 : decode cX7_begins 12 = .ok (.iaload, 1) := by decide +kernel
theorem dX7_begins_13 : decode cX7_begins 13 = .ok (.ifCond .le 10, 3) := by decide +kernel
theorem dX7_begins_16 : decode cX7_begins 16 = .ok (.aload_n 0, 1) := by decide +kernel
theorem dX7_begins_17 : decode cX7_begins 17 = .ok (.getfield 16, 3) := by decide +kernel
theorem dX7_begins_20 : decode cX7_begins 20 = .ok (.iload_n 3, 1) := by decide +kernel
theorem dX7_begins_21 : decode cX7_begins 21 = .ok (.iaload, 1) := by decide +kernel
theorem dX7_begins_22 : decode cX7_begins 22 = .ok (.ireturn, 1) := by decide +kernel
theorem dX7_begins_23 : decode cX7_begins 23 = .ok (.aload_n 0, 1) := by decide +kernel
theorem dX7_begins_24 : decode cX7_begins 24 = .ok (.iload_n 1, 1) := by decide +kernel
theorem dX7_begins_25 : decode cX7_begins 25 = .ok (.iconst (-1), 1) := by decide +kernel
theorem dX7_begins_26 : decode cX7_begins 26 = .ok (.iload_n 2, 1) := by decide +kernel
theorem dX7_begins_27 : decode cX7_begins 27 = .ok (.invokevirtual 118, 3) := by decide +kernel
theorem dX7_begins_30 : decode cX7_begins 30 = .ok (.istore 4, 2) := by decide +kernel
theorem dX7_begins_32 : decode cX7_begins 32 = .ok (.iload 4, 2) := by decide +kernel
theorem dX7_begins_34 : decode cX7_begins 34 = .ok (.ifCond .ge 7, 3) := by decide +kernel
theorem dX7_begins_37 : decode cX7_begins 37 = .ok (.iconst 0, 1) := by decide +kernel
theorem dX7_begins_38 : decode cX7_begins 38 = .ok (.goto 15, 3) := by decide +kernel
theorem dX7_begins_41 : decode cX7_begins 41 = .ok (.aload_n 0, 1) := by decide +kernel
theorem dX7_begins_42 : decode cX7_begins 42 = .ok (.getfield 16, 3) := by decide +kernel
theorem dX7_begins_45 : decode cX7_begins 45 = .ok (.bipush 24, 2) := by decide +kernel
theorem dX7_begins_47 : decode cX7_begins 47 = .ok (.iload_n 1, 1) := by decide +kernel
theorem dX7_begins_48 : decode cX7_begins 48 = .ok (.imul, 1) := by decide +kernel
theorem dX7_begins_49 : decode cX7_begins 49 = .ok (.iload 4, 2) := by decide +kernel
theorem dX7_begins_51 : decode cX7_begins 51 = .ok (.iadd, 1) := by decide +kernel
theorem dX7_begins_52 : decode cX7_begins 52 = .ok (.iaload, 1) := by decide +kernel
theorem dX7_begins_53 : decode cX7_begins 53 = .ok (.ireturn, 1) := by decide +kernel
theorem dX7_goOn_0 : decode cX7_goOn 0 = .ok (.aload_n 0, 1) := by decide +kernel
theorem dX7_goOn_1 : decode cX7_goOn 1 = .ok (.getfield 215, 3) := by decide +kernel
theorem dX7_goOn_4 : decode cX7_goOn 4 = .ok (.ifCond .ne 7, 3) := by decide +kernel
theorem dX7_goOn_7 : decode cX7_goOn 7 = .ok (.iconst (-1), 1) := by decide +kernel
theorem dX7_goOn_8 : decode cX7_goOn 8 = .ok (.goto 14, 3) := by decide +kernel
theorem dX7_goOn_11 : decode cX7_goOn 11 = .ok (.aload_n 0, 1) := by decide +kernel
theorem dX7_goOn_12 : decode cX7_goOn 12 = .ok (.getfield 90, 3) := by decide +kernel
theorem dX7_goOn_15 : decode cX7_goOn 15 = .ok (.aload_n 0, 1) := by decide +kernel
theorem dX7_goOn_16 : decode cX7_goOn 16 = .ok (.getfield 215, 3) := by decide +kernel
theorem dX7_goOn_19 : decode cX7_goOn 19 = .ok (.iconst 1, 1) := by decide +kernel
theorem dX7_goOn_20 : decode cX7_goOn 20 = .ok (.isub, 1) := by decide +kernel
theorem dX7_goOn_21 : decode cX7_goOn 21 = .ok (.iaload, 1) := by decide +kernel
theorem dX7_goOn_22 : decode cX7_goOn 22 = .ok (.istore_n 2, 1) := by decide +kernel
theorem dX7_goOn_23 : decode cX7_goOn 23 = .ok (.aload_n 0, 1) := by decide +kernel
theorem dX7_goOn_24 : decode cX7_goOn 24 = .ok (.aload_n 0, 1) := by decide +kernel
theorem dX7_goOn_25 : decode cX7_goOn 25 = .ok (.iload_n 1, 1) := by decide +kernel
theorem dX7_goOn_26 : decode cX7_goOn 26 = .ok (.aload_n 0, 1) := by decide +kernel
theorem dX7_goOn_27 : decode cX7_goOn 27 = .ok (.getfield 218, 3) := by decide +kernel
theorem dX7_goOn_30 : decode cX7_goOn 30 = .ok (.iload_n 2, 1) := by decide +kernel
theorem dX7_goOn_31 : decode cX7_goOn 31 = .ok (.invokevirtual 118, 3) := by decide +kernel
theorem dX7_goOn_34 : decode cX7_goOn 34 = .ok (.putfield 218, 3) := by decide +kernel
theorem dX7_goOn_37 : decode cX7_goOn 37 = .ok (.aload_n 0, 1) := by decide +kernel
theorem dX7_goOn_38 : decode cX7_goOn 38 = .ok (.iconst 0, 1) := by decide +kernel
theorem dX7_goOn_39 : decode cX7_goOn 39 = .ok (.putfield 221, 3) := by decide +kernel
theorem dX7_goOn_42 : decode cX7_goOn 42 = .ok (.return_, 1) := by decide +kernel
theorem dX7_comes_0 : decode cX7_comes 0 = .ok (.iconst 0, 1) := by decide +kernel
theorem dX7_comes_1 : decode cX7_comes 1 = .ok (.istore_n 3, 1) := by decide +kernel
theorem dX7_comes_2 : decode cX7_comes 2 = .ok (.iload_n 3, 1) := by decide +kernel
theorem dX7_comes_3 : decode cX7_comes 3 = .ok (.sipush 200, 3) := by decide +kernel
theorem dX7_comes_6 : decode cX7_comes 6 = .ok (.if_icmp .ge 215, 3) := by decide +kernel
theorem dX7_comes_9 : decode cX7_comes 9 = .ok (.aload_n 0, 1) := by decide +kernel
theorem dX7_comes_10 : decode cX7_comes 10 = .ok (.getfield 218, 3) := by decide +kernel
theorem dX7_comes_13 : decode cX7_comes 13 = .ok (.ifCond .ge 51, 3) := by decide +kernel
theorem dX7_comes_16 : decode cX7_comes 16 = .ok (.aload_n 0, 1) := by decide +kernel
theorem dX7_comes_17 : decode cX7_comes 17 = .ok (.getfield 215, 3) := by decide +kernel
theorem dX7_comes_20 : decode cX7_comes 20 = .ok (.ifCond .ne 5, 3) := by decide +kernel
theorem dX7_comes_23 : decode cX7_comes 23 = .ok (.iconst 4, 1) := by decide +kernel
theorem dX7_comes_24 : decode cX7_comes 24 = .ok (.ireturn, 1) := by decide +kernel
theorem dX7_comes_25 : decode cX7_comes 25 = .ok (.aload_n 0, 1) := by decide +kernel
theorem dX7_comes_26 : decode cX7_comes 26 = .ok (.dup, 1) := by decide +kernel
theorem dX7_comes_27 : decode cX7_comes 27 = .ok (.getfield 215, 3) := by decide +kernel
theorem dX7_comes_30 : decode cX7_comes 30 = .ok (.iconst 1, 1) := by decide +kernel
theorem dX7_comes_31 : decode cX7_comes 31 = .ok (.isub, 1) := by decide +kernel
theorem dX7_comes_32 : decode cX7_comes 32 = .ok (.putfield 215, 3) := by decide +kernel
theorem dX7_comes_35 : decode cX7_comes 35 = .ok (.aload_n 0, 1) := by decide +kernel
theorem dX7_comes_36 : decode cX7_comes 36 = .ok (.aload_n 0, 1) := by decide +kernel
theorem dX7_comes_37 : decode cX7_comes 37 = .ok (.getfield 90, 3) := by decide +kernel
theorem dX7_comes_40 : decode cX7_comes 40 = .ok (.aload_n 0, 1) := by decide +kernel
theorem dX7_comes_41 : decode cX7_comes 41 = .ok (.getfield 215, 3) := by decide +kernel
theorem dX7_comes_44 : decode cX7_comes 44 = .ok (.iaload, 1) := by decide +kernel
theorem dX7_comes_45 : decode cX7_comes 45 = .ok (.putfield 218, 3) := by decide +kernel
theorem dX7_comes_48 : decode cX7_comes 48 = .ok (.aload_n 0, 1) := by decide +kernel
theorem dX7_comes_49 : decode cX7_comes 49 = .ok (.aload_n 0, 1) := by decide +kernel
theorem dX7_comes_50 : decode cX7_comes 50 = .ok (.getfield 93, 3) := by decide +kernel
theorem dX7_comes_53 : decode cX7_comes 53 = .ok (.aload_n 0, 1) := by decide +kernel
theorem dX7_comes_54 : decode cX7_comes 54 = .ok (.getfield 215, 3) := by decide +kernel
theorem dX7_comes_57 : decode cX7_comes 57 = .ok (.iaload, 1) := by decide +kernel
theorem dX7_comes_58 : decode cX7_comes 58 = .ok (.putfield 221, 3) := by decide +kernel
theorem dX7_comes_61 : decode cX7_comes 61 = .ok (.goto 154, 3) := by decide +kernel
theorem dX7_comes_64 : decode cX7_comes 64 = .ok (.bipush 24, 2) := by decide +kernel
theorem dX7_comes_66 : decode cX7_comes 66 = .ok (.iload_n 1, 1) := by decide +kernel
theorem dX7_comes_67 : decode cX7_comes 67 = .ok (.imul, 1) := by decide +kernel
theorem dX7_comes_68 : decode cX7_comes 68 = .ok (.aload_n 0, 1) := by decide +kernel
theorem dX7_comes_69 : decode cX7_comes 69 = .ok (.getfield 218, 3) := by decide +kernel
theorem dX7_comes_72 : decode cX7_comes 72 = .ok (.iadd, 1) := by decide +kernel
theorem dX7_comes_73 : decode cX7_comes 73 = .ok (.istore 4, 2) := by decide +kernel
theorem dX7_comes_75 : decode cX7_comes 75 = .ok (.aload_n 0, 1) := by decide +kernel
theorem dX7_comes_76 : decode cX7_comes 76 = .ok (.iload_n 1, 1) := by decide +kernel
theorem dX7_comes_77 : decode cX7_comes 77 = .ok (.aload_n 0, 1) := by decide +kernel
theorem dX7_comes_78 : decode cX7_comes 78 = .ok (.getfield 218, 3) := by decide +kernel
theorem dX7_comes_81 : decode cX7_comes 81 = .ok (.invokevirtual 224, 3) := by decide +kernel
theorem dX7_comes_84 : decode cX7_comes 84 = .ok (.iload_n 2, 1) := by decide +kernel
theorem dX7_comes_85 : decode cX7_comes 85 = .ok (.if_icmp .ne 106, 3) := by decide +kernel
theorem dX7_comes_88 : decode cX7_comes 88 = .ok (.aload_n 0, 1) := by decide +kernel
theorem dX7_comes_89 : decode cX7_comes 89 = .ok (.getfield 221, 3) := by decide +kernel
theorem dX7_comes_92 : decode cX7_comes 92 = .ok (.aload_n 0, 1) := by decide +kernel
theorem dX7_comes_93 : decode cX7_comes 93 = .ok (.getfield 23, 3) := by decide +kernel
theorem dX7_comes_96 : decode cX7_comes 96 = .ok (.iload 4, 2) := by decide +kernel
theorem dX7_comes_98 : decode cX7_comes 98 = .ok (.iaload, 1) := by decide +kernel
theorem dX7_comes_99 : decode cX7_comes 99 = .ok (.if_icmp .ne 6, 3) := by decide +kernel
theorem dX7_comes_102 : decode cX7_comes 102 = .ok (.bipush 6, 2) := by decide +kernel
theorem dX7_comes_104 : decode cX7_comes 104 = .ok (.ireturn, 1) := by decide +kernel
theorem dX7_comes_105 : decode cX7_comes 105 = .ok (.aload_n 0, 1) := by decide +kernel
theorem dX7_comes_106 : decode cX7_comes 106 = .ok (.dup, 1) := by decide +kernel
theorem dX7_comes_107 : decode cX7_comes 107 = .ok (.getfield 221, 3) := by decide +kernel
theorem dX7_comes_110 : decode cX7_comes 110 = .ok (.iconst 1, 1) := by decide +kernel
theorem dX7_comes_111 : decode cX7_comes 111 = .ok (.iadd, 1) := by decide +kernel
theorem dX7_comes_112 : decode cX7_comes 112 = .ok (.putfield 221, 3) := by decide +kernel
theorem dX7_comes_115 : decode cX7_comes 115 = .ok (.aload_n 0, 1) := by decide +kernel
theorem dX7_comes_116 : decode cX7_comes 116 = .ok (.getfield 16, 3) := by decide +kernel
theorem dX7_comes_119 : decode cX7_comes 119 = .ok (.iload 4, 2) := by decide +kernel
theorem dX7_comes_121 : decode cX7_comes 121 = .ok (.iaload, 1) := by decide +kernel
theorem dX7_comes_122 : decode cX7_comes 122 = .ok (.ifCond .ne 67, 3) := by decide +kernel
theorem dX7_comes_125 : decode cX7_comes 125 = .ok (.aload_n 0, 1) := by decide +kernel
theorem dX7_comes_126 : decode cX7_comes 126 = .ok (.getfield 90, 3) := by decide +kernel
theorem dX7_comes_129 : decode cX7_comes 129 = .ok (.aload_n 0, 1) := by decide +kernel
theorem dX7_comes_130 : decode cX7_comes 130 = .ok (.getfield 215, 3) := by decide +kernel
theorem dX7_comes_133 : decode cX7_comes 133 = .ok (.aload_n 0, 1) := by decide +kernel
theorem dX7_comes_134 : decode cX7_comes 134 = .ok (.getfield 218, 3) := by decide +kernel
theorem dX7_comes_137 : decode cX7_comes 137 = .ok (.iastore, 1) := by decide +kernel
theorem dX7_comes_138 : decode cX7_comes 138 = .ok (.aload_n 0, 1) := by decide +kernel
theorem dX7_comes_139 : decode cX7_comes 139 = .ok (.getfield 93, 3) := by decide +kernel
theorem dX7_comes_142 : decode cX7_comes 142 = .ok (.aload_n 0, 1) := by decide +kernel
theorem dX7_comes_143 : decode cX7_comes 143 = .ok (.getfield 215, 3) := by decide +kernel
theorem dX7_comes_146 : decode cX7_comes 146 = .ok (.aload_n 0, 1) := by decide +kernel
theorem dX7_comes_147 : decode cX7_comes 147 = .ok (.getfield 221, 3) := by decide +kernel
theorem dX7_comes_150 : decode cX7_comes 150 = .ok (.iastore, 1) := by decide +kernel
theorem dX7_comes_151 : decode cX7_comes 151 = .ok (.aload_n 0, 1) := by decide +kernel
theorem dX7_comes_152 : decode cX7_comes 152 = .ok (.dup, 1) := by decide +kernel
theorem dX7_comes_153 : decode cX7_comes 153 = .ok (.getfield 215, 3) := by decide +kernel
theorem dX7_comes_156 : decode cX7_comes 156 = .ok (.iconst 1, 1) := by decide +kernel
theorem dX7_comes_157 : decode cX7_comes 157 = .ok (.iadd, 1) := by decide +kernel
theorem dX7_comes_158 : decode cX7_comes 158 = .ok (.putfield 215, 3) := by decide +kernel
theorem dX7_comes_161 : decode cX7_comes 161 = .ok (.aload_n 0, 1) := by decide +kernel
theorem dX7_comes_162 : decode cX7_comes 162 = .ok (.aload_n 0, 1) := by decide +kernel
theorem dX7_comes_163 : decode cX7_comes 163 = .ok (.iload_n 1, 1) := by decide +kernel
theorem dX7_comes_164 : decode cX7_comes 164 = .ok (.aload_n 0, 1) := by decide +kernel
theorem dX7_comes_165 : decode cX7_comes 165 = .ok (.iload_n 1, 1) := by decide +kernel
theorem dX7_comes_166 : decode cX7_comes 166 = .ok (.iconst (-1), 1) := by decide +kernel
theorem dX7_comes_167 : decode cX7_comes 167 = .ok (.aload_n 0, 1) := by decide +kernel
theorem dX7_comes_168 : decode cX7_comes 168 = .ok (.getfield 218, 3) := by decide +kernel
theorem dX7_comes_171 : decode cX7_comes 171 = .ok (.invokevirtual 118, 3) := by decide +kernel
theorem dX7_comes_174 : decode cX7_comes 174 = .ok (.aload_n 0, 1) := by decide +kernel
theorem dX7_comes_175 : decode cX7_comes 175 = .ok (.getfield 218, 3) := by decide +kernel
theorem dX7_comes_178 : decode cX7_comes 178 = .ok (.invokevirtual 118, 3) := by decide +kernel
theorem dX7_comes_181 : decode cX7_comes 181 = .ok (.putfield 218, 3) := by decide +kernel
theorem dX7_comes_184 : decode cX7_comes 184 = .ok (.aload_n 0, 1) := by decide +kernel
theorem dX7_comes_185 : decode cX7_comes 185 = .ok (.iconst 0, 1) := by decide +kernel
theorem dX7_comes_186 : decode cX7_comes 186 = .ok (.putfield 221, 3) := by decide +kernel
theorem dX7_comes_189 : decode cX7_comes 189 = .ok (.iconst 0, 1) := by decide +kernel
theorem dX7_comes_190 : decode cX7_comes 190 = .ok (.ireturn, 1) := by decide +kernel
theorem dX7_comes_191 : decode cX7_comes 191 = .ok (.aload_n 0, 1) := by decide +kernel
theorem dX7_comes_192 : decode cX7_comes 192 = .ok (.getfield 19, 3) := by decide +kernel
theorem dX7_comes_195 : decode cX7_comes 195 = .ok (.iload 4, 2) := by decide +kernel
theorem dX7_comes_197 : decode cX7_comes 197 = .ok (.baload, 1) := by decide +kernel
theorem dX7_comes_198 : decode cX7_comes 198 = .ok (.ifCond .eq 12, 3) := by decide +kernel
theorem dX7_comes_201 : decode cX7_comes 201 = .ok (.aload_n 0, 1) := by decide +kernel
theorem dX7_comes_202 : decode cX7_comes 202 = .ok (.getfield 221, 3) := by decide +kernel
theorem dX7_comes_205 : decode cX7_comes 205 = .ok (.ifCond .ne 5, 3) := by decide +kernel
theorem dX7_comes_208 : decode cX7_comes 208 = .ok (.iconst 5, 1) := by decide +kernel
theorem dX7_comes_209 : decode cX7_comes 209 = .ok (.ireturn, 1) := by decide +kernel
theorem dX7_comes_210 : decode cX7_comes 210 = .ok (.aload_n 0, 1) := by decide +kernel
theorem dX7_comes_211 : decode cX7_comes 211 = .ok (.iload_n 1, 1) := by decide +kernel
theorem dX7_comes_212 : decode cX7_comes 212 = .ok (.invokevirtual 227, 3) := by decide +kernel
theorem dX7_comes_215 : decode cX7_comes 215 = .ok (.iinc 3 1, 3) := by decide +kernel
theorem dX7_comes_218 : decode cX7_comes 218 = .ok (.goto (-216), 3) := by decide +kernel
theorem dX7_comes_221 : decode cX7_comes 221 = .ok (.iconst 4, 1) := by decide +kernel
theorem dX7_comes_222 : decode cX7_comes 222 = .ok (.ireturn, 1) := by decide +kernel
theorem dX7_lacks_0 : decode cX7_lacks 0 = .ok (.iconst 0, 1) := by decide +kernel
theorem dX7_lacks_1 : decode cX7_lacks 1 = .ok (.istore_n 2, 1) := by decide +kernel
theorem dX7_lacks_2 : decode cX7_lacks 2 = .ok (.iconst 0, 1) := by decide +kernel
theorem dX7_lacks_3 : decode cX7_lacks 3 = .ok (.istore_n 3, 1) := by decide +kernel
theorem dX7_lacks_4 : decode cX7_lacks 4 = .ok (.iload_n 3, 1) := by decide +kernel
theorem dX7_lacks_5 : decode cX7_lacks 5 = .ok (.sipush 200, 3) := by decide +kernel
theorem dX7_lacks_8 : decode cX7_lacks 8 = .ok (.if_icmp .ge 103, 3) := by decide +kernel
theorem dX7_lacks_11 : decode cX7_lacks 11 = .ok (.aload_n 0, 1) := by decide +kernel
theorem dX7_lacks_12 : decode cX7_lacks 12 = .ok (.getfield 218, 3) := by decide +kernel
theorem dX7_lacks_15 : decode cX7_lacks 15 = .ok (.ifCond .ge 51, 3) := by decide +kernel
theorem dX7_lacks_18 : decode cX7_lacks 18 = .ok (.aload_n 0, 1) := by decide +kernel
theorem dX7_lacks_19 : decode cX7_lacks 19 = .ok (.getfield 215, 3) := by decide +kernel
theorem dX7_lacks_22 : decode cX7_lacks 22 = .ok (.ifCond .ne 5, 3) := by decide +kernel
theorem dX7_lacks_25 : decode cX7_lacks 25 = .ok (.iload_n 2, 1) := by decide +kernel
theorem dX7_lacks_26 : decode cX7_lacks 26 = .ok (.ireturn, 1) := by decide +kernel
theorem dX7_lacks_27 : decode cX7_lacks 27 = .ok (.aload_n 0, 1) := by decide +kernel
theorem dX7_lacks_28 : decode cX7_lacks 28 = .ok (.dup, 1) := by decide +kernel
theorem dX7_lacks_29 : decode cX7_lacks 29 = .ok (.getfield 215, 3) := by decide +kernel
theorem dX7_lacks_32 : decode cX7_lacks 32 = .ok (.iconst 1, 1) := by decide +kernel
theorem dX7_lacks_33 : decode cX7_lacks 33 = .ok (.isub, 1) := by decide +kernel
theorem dX7_lacks_34 : decode cX7_lacks 34 = .ok (.putfield 215, 3) := by decide +kernel
theorem dX7_lacks_37 : decode cX7_lacks 37 = .ok (.aload_n 0, 1) := by decide +kernel
theorem dX7_lacks_38 : decode cX7_lacks 38 = .ok (.aload_n 0, 1) := by decide +kernel
theorem dX7_lacks_39 : decode cX7_lacks 39 = .ok (.getfield 90, 3) := by decide +kernel
theorem dX7_lacks_42 : decode cX7_lacks 42 = .ok (.aload_n 0, 1) := by decide +kernel
theorem dX7_lacks_43 : decode cX7_lacks 43 = .ok (.getfield 215, 3) := by decide +kernel
theorem dX7_lacks_46 : decode cX7_lacks 46 = .ok (.iaload, 1) := by decide +kernel
theorem dX7_lacks_47 : decode cX7_lacks 47 = .ok (.putfield 218, 3) := by decide +kernel
theorem dX7_lacks_50 : decode cX7_lacks 50 = .ok (.aload_n 0, 1) := by decide +kernel
theorem dX7_lacks_51 : decode cX7_lacks 51 = .ok (.aload_n 0, 1) := by decide +kernel
theorem dX7_lacks_52 : decode cX7_lacks 52 = .ok (.getfield 93, 3) := by decide +kernel
theorem dX7_lacks_55 : decode cX7_lacks 55 = .ok (.aload_n 0, 1) := by decide +kernel
theorem dX7_lacks_56 : decode cX7_lacks 56 = .ok (.getfield 215, 3) := by decide +kernel
theorem dX7_lacks_59 : decode cX7_lacks 59 = .ok (.iaload, 1) := by decide +kernel
theorem dX7_lacks_60 : decode cX7_lacks 60 = .ok (.putfield 221, 3) := by decide +kernel
theorem dX7_lacks_63 : decode cX7_lacks 63 = .ok (.goto 42, 3) := by decide +kernel
theorem dX7_lacks_66 : decode cX7_lacks 66 = .ok (.iload_n 2, 1) := by decide +kernel
theorem dX7_lacks_67 : decode cX7_lacks 67 = .ok (.ifCond .ne 27, 3) := by decide +kernel
theorem dX7_lacks_70 : decode cX7_lacks 70 = .ok (.aload_n 0, 1) := by decide +kernel
theorem dX7_lacks_71 : decode cX7_lacks 71 = .ok (.getfield 19, 3) := by decide +kernel
theorem dX7_lacks_74 : decode cX7_lacks 74 = .ok (.bipush 24, 2) := by decide +kernel
theorem dX7_lacks_76 : decode cX7_lacks 76 = .ok (.iload_n 1, 1) := by decide +kernel
theorem dX7_lacks_77 : decode cX7_lacks 77 = .ok (.imul, 1) := by decide +kernel
theorem dX7_lacks_78 : decode cX7_lacks 78 = .ok (.aload_n 0, 1) := by decide +kernel
theorem dX7_lacks_79 : decode cX7_lacks 79 = .ok (.getfield 218, 3) := by decide +kernel
theorem dX7_lacks_82 : decode cX7_lacks 82 = .ok (.iadd, 1) := by decide +kernel
theorem dX7_lacks_83 : decode cX7_lacks 83 = .ok (.baload, 1) := by decide +kernel
theorem dX7_lacks_84 : decode cX7_lacks 84 = .ok (.ifCond .eq 14, 3) := by decide +kernel
theorem dX7_lacks_87 : decode cX7_lacks 87 = .ok (.aload_n 0, 1) := by decide +kernel
theorem dX7_lacks_88 : decode cX7_lacks 88 = .ok (.getfield 221, 3) := by decide +kernel
theorem dX7_lacks_91 : decode cX7_lacks 91 = .ok (.ifCond .ne 7, 3) := by decide +kernel
theorem dX7_lacks_94 : decode cX7_lacks 94 = .ok (.iconst 1, 1) := by decide +kernel
theorem dX7_lacks_95 : decode cX7_lacks 95 = .ok (.goto 4, 3) := by decide +kernel
theorem dX7_lacks_98 : decode cX7_lacks 98 = .ok (.iconst 0, 1) := by decide +kernel
theorem dX7_lacks_99 : decode cX7_lacks 99 = .ok (.istore_n 2, 1) := by decide +kernel
theorem dX7_lacks_100 : decode cX7_lacks 100 = .ok (.aload_n 0, 1) := by decide +kernel
theorem dX7_lacks_101 : decode cX7_lacks 101 = .ok (.iload_n 1, 1) := by decide +kernel
theorem dX7_lacks_102 : decode cX7_lacks 102 = .ok (.invokevirtual 227, 3) := by decide +kernel
theorem dX7_lacks_105 : decode cX7_lacks 105 = .ok (.iinc 3 1, 3) := by decide +kernel
theorem dX7_lacks_108 : decode cX7_lacks 108 = .ok (.goto (-104), 3) := by decide +kernel
theorem dX7_lacks_111 : decode cX7_lacks 111 = .ok (.iload_n 2, 1) := by decide +kernel
theorem dX7_lacks_112 : decode cX7_lacks 112 = .ok (.ireturn, 1) := by decide +kernel
theorem dX7_typeOf_0 : decode cX7_typeOf 0 = .ok (.aload_n 0, 1) := by decide +kernel
theorem dX7_typeOf_1 : decode cX7_typeOf 1 = .ok (.aload_n 0, 1) := by decide +kernel
theorem dX7_typeOf_2 : decode cX7_typeOf 2 = .ok (.getfield 66, 3) := by decide +kernel
theorem dX7_typeOf_5 : decode cX7_typeOf 5 = .ok (.iload_n 1, 1) := by decide +kernel
theorem dX7_typeOf_6 : decode cX7_typeOf 6 = .ok (.iaload, 1) := by decide +kernel
theorem dX7_typeOf_7 : decode cX7_typeOf 7 = .ok (.iconst 1, 1) := by decide +kernel
theorem dX7_typeOf_8 : decode cX7_typeOf 8 = .ok (.invokevirtual 205, 3) := by decide +kernel
theorem dX7_typeOf_11 : decode cX7_typeOf 11 = .ok (.istore_n 2, 1) := by decide +kernel
theorem dX7_typeOf_12 : decode cX7_typeOf 12 = .ok (.aload_n 0, 1) := by decide +kernel
theorem dX7_typeOf_13 : decode cX7_typeOf 13 = .ok (.iload_n 2, 1) := by decide +kernel
theorem dX7_typeOf_14 : decode cX7_typeOf 14 = .ok (.invokevirtual 202, 3) := by decide +kernel
theorem dX7_typeOf_17 : decode cX7_typeOf 17 = .ok (.iconst 1, 1) := by decide +kernel
theorem dX7_typeOf_18 : decode cX7_typeOf 18 = .ok (.if_icmp .ne 20, 3) := by decide +kernel
theorem dX7_typeOf_21 : decode cX7_typeOf 21 = .ok (.aload_n 0, 1) := by decide +kernel
theorem dX7_typeOf_22 : decode cX7_typeOf 22 = .ok (.getfield 63, 3) := by decide +kernel
theorem dX7_typeOf_25 : decode cX7_typeOf 25 = .ok (.aload_n 0, 1) := by decide +kernel
theorem dX7_typeOf_26 : decode cX7_typeOf 26 = .ok (.getfield 60, 3) := by decide +kernel
theorem dX7_typeOf_29 : decode cX7_typeOf 29 = .ok (.iload_n 2, 1) := by decide +kernel
theorem dX7_typeOf_30 : decode cX7_typeOf 30 = .ok (.iaload, 1) := by decide +kernel
theorem dX7_typeOf_31 : decode cX7_typeOf 31 = .ok (.iaload, 1) := by decide +kernel
theorem dX7_typeOf_32 : decode cX7_typeOf 32 = .ok (.bipush 48, 2) := by decide +kernel
theorem dX7_typeOf_34 : decode cX7_typeOf 34 = .ok (.isub, 1) := by decide +kernel
theorem dX7_typeOf_35 : decode cX7_typeOf 35 = .ok (.goto 4, 3) := by decide +kernel
theorem dX7_typeOf_38 : decode cX7_typeOf 38 = .ok (.iconst (-1), 1) := by decide +kernel
theorem dX7_typeOf_39 : decode cX7_typeOf 39 = .ok (.istore_n 3, 1) := by decide +kernel
theorem dX7_typeOf_40 : decode cX7_typeOf 40 = .ok (.iload_n 3, 1) := by decide +kernel
theorem dX7_typeOf_41 : decode cX7_typeOf 41 = .ok (.invokestatic 122, 3) := by decide +kernel
theorem dX7_typeOf_44 : decode cX7_typeOf 44 = .ok (.ifCond .eq 27, 3) := by decide +kernel
theorem dX7_typeOf_47 : decode cX7_typeOf 47 = .ok (.aload_n 0, 1) := by decide +kernel
theorem dX7_typeOf_48 : decode cX7_typeOf 48 = .ok (.getfield 13, 3) := by decide +kernel
theorem dX7_typeOf_51 : decode cX7_typeOf 51 = .ok (.iload_n 3, 1) := by decide +kernel
theorem dX7_typeOf_52 : decode cX7_typeOf 52 = .ok (.invokestatic 122, 3) := by decide +kernel
theorem dX7_typeOf_55 : decode cX7_typeOf 55 = .ok (.ifCond .eq 7, 3) := by decide +kernel
theorem dX7_typeOf_58 : decode cX7_typeOf 58 = .ok (.iload_n 3, 1) := by decide +kernel
theorem dX7_typeOf_59 : decode cX7_typeOf 59 = .ok (.goto 4, 3) := by decide +kernel
theorem dX7_typeOf_62 : decode cX7_typeOf 62 = .ok (.iconst 0, 1) := by decide +kernel
theorem dX7_typeOf_63 : decode cX7_typeOf 63 = .ok (.iaload, 1) := by decide +kernel
theorem dX7_typeOf_64 : decode cX7_typeOf 64 = .ok (.ifCond .le 7, 3) := by decide +kernel
theorem dX7_typeOf_67 : decode cX7_typeOf 67 = .ok (.iload_n 3, 1) := by decide +kernel
theorem dX7_typeOf_68 : decode cX7_typeOf 68 = .ok (.goto 4, 3) := by decide +kernel
theorem dX7_typeOf_71 : decode cX7_typeOf 71 = .ok (.iconst (-1), 1) := by decide +kernel
theorem dX7_typeOf_72 : decode cX7_typeOf 72 = .ok (.ireturn, 1) := by decide +kernel
theorem dX7_judge_0 : decode cX7_judge 0 = .ok (.aload_n 0, 1) := by decide +kernel
theorem dX7_judge_1 : decode cX7_judge 1 = .ok (.getfield 66, 3) := by decide +kernel
theorem dX7_judge_4 : decode cX7_judge 4 = .ok (.iload_n 1, 1) := by decide +kernel
theorem dX7_judge_5 : decode cX7_judge 5 = .ok (.iaload, 1) := by decide +kernel
theorem dX7_judge_6 : decode cX7_judge 6 = .ok (.istore_n 2, 1) := by decide +kernel
theorem dX7_judge_7 : decode cX7_judge 7 = .ok (.aload_n 0, 1) := by decide +kernel
theorem dX7_judge_8 : decode cX7_judge 8 = .ok (.getfield 69, 3) := by decide +kernel
theorem dX7_judge_11 : decode cX7_judge 11 = .ok (.iload_n 1, 1) := by decide +kernel
theorem dX7_judge_12 : decode cX7_judge 12 = .ok (.iaload, 1) := by decide +kernel
theorem dX7_judge_13 : decode cX7_judge 13 = .ok (.istore_n 3, 1) := by decide +kernel
theorem dX7_judge_14 : decode cX7_judge 14 = .ok (.aload_n 0, 1) := by decide +kernel
theorem dX7_judge_15 : decode cX7_judge 15 = .ok (.iload_n 2, 1) := by decide +kernel
theorem dX7_judge_16 : decode cX7_judge 16 = .ok (.iconst 0, 1) := by decide +kernel
theorem dX7_judge_17 : decode cX7_judge 17 = .ok (.iload_n 3, 1) := by decide +kernel
theorem dX7_judge_18 : decode cX7_judge 18 = .ok (.iload_n 3, 1) := by decide +kernel
theorem dX7_judge_19 : decode cX7_judge 19 = .ok (.iload_n 2, 1) := by decide +kernel
theorem dX7_judge_20 : decode cX7_judge 20 = .ok (.isub, 1) := by decide +kernel
theorem dX7_judge_21 : decode cX7_judge 21 = .ok (.iconst 1, 1) := by decide +kernel
theorem dX7_judge_22 : decode cX7_judge 22 = .ok (.iadd, 1) := by decide +kernel
theorem dX7_judge_23 : decode cX7_judge 23 = .ok (.invokevirtual 230, 3) := by decide +kernel
theorem dX7_judge_26 : decode cX7_judge 26 = .ok (.istore 4, 2) := by decide +kernel
theorem dX7_judge_28 : decode cX7_judge 28 = .ok (.aload_n 0, 1) := by decide +kernel
theorem dX7_judge_29 : decode cX7_judge 29 = .ok (.getfield 75, 3) := by decide +kernel
theorem dX7_judge_32 : decode cX7_judge 32 = .ok (.iload_n 1, 1) := by decide +kernel
theorem dX7_judge_33 : decode cX7_judge 33 = .ok (.iload 4, 2) := by decide +kernel
theorem dX7_judge_35 : decode cX7_judge 35 = .ok (.iconst 2, 1) := by decide +kernel
theorem dX7_judge_36 : decode cX7_judge 36 = .ok (.irem, 1) := by decide +kernel
theorem dX7_judge_37 : decode cX7_judge 37 = .ok (.iconst 1, 1) := by decide +kernel
theorem dX7_judge_38 : decode cX7_judge 38 = .ok (.if_icmp .ne 7, 3) := by decide +kernel
theorem dX7_judge_41 : decode cX7_judge 41 = .ok (.iconst 1, 1) := by decide +kernel
theorem dX7_judge_42 : decode cX7_judge 42 = .ok (.goto 5, 3) := by decide +kernel
theorem dX7_judge_45 : decode cX7_judge 45 = .ok (.iload 4, 2) := by decide +kernel
theorem dX7_judge_47 : decode cX7_judge 47 = .ok (.iastore, 1) := by decide +kernel
theorem dX7_judge_48 : decode cX7_judge 48 = .ok (.aload_n 0, 1) := by decide +kernel
theorem dX7_judge_49 : decode cX7_judge 49 = .ok (.getfield 78, 3) := by decide +kernel
theorem dX7_judge_52 : decode cX7_judge 52 = .ok (.iload_n 1, 1) := by decide +kernel
theorem dX7_judge_53 : decode cX7_judge 53 = .ok (.iload_n 3, 1) := by decide +kernel
theorem dX7_judge_54 : decode cX7_judge 54 = .ok (.iastore, 1) := by decide +kernel
theorem dX7_judge_55 : decode cX7_judge 55 = .ok (.iload 4, 2) := by decide +kernel
theorem dX7_judge_57 : decode cX7_judge 57 = .ok (.ifCond .le 4, 3) := by decide +kernel
theorem dX7_judge_60 : decode cX7_judge 60 = .ok (.return_, 1) := by decide +kernel
theorem dX7_judge_61 : decode cX7_judge 61 = .ok (.aload_n 0, 1) := by decide +kernel
theorem dX7_judge_62 : decode cX7_judge 62 = .ok (.getfield 78, 3) := by decide +kernel
theorem dX7_judge_65 : decode cX7_judge 65 = .ok (.iload_n 1, 1) := by decide +kernel
theorem dX7_judge_66 : decode cX7_judge 66 = .ok (.iload_n 2, 1) := by decide +kernel
theorem dX7_judge_67 : decode cX7_judge 67 = .ok (.iastore, 1) := by decide +kernel
theorem dX7_judge_68 : decode cX7_judge 68 = .ok (.iconst 0, 1) := by decide +kernel
theorem dX7_judge_69 : decode cX7_judge 69 = .ok (.istore 5, 2) := by decide +kernel
theorem dX7_judge_71 : decode cX7_judge 71 = .ok (.iload 5, 2) := by decide +kernel
theorem dX7_judge_73 : decode cX7_judge 73 = .ok (.iload_n 1, 1) := by decide +kernel
theorem dX7_judge_74 : decode cX7_judge 74 = .ok (.if_icmp .ge 43, 3) := by decide +kernel
theorem dX7_judge_77 : decode cX7_judge 77 = .ok (.aload_n 0, 1) := by decide +kernel
theorem dX7_judge_78 : decode cX7_judge 78 = .ok (.aload_n 0, 1) := by decide +kernel
theorem dX7_judge_79 : decode cX7_judge 79 = .ok (.aload_n 0, 1) := by decide +kernel
theorem dX7_judge_80 : decode cX7_judge 80 = .ok (.getfield 66, 3) := by decide +kernel
theorem dX7_judge_83 : decode cX7_judge 83 = .ok (.iload 5, 2) := by decide +kernel
theorem dX7_judge_85 : decode cX7_judge 85 = .ok (.iaload, 1) := by decide +kernel
theorem dX7_judge_86 : decode cX7_judge 86 = .ok (.iconst 0, 1) := by decide +kernel
theorem dX7_judge_87 : decode cX7_judge 87 = .ok (.invokevirtual 205, 3) := by decide +kernel
theorem dX7_judge_90 : decode cX7_judge 90 = .ok (.aload_n 0, 1) := by decide +kernel
theorem dX7_judge_91 : decode cX7_judge 91 = .ok (.iload_n 2, 1) := by decide +kernel
theorem dX7_judge_92 : decode cX7_judge 92 = .ok (.iconst 0, 1) := by decide +kernel
theorem dX7_judge_93 : decode cX7_judge 93 = .ok (.invokevirtual 205, 3) := by decide +kernel
theorem dX7_judge_96 : decode cX7_judge 96 = .ok (.invokevirtual 208, 3) := by decide +kernel
theorem dX7_judge_99 : decode cX7_judge 99 = .ok (.ifCond .eq 12, 3) := by decide +kernel
theorem dX7_judge_102 : decode cX7_judge 102 = .ok (.aload_n 0, 1) := by decide +kernel
theorem dX7_judge_103 : decode cX7_judge 103 = .ok (.getfield 75, 3) := by decide +kernel
theorem dX7_judge_106 : decode cX7_judge 106 = .ok (.iload_n 1, 1) := by decide +kernel
theorem dX7_judge_107 : decode cX7_judge 107 = .ok (.bipush 7, 2) := by decide +kernel
theorem dX7_judge_109 : decode cX7_judge 109 = .ok (.iastore, 1) := by decide +kernel
theorem dX7_judge_110 : decode cX7_judge 110 = .ok (.return_, 1) := by decide +kernel
theorem dX7_judge_111 : decode cX7_judge 111 = .ok (.iinc 5 1, 3) := by decide +kernel
theorem dX7_judge_114 : decode cX7_judge 114 = .ok (.goto (-43), 3) := by decide +kernel
theorem dX7_judge_117 : decode cX7_judge 117 = .ok (.aload_n 0, 1) := by decide +kernel
theorem dX7_judge_118 : decode cX7_judge 118 = .ok (.iload_n 1, 1) := by decide +kernel
theorem dX7_judge_119 : decode cX7_judge 119 = .ok (.invokevirtual 234, 3) := by decide +kernel
theorem dX7_judge_122 : decode cX7_judge 122 = .ok (.istore 5, 2) := by decide +kernel
theorem dX7_judge_124 : decode cX7_judge 124 = .ok (.iload 5, 2) := by decide +kernel
theorem dX7_judge_126 : decode cX7_judge 126 = .ok (.ifCond .ge 11, 3) := by decide +kernel
theorem dX7_judge_129 : decode cX7_judge 129 = .ok (.aload_n 0, 1) := by decide +kernel
theorem dX7_judge_130 : decode cX7_judge 130 = .ok (.getfield 75, 3) := by decide +kernel
theorem dX7_judge_133 : decode cX7_judge 133 = .ok (.iload_n 1, 1) := by decide +kernel
theorem dX7_judge_134 : decode cX7_judge 134 = .ok (.iconst 3, 1) := by decide +kernel
theorem dX7_judge_135 : decode cX7_judge 135 = .ok (.iastore, 1) := by decide +kernel
theorem dX7_judge_136 : decode cX7_judge 136 = .ok (.return_, 1) := by decide +kernel
theorem dX7_judge_137 : decode cX7_judge 137 = .ok (.aload_n 0, 1) := by decide +kernel
theorem dX7_judge_138 : decode cX7_judge 138 = .ok (.iconst 0, 1) := by decide +kernel
theorem dX7_judge_139 : decode cX7_judge 139 = .ok (.putfield 215, 3) := by decide +kernel
theorem dX7_judge_142 : decode cX7_judge 142 = .ok (.aload_n 0, 1) := by decide +kernel
theorem dX7_judge_143 : decode cX7_judge 143 = .ok (.iconst 0, 1) := by decide +kernel
theorem dX7_judge_144 : decode cX7_judge 144 = .ok (.putfield 221, 3) := by decide +kernel
theorem dX7_judge_147 : decode cX7_judge 147 = .ok (.aload_n 0, 1) := by decide +kernel
theorem dX7_judge_148 : decode cX7_judge 148 = .ok (.aload_n 0, 1) := by decide +kernel
theorem dX7_judge_149 : decode cX7_judge 149 = .ok (.iload 5, 2) := by decide +kernel
theorem dX7_judge_151 : decode cX7_judge 151 = .ok (.iconst (-1), 1) := by decide +kernel
theorem dX7_judge_152 : decode cX7_judge 152 = .ok (.iconst (-1), 1) := by decide +kernel
theorem dX7_judge_153 : decode cX7_judge 153 = .ok (.invokevirtual 118, 3) := by decide +kernel
theorem dX7_judge_156 : decode cX7_judge 156 = .ok (.putfield 218, 3) := by decide +kernel
theorem dX7_judge_159 : decode cX7_judge 159 = .ok (.iload_n 2, 1) := by decide +kernel
theorem dX7_judge_160 : decode cX7_judge 160 = .ok (.iconst 1, 1) := by decide +kernel
theorem dX7_judge_161 : decode cX7_judge 161 = .ok (.iadd, 1) := by decide +kernel
theorem dX7_judge_162 : decode cX7_judge 162 = .ok (.istore 6, 2) := by decide +kernel
theorem dX7_judge_164 : decode cX7_judge 164 = .ok (.iload 6, 2) := by decide +kernel
theorem dX7_judge_166 : decode cX7_judge 166 = .ok (.iload_n 3, 1) := by decide +kernel
theorem dX7_judge_167 : decode cX7_judge 167 = .ok (.if_icmp .ge 46, 3) := by decide +kernel
theorem dX7_judge_170 : decode cX7_judge 170 = .ok (.aload_n 0, 1) := by decide +kernel
theorem dX7_judge_171 : decode cX7_judge 171 = .ok (.getfield 75, 3) := by decide +kernel
theorem dX7_judge_174 : decode cX7_judge 174 = .ok (.iload_n 1, 1) := by decide +kernel
theorem dX7_judge_175 : decode cX7_judge 175 = .ok (.aload_n 0, 1) := by decide +kernel
theorem dX7_judge_176 : decode cX7_judge 176 = .ok (.iload 5, 2) := by decide +kernel
theorem dX7_judge_178 : decode cX7_judge 178 = .ok (.aload_n 0, 1) := by decide +kernel
theorem dX7_judge_179 : decode cX7_judge 179 = .ok (.getfield 51, 3) := by decide +kernel
theorem dX7_judge_182 : decode cX7_judge 182 = .ok (.iload 6, 2) := by decide +kernel
theorem dX7_judge_184 : decode cX7_judge 184 = .ok (.iaload, 1) := by decide +kernel
theorem dX7_judge_185 : decode cX7_judge 185 = .ok (.invokevirtual 237, 3) := by decide +kernel
theorem dX7_judge_188 : decode cX7_judge 188 = .ok (.iastore, 1) := by decide +kernel
theorem dX7_judge_189 : decode cX7_judge 189 = .ok (.aload_n 0, 1) := by decide +kernel
theorem dX7_judge_190 : decode cX7_judge 190 = .ok (.getfield 78, 3) := by decide +kernel
theorem dX7_judge_193 : decode cX7_judge 193 = .ok (.iload_n 1, 1) := by decide +kernel
theorem dX7_judge_194 : decode cX7_judge 194 = .ok (.iload 6, 2) := by decide +kernel
theorem dX7_judge_196 : decode cX7_judge 196 = .ok (.iastore, 1) := by decide +kernel
theorem dX7_judge_197 : decode cX7_judge 197 = .ok (.aload_n 0, 1) := by decide +kernel
theorem dX7_judge_198 : decode cX7_judge 198 = .ok (.getfield 75, 3) := by decide +kernel
theorem dX7_judge_201 : decode cX7_judge 201 = .ok (.iload_n 1, 1) := by decide +kernel
theorem dX7_judge_202 : decode cX7_judge 202 = .ok (.iaload, 1) := by decide +kernel
theorem dX7_judge_203 : decode cX7_judge 203 = .ok (.ifCond .le 4, 3) := by decide +kernel
theorem dX7_judge_206 : decode cX7_judge 206 = .ok (.return_, 1) := by decide +kernel
theorem dX7_judge_207 : decode cX7_judge 207 = .ok (.iinc 6 1, 3) := by decide +kernel
theorem dX7_judge_210 : decode cX7_judge 210 = .ok (.goto (-46), 3) := by decide +kernel
theorem dX7_judge_213 : decode cX7_judge 213 = .ok (.aload_n 0, 1) := by decide +kernel
theorem dX7_judge_214 : decode cX7_judge 214 = .ok (.iload 5, 2) := by decide +kernel
theorem dX7_judge_216 : decode cX7_judge 216 = .ok (.invokevirtual 240, 3) := by decide +kernel
theorem dX7_judge_219 : decode cX7_judge 219 = .ok (.istore 6, 2) := by decide +kernel
theorem dX7_judge_221 : decode cX7_judge 221 = .ok (.aload_n 0, 1) := by decide +kernel
theorem dX7_judge_222 : decode cX7_judge 222 = .ok (.getfield 75, 3) := by decide +kernel
theorem dX7_judge_225 : decode cX7_judge 225 = .ok (.iload_n 1, 1) := by decide +kernel
theorem dX7_judge_226 : decode cX7_judge 226 = .ok (.iload 6, 2) := by decide +kernel
theorem dX7_judge_228 : decode cX7_judge 228 = .ok (.ifCond .eq 7, 3) := by decide +kernel
theorem dX7_judge_231 : decode cX7_judge 231 = .ok (.iconst 5, 1) := by decide +kernel
theorem dX7_judge_232 : decode cX7_judge 232 = .ok (.goto 4, 3) := by decide +kernel
theorem dX7_judge_235 : decode cX7_judge 235 = .ok (.iconst 0, 1) := by decide +kernel
theorem dX7_judge_236 : decode cX7_judge 236 = .ok (.iastore, 1) := by decide +kernel
theorem dX7_judge_237 : decode cX7_judge 237 = .ok (.aload_n 0, 1) := by decide +kernel
theorem dX7_judge_238 : decode cX7_judge 238 = .ok (.getfield 78, 3) := by decide +kernel
theorem dX7_judge_241 : decode cX7_judge 241 = .ok (.iload_n 1, 1) := by decide +kernel
theorem dX7_judge_242 : decode cX7_judge 242 = .ok (.iload 6, 2) := by decide +kernel
theorem dX7_judge_244 : decode cX7_judge 244 = .ok (.ifCond .eq 7, 3) := by decide +kernel
theorem dX7_judge_247 : decode cX7_judge 247 = .ok (.iload_n 3, 1) := by decide +kernel
theorem dX7_judge_248 : decode cX7_judge 248 = .ok (.goto 4, 3) := by decide +kernel
theorem dX7_judge_251 : decode cX7_judge 251 = .ok (.iconst (-1), 1) := by decide +kernel
theorem dX7_judge_252 : decode cX7_judge 252 = .ok (.iastore, 1) := by decide +kernel
theorem dX7_judge_253 : decode cX7_judge 253 = .ok (.return_, 1) := by decide +kernel
theorem dX7_read_0 : decode cX7_read 0 = .ok (.aload_n 0, 1) := by decide +kernel
theorem dX7_read_1 : decode cX7_read 1 = .ok (.iconst (-1), 1) := by decide +kernel
theorem dX7_read_2 : decode cX7_read 2 = .ok (.putfield 32, 3) := by decide +kernel
theorem dX7_read_5 : decode cX7_read 5 = .ok (.aload_n 0, 1) := by decide +kernel
theorem dX7_read_6 : decode cX7_read 6 = .ok (.aload_n 0, 1) := by decide +kernel
theorem dX7_read_7 : decode cX7_read 7 = .ok (.invokevirtual 243, 3) := by decide +kernel
theorem dX7_read_10 : decode cX7_read 10 = .ok (.ifCond .eq 7, 3) := by decide +kernel
theorem dX7_read_13 : decode cX7_read 13 = .ok (.iconst 0, 1) := by decide +kernel
theorem dX7_read_14 : decode cX7_read 14 = .ok (.goto 4, 3) := by decide +kernel
theorem dX7_read_17 : decode cX7_read 17 = .ok (.iconst 1, 1) := by decide +kernel
theorem dX7_read_18 : decode cX7_read 18 = .ok (.putfield 102, 3) := by decide +kernel
theorem dX7_read_21 : decode cX7_read 21 = .ok (.aload_n 0, 1) := by decide +kernel
theorem dX7_read_22 : decode cX7_read 22 = .ok (.getfield 102, 3) := by decide +kernel
theorem dX7_read_25 : decode cX7_read 25 = .ok (.ifCond .le 5, 3) := by decide +kernel
theorem dX7_read_28 : decode cX7_read 28 = .ok (.iconst 0, 1) := by decide +kernel
theorem dX7_read_29 : decode cX7_read 29 = .ok (.ireturn, 1) := by decide +kernel
theorem dX7_read_30 : decode cX7_read 30 = .ok (.aload_n 0, 1) := by decide +kernel
theorem dX7_read_31 : decode cX7_read 31 = .ok (.iconst (-1), 1) := by decide +kernel
theorem dX7_read_32 : decode cX7_read 32 = .ok (.putfield 32, 3) := by decide +kernel
theorem dX7_read_35 : decode cX7_read 35 = .ok (.aload_n 0, 1) := by decide +kernel
theorem dX7_read_36 : decode cX7_read 36 = .ok (.aload_n 0, 1) := by decide +kernel
theorem dX7_read_37 : decode cX7_read 37 = .ok (.invokevirtual 247, 3) := by decide +kernel
theorem dX7_read_40 : decode cX7_read 40 = .ok (.ifCond .eq 7, 3) := by decide +kernel
theorem dX7_read_43 : decode cX7_read 43 = .ok (.iconst 0, 1) := by decide +kernel
theorem dX7_read_44 : decode cX7_read 44 = .ok (.goto 4, 3) := by decide +kernel
theorem dX7_read_47 : decode cX7_read 47 = .ok (.iconst 2, 1) := by decide +kernel
theorem dX7_read_48 : decode cX7_read 48 = .ok (.putfield 102, 3) := by decide +kernel
theorem dX7_read_51 : decode cX7_read 51 = .ok (.aload_n 0, 1) := by decide +kernel
theorem dX7_read_52 : decode cX7_read 52 = .ok (.getfield 102, 3) := by decide +kernel
theorem dX7_read_55 : decode cX7_read 55 = .ok (.ifCond .le 5, 3) := by decide +kernel
theorem dX7_read_58 : decode cX7_read 58 = .ok (.iconst 0, 1) := by decide +kernel
theorem dX7_read_59 : decode cX7_read 59 = .ok (.ireturn, 1) := by decide +kernel
theorem dX7_read_60 : decode cX7_read 60 = .ok (.aload_n 0, 1) := by decide +kernel
theorem dX7_read_61 : decode cX7_read 61 = .ok (.invokevirtual 250, 3) := by decide +kernel
theorem dX7_read_64 : decode cX7_read 64 = .ok (.aload_n 0, 1) := by decide +kernel
theorem dX7_read_65 : decode cX7_read 65 = .ok (.iconst 1, 1) := by decide +kernel
theorem dX7_read_66 : decode cX7_read 66 = .ok (.putfield 253, 3) := by decide +kernel
theorem dX7_read_69 : decode cX7_read 69 = .ok (.aload_n 0, 1) := by decide +kernel
theorem dX7_read_70 : decode cX7_read 70 = .ok (.iconst 0, 1) := by decide +kernel
theorem dX7_read_71 : decode cX7_read 71 = .ok (.putfield 105, 3) := by decide +kernel
theorem dX7_read_74 : decode cX7_read 74 = .ok (.iconst 0, 1) := by decide +kernel
theorem dX7_read_75 : decode cX7_read 75 = .ok (.istore_n 1, 1) := by decide +kernel
theorem dX7_read_76 : decode cX7_read 76 = .ok (.iload_n 1, 1) := by decide +kernel
theorem dX7_read_77 : decode cX7_read 77 = .ok (.aload_n 0, 1) := by decide +kernel
theorem dX7_read_78 : decode cX7_read 78 = .ok (.getfield 196, 3) := by decide +kernel
theorem dX7_read_81 : decode cX7_read 81 = .ok (.if_icmp .ge 14, 3) := by decide +kernel
theorem dX7_read_84 : decode cX7_read 84 = .ok (.aload_n 0, 1) := by decide +kernel
theorem dX7_read_85 : decode cX7_read 85 = .ok (.iload_n 1, 1) := by decide +kernel
theorem dX7_read_86 : decode cX7_read 86 = .ok (.invokevirtual 257, 3) := by decide +kernel
theorem dX7_read_89 : decode cX7_read 89 = .ok (.iinc 1 1, 3) := by decide +kernel
theorem dX7_read_92 : decode cX7_read 92 = .ok (.goto (-16), 3) := by decide +kernel
theorem dX7_read_95 : decode cX7_read 95 = .ok (.iconst 0, 1) := by decide +kernel
theorem dX7_read_96 : decode cX7_read 96 = .ok (.istore_n 1, 1) := by decide +kernel
theorem dX7_read_97 : decode cX7_read 97 = .ok (.iload_n 1, 1) := by decide +kernel
theorem dX7_read_98 : decode cX7_read 98 = .ok (.aload_n 0, 1) := by decide +kernel
theorem dX7_read_99 : decode cX7_read 99 = .ok (.getfield 199, 3) := by decide +kernel
theorem dX7_read_102 : decode cX7_read 102 = .ok (.if_icmp .ge 69, 3) := by decide +kernel
theorem dX7_read_105 : decode cX7_read 105 = .ok (.iconst 0, 1) := by decide +kernel
theorem dX7_read_106 : decode cX7_read 106 = .ok (.istore_n 2, 1) := by decide +kernel
theorem dX7_read_107 : decode cX7_read 107 = .ok (.iconst 0, 1) := by decide +kernel
theorem dX7_read_108 : decode cX7_read 108 = .ok (.istore_n 3, 1) := by decide +kernel
theorem dX7_read_109 : decode cX7_read 109 = .ok (.iload_n 3, 1) := by decide +kernel
theorem dX7_read_110 : decode cX7_read 110 = .ok (.aload_n 0, 1) := by decide +kernel
theorem dX7_read_111 : decode cX7_read 111 = .ok (.getfield 196, 3) := by decide +kernel
theorem dX7_read_114 : decode cX7_read 114 = .ok (.if_icmp .ge 27, 3) := by decide +kernel
theorem dX7_read_117 : decode cX7_read 117 = .ok (.iload_n 2, 1) := by decide +kernel
theorem dX7_read_118 : decode cX7_read 118 = .ok (.aload_n 0, 1) := by decide +kernel
theorem dX7_read_119 : decode cX7_read 119 = .ok (.getfield 72, 3) := by decide +kernel
theorem dX7_read_122 : decode cX7_read 122 = .ok (.iload_n 3, 1) := by decide +kernel
theorem dX7_read_123 : decode cX7_read 123 = .ok (.iaload, 1) := by decide +kernel
theorem dX7_read_124 : decode cX7_read 124 = .ok (.iload_n 1, 1) := by decide +kernel
theorem dX7_read_125 : decode cX7_read 125 = .ok (.if_icmp .ne 7, 3) := by decide +kernel
theorem dX7_read_128 : decode cX7_read 128 = .ok (.iconst 1, 1) := by decide +kernel
theorem dX7_read_129 : decode cX7_read 129 = .ok (.goto 4, 3) := by decide +kernel
theorem dX7_read_132 : decode cX7_read 132 = .ok (.iconst 0, 1) := by decide +kernel
theorem dX7_read_133 : decode cX7_read 133 = .ok (.iadd, 1) := by decide +kernel
theorem dX7_read_134 : decode cX7_read 134 = .ok (.istore_n 2, 1) := by decide +kernel
theorem dX7_read_135 : decode cX7_read 135 = .ok (.iinc 3 1, 3) := by decide +kernel
theorem dX7_read_138 : decode cX7_read 138 = .ok (.goto (-29), 3) := by decide +kernel
theorem dX7_read_141 : decode cX7_read 141 = .ok (.aload_n 0, 1) := by decide +kernel
theorem dX7_read_142 : decode cX7_read 142 = .ok (.getfield 87, 3) := by decide +kernel
theorem dX7_read_145 : decode cX7_read 145 = .ok (.iload_n 1, 1) := by decide +kernel
theorem dX7_read_146 : decode cX7_read 146 = .ok (.aload_n 0, 1) := by decide +kernel
theorem dX7_read_147 : decode cX7_read 147 = .ok (.aload_n 0, 1) := by decide +kernel
theorem dX7_read_148 : decode cX7_read 148 = .ok (.getfield 81, 3) := by decide +kernel
theorem dX7_read_151 : decode cX7_read 151 = .ok (.iload_n 1, 1) := by decide +kernel
theorem dX7_read_152 : decode cX7_read 152 = .ok (.iaload, 1) := by decide +kernel
theorem dX7_read_153 : decode cX7_read 153 = .ok (.iconst 0, 1) := by decide +kernel
theorem dX7_read_154 : decode cX7_read 154 = .ok (.aload_n 0, 1) := by decide +kernel
theorem dX7_read_155 : decode cX7_read 155 = .ok (.getfield 84, 3) := by decide +kernel
theorem dX7_read_158 : decode cX7_read 158 = .ok (.iload_n 1, 1) := by decide +kernel
theorem dX7_read_159 : decode cX7_read 159 = .ok (.iaload, 1) := by decide +kernel
theorem dX7_read_160 : decode cX7_read 160 = .ok (.iload_n 2, 1) := by decide +kernel
theorem dX7_read_161 : decode cX7_read 161 = .ok (.invokevirtual 230, 3) := by decide +kernel
theorem dX7_read_164 : decode cX7_read 164 = .ok (.iastore, 1) := by decide +kernel
theorem dX7_read_165 : decode cX7_read 165 = .ok (.iinc 1 1, 3) := by decide +kernel
theorem dX7_read_168 : decode cX7_read 168 = .ok (.goto (-71), 3) := by decide +kernel
theorem dX7_read_171 : decode cX7_read 171 = .ok (.aload_n 0, 1) := by decide +kernel
theorem dX7_read_172 : decode cX7_read 172 = .ok (.aload_n 0, 1) := by decide +kernel
theorem dX7_read_173 : decode cX7_read 173 = .ok (.iconst 0, 1) := by decide +kernel
theorem dX7_read_174 : decode cX7_read 174 = .ok (.iconst 2, 1) := by decide +kernel
theorem dX7_read_175 : decode cX7_read 175 = .ok (.aload_n 0, 1) := by decide +kernel
theorem dX7_read_176 : decode cX7_read 176 = .ok (.getfield 187, 3) := by decide +kernel
theorem dX7_read_179 : decode cX7_read 179 = .ok (.iconst 1, 1) := by decide +kernel
theorem dX7_read_180 : decode cX7_read 180 = .ok (.isub, 1) := by decide +kernel
theorem dX7_read_181 : decode cX7_read 181 = .ok (.aload_n 0, 1) := by decide +kernel
theorem dX7_read_182 : decode cX7_read 182 = .ok (.getfield 199, 3) := by decide +kernel
theorem dX7_read_185 : decode cX7_read 185 = .ok (.ifCond .le 10, 3) := by decide +kernel
theorem dX7_read_188 : decode cX7_read 188 = .ok (.aload_n 0, 1) := by decide +kernel
theorem dX7_read_189 : decode cX7_read 189 = .ok (.getfield 199, 3) := by decide +kernel
theorem dX7_read_192 : decode cX7_read 192 = .ok (.goto 7, 3) := by decide +kernel
theorem dX7_read_195 : decode cX7_read 195 = .ok (.aload_n 0, 1) := by decide +kernel
theorem dX7_read_196 : decode cX7_read 196 = .ok (.getfield 196, 3) := by decide +kernel
theorem dX7_read_199 : decode cX7_read 199 = .ok (.invokevirtual 230, 3) := by decide +kernel
theorem dX7_read_202 : decode cX7_read 202 = .ok (.putfield 260, 3) := by decide +kernel
theorem dX7_read_205 : decode cX7_read 205 = .ok (.aload_n 0, 1) := by decide +kernel
theorem dX7_read_206 : decode cX7_read 206 = .ok (.invokevirtual 263, 3) := by decide +kernel
theorem dX7_read_209 : decode cX7_read 209 = .ok (.aload_n 0, 1) := by decide +kernel
theorem dX7_read_210 : decode cX7_read 210 = .ok (.invokevirtual 266, 3) := by decide +kernel
theorem dX7_read_213 : decode cX7_read 213 = .ok (.aload_n 0, 1) := by decide +kernel
theorem dX7_read_214 : decode cX7_read 214 = .ok (.getfield 196, 3) := by decide +kernel
theorem dX7_read_217 : decode cX7_read 217 = .ok (.ireturn, 1) := by decide +kernel
theorem dX7_fault_0 : decode cX7_fault 0 = .ok (.aload_n 0, 1) := by decide +kernel
theorem dX7_fault_1 : decode cX7_fault 1 = .ok (.iconst 0, 1) := by decide +kernel
theorem dX7_fault_2 : decode cX7_fault 2 = .ok (.putfield 102, 3) := by decide +kernel
theorem dX7_fault_5 : decode cX7_fault 5 = .ok (.aload_n 0, 1) := by decide +kernel
theorem dX7_fault_6 : decode cX7_fault 6 = .ok (.getfield 32, 3) := by decide +kernel
theorem dX7_fault_9 : decode cX7_fault 9 = .ok (.ireturn, 1) := by decide +kernel
theorem dX7_write_0 : decode cX7_write 0 = .ok (.aload_n 0, 1) := by decide +kernel
theorem dX7_write_1 : decode cX7_write 1 = .ok (.getfield 269, 3) := by decide +kernel
theorem dX7_write_4 : decode cX7_write 4 = .ok (.ifCond .eq 26, 3) := by decide +kernel
theorem dX7_write_7 : decode cX7_write 7 = .ok (.aload_n 0, 1) := by decide +kernel
theorem dX7_write_8 : decode cX7_write 8 = .ok (.getfield 99, 3) := by decide +kernel
theorem dX7_write_11 : decode cX7_write 11 = .ok (.aload_n 0, 1) := by decide +kernel
theorem dX7_write_12 : decode cX7_write 12 = .ok (.getfield 272, 3) := by decide +kernel
theorem dX7_write_15 : decode cX7_write 15 = .ok (.iload_n 1, 1) := by decide +kernel
theorem dX7_write_16 : decode cX7_write 16 = .ok (.iastore, 1) := by decide +kernel
theorem dX7_write_17 : decode cX7_write 17 = .ok (.aload_n 0, 1) := by decide +kernel
theorem dX7_write_18 : decode cX7_write 18 = .ok (.dup, 1) := by decide +kernel
theorem dX7_write_19 : decode cX7_write 19 = .ok (.getfield 272, 3) := by decide +kernel
theorem dX7_write_22 : decode cX7_write 22 = .ok (.iconst 1, 1) := by decide +kernel
theorem dX7_write_23 : decode cX7_write 23 = .ok (.iadd, 1) := by decide +kernel
theorem dX7_write_24 : decode cX7_write 24 = .ok (.putfield 272, 3) := by decide +kernel
theorem dX7_write_27 : decode cX7_write 27 = .ok (.goto 23, 3) := by decide +kernel
theorem dX7_write_30 : decode cX7_write 30 = .ok (.aload_n 0, 1) := by decide +kernel
theorem dX7_write_31 : decode cX7_write 31 = .ok (.getfield 96, 3) := by decide +kernel
theorem dX7_write_34 : decode cX7_write 34 = .ok (.aload_n 0, 1) := by decide +kernel
theorem dX7_write_35 : decode cX7_write 35 = .ok (.getfield 275, 3) := by decide +kernel
theorem dX7_write_38 : decode cX7_write 38 = .ok (.iload_n 1, 1) := by decide +kernel
theorem dX7_write_39 : decode cX7_write 39 = .ok (.iastore, 1) := by decide +kernel
theorem dX7_write_40 : decode cX7_write 40 = .ok (.aload_n 0, 1) := by decide +kernel
theorem dX7_write_41 : decode cX7_write 41 = .ok (.dup, 1) := by decide +kernel
theorem dX7_write_42 : decode cX7_write 42 = .ok (.getfield 275, 3) := by decide +kernel
theorem dX7_write_45 : decode cX7_write 45 = .ok (.iconst 1, 1) := by decide +kernel
theorem dX7_write_46 : decode cX7_write 46 = .ok (.iadd, 1) := by decide +kernel
theorem dX7_write_47 : decode cX7_write 47 = .ok (.putfield 275, 3) := by decide +kernel
theorem dX7_write_50 : decode cX7_write 50 = .ok (.return_, 1) := by decide +kernel
theorem dX7_writeComponent_0 : decode cX7_writeComponent 0 = .ok (.aload_n 0, 1) := by decide +kernel
theorem dX7_writeComponent_1 : decode cX7_writeComponent 1 = .ok (.iload_n 1, 1) := by decide +kernel
theorem dX7_writeComponent_2 : decode cX7_writeComponent 2 = .ok (.invokevirtual 202, 3) := by decide +kernel
theorem dX7_writeComponent_5 : decode cX7_writeComponent 5 = .ok (.istore_n 2, 1) := by decide +kernel
theorem dX7_writeComponent_6 : decode cX7_writeComponent 6 = .ok (.iconst 0, 1) := by decide +kernel
theorem dX7_writeComponent_7 : decode cX7_writeComponent 7 = .ok (.istore_n 3, 1) := by decide +kernel
theorem dX7_writeComponent_8 : decode cX7_writeComponent 8 = .ok (.iload_n 3, 1) := by decide +kernel
theorem dX7_writeComponent_9 : decode cX7_writeComponent 9 = .ok (.iload_n 2, 1) := by decide +kernel
theorem dX7_writeComponent_10 : decode cX7_writeComponent 10 = .ok (.if_icmp .ge 64, 3) := by decide +kernel
theorem dX7_writeComponent_13 : decode cX7_writeComponent 13 = .ok (.aload_n 0, 1) := by decide +kernel
theorem dX7_writeComponent_14 : decode cX7_writeComponent 14 = .ok (.getfield 63, 3) := by decide +kernel
theorem dX7_writeComponent_17 : decode cX7_writeComponent 17 = .ok (.aload_n 0, 1) := by decide +kernel
theorem dX7_writeComponent_18 : decode cX7_writeComponent 18 = .ok (.getfield 60, 3) := by decide +kernel
theorem dX7_writeComponent_21 : decode cX7_writeComponent 21 = .ok (.iload_n 1, 1) := by decide +kernel
theorem dX7_writeComponent_22 : decode cX7_writeComponent 22 = .ok (.iaload, 1) := by decide +kernel
theorem dX7_writeComponent_23 : decode cX7_writeComponent 23 = .ok (.iload_n 3, 1) := by decide +kernel
theorem dX7_writeComponent_24 : decode cX7_writeComponent 24 = .ok (.iadd, 1) := by decide +kernel
theorem dX7_writeComponent_25 : decode cX7_writeComponent 25 = .ok (.iaload, 1) := by decide +kernel
theorem dX7_writeComponent_26 : decode cX7_writeComponent 26 = .ok (.istore 4, 2) := by decide +kernel
theorem dX7_writeComponent_28 : decode cX7_writeComponent 28 = .ok (.iload 4, 2) := by decide +kernel
theorem dX7_writeComponent_30 : decode cX7_writeComponent 30 = .ok (.bipush 58, 2) := by decide +kernel
theorem dX7_writeComponent_32 : decode cX7_writeComponent 32 = .ok (.if_icmp .eq 24, 3) := by decide +kernel
theorem dX7_writeComponent_35 : decode cX7_writeComponent 35 = .ok (.iload 4, 2) := by decide +kernel
theorem dX7_writeComponent_37 : decode cX7_writeComponent 37 = .ok (.bipush 43, 2) := by decide +kernel
theorem dX7_writeComponent_39 : decode cX7_writeComponent 39 = .ok (.if_icmp .eq 17, 3) := by decide +kernel
theorem dX7_writeComponent_42 : decode cX7_writeComponent 42 = .ok (.iload 4, 2) := by decide +kernel
theorem dX7_writeComponent_44 : decode cX7_writeComponent 44 = .ok (.bipush 63, 2) := by decide +kernel
theorem dX7_writeComponent_46 : decode cX7_writeComponent 46 = .ok (.if_icmp .eq 10, 3) := by decide +kernel
theorem dX7_writeComponent_49 : decode cX7_writeComponent 49 = .ok (.iload 4, 2) := by decide +kernel
theorem dX7_writeComponent_51 : decode cX7_writeComponent 51 = .ok (.bipush 39, 2) := by decide +kernel
theorem dX7_writeComponent_53 : decode cX7_writeComponent 53 = .ok (.if_icmp .ne 9, 3) := by decide +kernel
theorem dX7_writeComponent_56 : decode cX7_writeComponent 56 = .ok (.aload_n 0, 1) := by decide +kernel
theorem dX7_writeComponent_57 : decode cX7_writeComponent 57 = .ok (.bipush 63, 2) := by decide +kernel
theorem dX7_writeComponent_59 : decode cX7_writeComponent 59 = .ok (.invokevirtual 278, 3) := by decide +kernel
theorem dX7_writeComponent_62 : decode cX7_writeComponent 62 = .ok (.aload_n 0, 1) := by decide +kernel
theorem dX7_writeComponent_63 : decode cX7_writeComponent 63 = .ok (.iload 4, 2) := by decide +kernel
theorem dX7_writeComponent_65 : decode cX7_writeComponent 65 = .ok (.invokevirtual 278, 3) := by decide +kernel
theorem dX7_writeComponent_68 : decode cX7_writeComponent 68 = .ok (.iinc 3 1, 3) := by decide +kernel
theorem dX7_writeComponent_71 : decode cX7_writeComponent 71 = .ok (.goto (-63), 3) := by decide +kernel
theorem dX7_writeComponent_74 : decode cX7_writeComponent 74 = .ok (.return_, 1) := by decide +kernel
theorem dX7_writeNumber_0 : decode cX7_writeNumber 0 = .ok (.iload_n 1, 1) := by decide +kernel
theorem dX7_writeNumber_1 : decode cX7_writeNumber 1 = .ok (.bipush 99, 2) := by decide +kernel
theorem dX7_writeNumber_3 : decode cX7_writeNumber 3 = .ok (.if_icmp .le 8, 3) := by decide +kernel
theorem dX7_writeNumber_6 : decode cX7_writeNumber 6 = .ok (.bipush 100, 2) := by decide +kernel
theorem dX7_writeNumber_8 : decode cX7_writeNumber 8 = .ok (.goto 15, 3) := by decide +kernel
theorem dX7_writeNumber_11 : decode cX7_writeNumber 11 = .ok (.iload_n 1, 1) := by decide +kernel
theorem dX7_writeNumber_12 : decode cX7_writeNumber 12 = .ok (.bipush 9, 2) := by decide +kernel
theorem dX7_writeNumber_14 : decode cX7_writeNumber 14 = .ok (.if_icmp .le 8, 3) := by decide +kernel
theorem dX7_writeNumber_17 : decode cX7_writeNumber 17 = .ok (.bipush 10, 2) := by decide +kernel
theorem dX7_writeNumber_19 : decode cX7_writeNumber 19 = .ok (.goto 4, 3) := by decide +kernel
theorem dX7_writeNumber_22 : decode cX7_writeNumber 22 = .ok (.iconst 1, 1) := by decide +kernel
theorem dX7_writeNumber_23 : decode cX7_writeNumber 23 = .ok (.istore_n 2, 1) := by decide +kernel
theorem dX7_writeNumber_24 : decode cX7_writeNumber 24 = .ok (.iload_n 2, 1) := by decide +kernel
theorem dX7_writeNumber_25 : decode cX7_writeNumber 25 = .ok (.ifCond .le 24, 3) := by decide +kernel
theorem dX7_writeNumber_28 : decode cX7_writeNumber 28 = .ok (.aload_n 0, 1) := by decide +kernel
theorem dX7_writeNumber_29 : decode cX7_writeNumber 29 = .ok (.bipush 48, 2) := by decide +kernel
theorem dX7_writeNumber_31 : decode cX7_writeNumber 31 = .ok (.iload_n 1, 1) := by decide +kernel
theorem dX7_writeNumber_32 : decode cX7_writeNumber 32 = .ok (.iload_n 2, 1) := by decide +kernel
theorem dX7_writeNumber_33 : decode cX7_writeNumber 33 = .ok (.idiv, 1) := by decide +kernel
theorem dX7_writeNumber_34 : decode cX7_writeNumber 34 = .ok (.bipush 10, 2) := by decide +kernel
theorem dX7_writeNumber_36 : decode cX7_writeNumber 36 = .ok (.irem, 1) := by decide +kernel
theorem dX7_writeNumber_37 : decode cX7_writeNumber 37 = .ok (.iadd, 1) := by decide +kernel
theorem dX7_writeNumber_38 : decode cX7_writeNumber 38 = .ok (.invokevirtual 278, 3) := by decide +kernel
theorem dX7_writeNumber_41 : decode cX7_writeNumber 41 = .ok (.iload_n 2, 1) := by decide +kernel
theorem dX7_writeNumber_42 : decode cX7_writeNumber 42 = .ok (.bipush 10, 2) := by decide +kernel
theorem dX7_writeNumber_44 : decode cX7_writeNumber 44 = .ok (.idiv, 1) := by decide +kernel
theorem dX7_writeNumber_45 : decode cX7_writeNumber 45 = .ok (.istore_n 2, 1) := by decide +kernel
theorem dX7_writeNumber_46 : decode cX7_writeNumber 46 = .ok (.goto (-22), 3) := by decide +kernel
theorem dX7_writeNumber_49 : decode cX7_writeNumber 49 = .ok (.return_, 1) := by decide +kernel
theorem dX7_writeTag_0 : decode cX7_writeTag 0 = .ok (.aload_n 0, 1) := by decide +kernel
theorem dX7_writeTag_1 : decode cX7_writeTag 1 = .ok (.iload_n 1, 1) := by decide +kernel
theorem dX7_writeTag_2 : decode cX7_writeTag 2 = .ok (.bipush 16, 2) := by decide +kernel
theorem dX7_writeTag_4 : decode cX7_writeTag 4 = .ok (.ishr, 1) := by decide +kernel
theorem dX7_writeTag_5 : decode cX7_writeTag 5 = .ok (.invokevirtual 278, 3) := by decide +kernel
theorem dX7_writeTag_8 : decode cX7_writeTag 8 = .ok (.aload_n 0, 1) := by decide +kernel
theorem dX7_writeTag_9 : decode cX7_writeTag 9 = .ok (.iload_n 1, 1) := by decide +kernel
theorem dX7_writeTag_10 : decode cX7_writeTag 10 = .ok (.bipush 8, 2) := by decide +kernel
theorem dX7_writeTag_12 : decode cX7_writeTag 12 = .ok (.ishr, 1) := by decide +kernel
theorem dX7_writeTag_13 : decode cX7_writeTag 13 = .ok (.sipush 255, 3) := by decide +kernel
theorem dX7_writeTag_16 : decode cX7_writeTag 16 = .ok (.iand, 1) := by decide +kernel
theorem dX7_writeTag_17 : decode cX7_writeTag 17 = .ok (.invokevirtual 278, 3) := by decide +kernel
theorem dX7_writeTag_20 : decode cX7_writeTag 20 = .ok (.aload_n 0, 1) := by decide +kernel
theorem dX7_writeTag_21 : decode cX7_writeTag 21 = .ok (.iload_n 1, 1) := by decide +kernel
theorem dX7_writeTag_22 : decode cX7_writeTag 22 = .ok (.sipush 255, 3) := by decide +kernel
theorem dX7_writeTag_25 : decode cX7_writeTag 25 = .ok (.iand, 1) := by decide +kernel
theorem dX7_writeTag_26 : decode cX7_writeTag 26 = .ok (.invokevirtual 278, 3) := by decide +kernel
theorem dX7_writeTag_29 : decode cX7_writeTag 29 = .ok (.return_, 1) := by decide +kernel
theorem dX7_kept_0 : decode cX7_kept 0 = .ok (.aload_n 0, 1) := by decide +kernel
theorem dX7_kept_1 : decode cX7_kept 1 = .ok (.getfield 57, 3) := by decide +kernel
theorem dX7_kept_4 : decode cX7_kept 4 = .ok (.iload_n 1, 1) := by decide +kernel
theorem dX7_kept_5 : decode cX7_kept 5 = .ok (.iconst 1, 1) := by decide +kernel
theorem dX7_kept_6 : decode cX7_kept 6 = .ok (.iadd, 1) := by decide +kernel
theorem dX7_kept_7 : decode cX7_kept 7 = .ok (.iaload, 1) := by decide +kernel
theorem dX7_kept_8 : decode cX7_kept 8 = .ok (.aload_n 0, 1) := by decide +kernel
theorem dX7_kept_9 : decode cX7_kept 9 = .ok (.getfield 57, 3) := by decide +kernel
theorem dX7_kept_12 : decode cX7_kept 12 = .ok (.iload_n 1, 1) := by decide +kernel
theorem dX7_kept_13 : decode cX7_kept 13 = .ok (.iaload, 1) := by decide +kernel
theorem dX7_kept_14 : decode cX7_kept 14 = .ok (.isub, 1) := by decide +kernel
theorem dX7_kept_15 : decode cX7_kept 15 = .ok (.istore_n 2, 1) := by decide +kernel
theorem dX7_kept_16 : decode cX7_kept 16 = .ok (.iload_n 2, 1) := by decide +kernel
theorem dX7_kept_17 : decode cX7_kept 17 = .ok (.ifCond .le 26, 3) := by decide +kernel
theorem dX7_kept_20 : decode cX7_kept 20 = .ok (.aload_n 0, 1) := by decide +kernel
theorem dX7_kept_21 : decode cX7_kept 21 = .ok (.aload_n 0, 1) := by decide +kernel
theorem dX7_kept_22 : decode cX7_kept 22 = .ok (.getfield 57, 3) := by decide +kernel
theorem dX7_kept_25 : decode cX7_kept 25 = .ok (.iload_n 1, 1) := by decide +kernel
theorem dX7_kept_26 : decode cX7_kept 26 = .ok (.iaload, 1) := by decide +kernel
theorem dX7_kept_27 : decode cX7_kept 27 = .ok (.iload_n 2, 1) := by decide +kernel
theorem dX7_kept_28 : decode cX7_kept 28 = .ok (.iadd, 1) := by decide +kernel
theorem dX7_kept_29 : decode cX7_kept 29 = .ok (.iconst 1, 1) := by decide +kernel
theorem dX7_kept_30 : decode cX7_kept 30 = .ok (.isub, 1) := by decide +kernel
theorem dX7_kept_31 : decode cX7_kept 31 = .ok (.invokevirtual 202, 3) := by decide +kernel
theorem dX7_kept_34 : decode cX7_kept 34 = .ok (.ifCond .ne 9, 3) := by decide +kernel
theorem dX7_kept_37 : decode cX7_kept 37 = .ok (.iinc 2 (-1), 3) := by decide +kernel
theorem dX7_kept_40 : decode cX7_kept 40 = .ok (.goto (-24), 3) := by decide +kernel
theorem dX7_kept_43 : decode cX7_kept 43 = .ok (.iload_n 2, 1) := by decide +kernel
theorem dX7_kept_44 : decode cX7_kept 44 = .ok (.ireturn, 1) := by decide +kernel
theorem dX7_writePrint_0 : decode cX7_writePrint 0 = .ok (.aload_n 0, 1) := by decide +kernel
theorem dX7_writePrint_1 : decode cX7_writePrint 1 = .ok (.iconst 0, 1) := by decide +kernel
theorem dX7_writePrint_2 : decode cX7_writePrint 2 = .ok (.putfield 269, 3) := by decide +kernel
theorem dX7_writePrint_5 : decode cX7_writePrint 5 = .ok (.aload_n 0, 1) := by decide +kernel
theorem dX7_writePrint_6 : decode cX7_writePrint 6 = .ok (.iconst 0, 1) := by decide +kernel
theorem dX7_writePrint_7 : decode cX7_writePrint 7 = .ok (.putfield 275, 3) := by decide +kernel
theorem dX7_writePrint_10 : decode cX7_writePrint 10 = .ok (.iconst 0, 1) := by decide +kernel
theorem dX7_writePrint_11 : decode cX7_writePrint 11 = .ok (.istore_n 1, 1) := by decide +kernel
theorem dX7_writePrint_12 : decode cX7_writePrint 12 = .ok (.iload_n 1, 1) := by decide +kernel
theorem dX7_writePrint_13 : decode cX7_writePrint 13 = .ok (.aload_n 0, 1) := by decide +kernel
theorem dX7_writePrint_14 : decode cX7_writePrint 14 = .ok (.getfield 187, 3) := by decide +kernel
theorem dX7_writePrint_17 : decode cX7_writePrint 17 = .ok (.if_icmp .ge 131, 3) := by decide +kernel
theorem dX7_writePrint_20 : decode cX7_writePrint 20 = .ok (.aload_n 0, 1) := by decide +kernel
theorem dX7_writePrint_21 : decode cX7_writePrint 21 = .ok (.aload_n 0, 1) := by decide +kernel
theorem dX7_writePrint_22 : decode cX7_writePrint 22 = .ok (.getfield 51, 3) := by decide +kernel
theorem dX7_writePrint_25 : decode cX7_writePrint 25 = .ok (.iload_n 1, 1) := by decide +kernel
theorem dX7_writePrint_26 : decode cX7_writePrint 26 = .ok (.iaload, 1) := by decide +kernel
theorem dX7_writePrint_27 : decode cX7_writePrint 27 = .ok (.invokevirtual 281, 3) := by decide +kernel
theorem dX7_writePrint_30 : decode cX7_writePrint 30 = .ok (.aload_n 0, 1) := by decide +kernel
theorem dX7_writePrint_31 : decode cX7_writePrint 31 = .ok (.getfield 54, 3) := by decide +kernel
theorem dX7_writePrint_34 : decode cX7_writePrint 34 = .ok (.iload_n 1, 1) := by decide +kernel
theorem dX7_writePrint_35 : decode cX7_writePrint 35 = .ok (.iconst 1, 1) := by decide +kernel
theorem dX7_writePrint_36 : decode cX7_writePrint 36 = .ok (.iadd, 1) := by decide +kernel
theorem dX7_writePrint_37 : decode cX7_writePrint 37 = .ok (.iaload, 1) := by decide +kernel
theorem dX7_writePrint_38 : decode cX7_writePrint 38 = .ok (.istore_n 2, 1) := by decide +kernel
theorem dX7_writePrint_39 : decode cX7_writePrint 39 = .ok (.iload_n 2, 1) := by decide +kernel
theorem dX7_writePrint_40 : decode cX7_writePrint 40 = .ok (.aload_n 0, 1) := by decide +kernel
theorem dX7_writePrint_41 : decode cX7_writePrint 41 = .ok (.getfield 54, 3) := by decide +kernel
theorem dX7_writePrint_44 : decode cX7_writePrint 44 = .ok (.iload_n 1, 1) := by decide +kernel
theorem dX7_writePrint_45 : decode cX7_writePrint 45 = .ok (.iaload, 1) := by decide +kernel
theorem dX7_writePrint_46 : decode cX7_writePrint 46 = .ok (.if_icmp .le 19, 3) := by decide +kernel
theorem dX7_writePrint_49 : decode cX7_writePrint 49 = .ok (.aload_n 0, 1) := by decide +kernel
theorem dX7_writePrint_50 : decode cX7_writePrint 50 = .ok (.iload_n 2, 1) := by decide +kernel
theorem dX7_writePrint_51 : decode cX7_writePrint 51 = .ok (.iconst 1, 1) := by decide +kernel
theorem dX7_writePrint_52 : decode cX7_writePrint 52 = .ok (.isub, 1) := by decide +kernel
theorem dX7_writePrint_53 : decode cX7_writePrint 53 = .ok (.invokevirtual 284, 3) := by decide +kernel
theorem dX7_writePrint_56 : decode cX7_writePrint 56 = .ok (.ifCond .ne 9, 3) := by decide +kernel
theorem dX7_writePrint_59 : decode cX7_writePrint 59 = .ok (.iinc 2 (-1), 3) := by decide +kernel
theorem dX7_writePrint_62 : decode cX7_writePrint 62 = .ok (.goto (-23), 3) := by decide +kernel
theorem dX7_writePrint_65 : decode cX7_writePrint 65 = .ok (.aload_n 0, 1) := by decide +kernel
theorem dX7_writePrint_66 : decode cX7_writePrint 66 = .ok (.getfield 54, 3) := by decide +kernel
theorem dX7_writePrint_69 : decode cX7_writePrint 69 = .ok (.iload_n 1, 1) := by decide +kernel
theorem dX7_writePrint_70 : decode cX7_writePrint 70 = .ok (.iaload, 1) := by decide +kernel
theorem dX7_writePrint_71 : decode cX7_writePrint 71 = .ok (.istore_n 3, 1) := by decide +kernel
theorem dX7_writePrint_72 : decode cX7_writePrint 72 = .ok (.iload_n 3, 1) := by decide +kernel
theorem dX7_writePrint_73 : decode cX7_writePrint 73 = .ok (.iload_n 2, 1) := by decide +kernel
theorem dX7_writePrint_74 : decode cX7_writePrint 74 = .ok (.if_icmp .ge 62, 3) := by decide +kernel
theorem dX7_writePrint_77 : decode cX7_writePrint 77 = .ok (.aload_n 0, 1) := by decide +kernel
theorem dX7_writePrint_78 : decode cX7_writePrint 78 = .ok (.bipush 43, 2) := by decide +kernel
theorem dX7_writePrint_80 : decode cX7_writePrint 80 = .ok (.invokevirtual 278, 3) := by decide +kernel
theorem dX7_writePrint_83 : decode cX7_writePrint 83 = .ok (.aload_n 0, 1) := by decide +kernel
theorem dX7_writePrint_84 : decode cX7_writePrint 84 = .ok (.iload_n 3, 1) := by decide +kernel
theorem dX7_writePrint_85 : decode cX7_writePrint 85 = .ok (.invokevirtual 284, 3) := by decide +kernel
theorem dX7_writePrint_88 : decode cX7_writePrint 88 = .ok (.istore 4, 2) := by decide +kernel
theorem dX7_writePrint_90 : decode cX7_writePrint 90 = .ok (.iconst 0, 1) := by decide +kernel
theorem dX7_writePrint_91 : decode cX7_writePrint 91 = .ok (.istore 5, 2) := by decide +kernel
theorem dX7_writePrint_93 : decode cX7_writePrint 93 = .ok (.iload 5, 2) := by decide +kernel
theorem dX7_writePrint_95 : decode cX7_writePrint 95 = .ok (.iload 4, 2) := by decide +kernel
theorem dX7_writePrint_97 : decode cX7_writePrint 97 = .ok (.if_icmp .ge 33, 3) := by decide +kernel
theorem dX7_writePrint_100 : decode cX7_writePrint 100 = .ok (.iload 5, 2) := by decide +kernel
theorem dX7_writePrint_102 : decode cX7_writePrint 102 = .ok (.ifCond .le 9, 3) := by decide +kernel
theorem dX7_writePrint_105 : decode cX7_writePrint 105 = .ok (.aload_n 0, 1) := by decide +kernel
theorem dX7_writePrint_106 : decode cX7_writePrint 106 = .ok (.bipush 58, 2) := by decide +kernel
theorem dX7_writePrint_108 : decode cX7_writePrint 108 = .ok (.invokevirtual 278, 3) := by decide +kernel
theorem dX7_writePrint_111 : decode cX7_writePrint 111 = .ok (.aload_n 0, 1) := by decide +kernel
theorem dX7_writePrint_112 : decode cX7_writePrint 112 = .ok (.aload_n 0, 1) := by decide +kernel
theorem dX7_writePrint_113 : decode cX7_writePrint 113 = .ok (.getfield 57, 3) := by decide +kernel
theorem dX7_writePrint_116 : decode cX7_writePrint 116 = .ok (.iload_n 3, 1) := by decide +kernel
theorem dX7_writePrint_117 : decode cX7_writePrint 117 = .ok (.iaload, 1) := by decide +kernel
theorem dX7_writePrint_118 : decode cX7_writePrint 118 = .ok (.iload 5, 2) := by decide +kernel
theorem dX7_writePrint_120 : decode cX7_writePrint 120 = .ok (.iadd, 1) := by decide +kernel
theorem dX7_writePrint_121 : decode cX7_writePrint 121 = .ok (.invokevirtual 287, 3) := by decide +kernel
theorem dX7_writePrint_124 : decode cX7_writePrint 124 = .ok (.iinc 5 1, 3) := by decide +kernel
theorem dX7_writePrint_127 : decode cX7_writePrint 127 = .ok (.goto (-34), 3) := by decide +kernel
theorem dX7_writePrint_130 : decode cX7_writePrint 130 = .ok (.iinc 3 1, 3) := by decide +kernel
theorem dX7_writePrint_133 : decode cX7_writePrint 133 = .ok (.goto (-61), 3) := by decide +kernel
theorem dX7_writePrint_136 : decode cX7_writePrint 136 = .ok (.aload_n 0, 1) := by decide +kernel
theorem dX7_writePrint_137 : decode cX7_writePrint 137 = .ok (.bipush 39, 2) := by decide +kernel
theorem dX7_writePrint_139 : decode cX7_writePrint 139 = .ok (.invokevirtual 278, 3) := by decide +kernel
theorem dX7_writePrint_142 : decode cX7_writePrint 142 = .ok (.iinc 1 1, 3) := by decide +kernel
theorem dX7_writePrint_145 : decode cX7_writePrint 145 = .ok (.goto (-133), 3) := by decide +kernel
theorem dX7_writePrint_148 : decode cX7_writePrint 148 = .ok (.return_, 1) := by decide +kernel
theorem dX7_writeLine_0 : decode cX7_writeLine 0 = .ok (.aload_n 0, 1) := by decide +kernel
theorem dX7_writeLine_1 : decode cX7_writeLine 1 = .ok (.iload_n 1, 1) := by decide +kernel
theorem dX7_writeLine_2 : decode cX7_writeLine 2 = .ok (.invokevirtual 281, 3) := by decide +kernel
theorem dX7_writeLine_5 : decode cX7_writeLine 5 = .ok (.aload_n 0, 1) := by decide +kernel
theorem dX7_writeLine_6 : decode cX7_writeLine 6 = .ok (.bipush 43, 2) := by decide +kernel
theorem dX7_writeLine_8 : decode cX7_writeLine 8 = .ok (.invokevirtual 278, 3) := by decide +kernel
theorem dX7_writeLine_11 : decode cX7_writeLine 11 = .ok (.aload_n 0, 1) := by decide +kernel
theorem dX7_writeLine_12 : decode cX7_writeLine 12 = .ok (.iload_n 2, 1) := by decide +kernel
theorem dX7_writeLine_13 : decode cX7_writeLine 13 = .ok (.invokevirtual 287, 3) := by decide +kernel
theorem dX7_writeLine_16 : decode cX7_writeLine 16 = .ok (.aload_n 0, 1) := by decide +kernel
theorem dX7_writeLine_17 : decode cX7_writeLine 17 = .ok (.bipush 43, 2) := by decide +kernel
theorem dX7_writeLine_19 : decode cX7_writeLine 19 = .ok (.invokevirtual 278, 3) := by decide +kernel
theorem dX7_writeLine_22 : decode cX7_writeLine 22 = .ok (.aload_n 0, 1) := by decide +kernel
theorem dX7_writeLine_23 : decode cX7_writeLine 23 = .ok (.iload_n 3, 1) := by decide +kernel
theorem dX7_writeLine_24 : decode cX7_writeLine 24 = .ok (.invokevirtual 290, 3) := by decide +kernel
theorem dX7_writeLine_27 : decode cX7_writeLine 27 = .ok (.iload 4, 2) := by decide +kernel
theorem dX7_writeLine_29 : decode cX7_writeLine 29 = .ok (.ifCond .lt 15, 3) := by decide +kernel
theorem dX7_writeLine_32 : decode cX7_writeLine 32 = .ok (.aload_n 0, 1) := by decide +kernel
theorem dX7_writeLine_33 : decode cX7_writeLine 33 = .ok (.bipush 43, 2) := by decide +kernel
theorem dX7_writeLine_35 : decode cX7_writeLine 35 = .ok (.invokevirtual 278, 3) := by decide +kernel
theorem dX7_writeLine_38 : decode cX7_writeLine 38 = .ok (.aload_n 0, 1) := by decide +kernel
theorem dX7_writeLine_39 : decode cX7_writeLine 39 = .ok (.iload 4, 2) := by decide +kernel
theorem dX7_writeLine_41 : decode cX7_writeLine 41 = .ok (.invokevirtual 290, 3) := by decide +kernel
theorem dX7_writeLine_44 : decode cX7_writeLine 44 = .ok (.aload_n 0, 1) := by decide +kernel
theorem dX7_writeLine_45 : decode cX7_writeLine 45 = .ok (.bipush 39, 2) := by decide +kernel
theorem dX7_writeLine_47 : decode cX7_writeLine 47 = .ok (.invokevirtual 278, 3) := by decide +kernel
theorem dX7_writeLine_50 : decode cX7_writeLine 50 = .ok (.return_, 1) := by decide +kernel
theorem dX7_writeReport_0 : decode cX7_writeReport 0 = .ok (.aload_n 0, 1) := by decide +kernel
theorem dX7_writeReport_1 : decode cX7_writeReport 1 = .ok (.iconst 1, 1) := by decide +kernel
theorem dX7_writeReport_2 : decode cX7_writeReport 2 = .ok (.putfield 269, 3) := by decide +kernel
theorem dX7_writeReport_5 : decode cX7_writeReport 5 = .ok (.aload_n 0, 1) := by decide +kernel
theorem dX7_writeReport_6 : decode cX7_writeReport 6 = .ok (.iconst 0, 1) := by decide +kernel
theorem dX7_writeReport_7 : decode cX7_writeReport 7 = .ok (.putfield 272, 3) := by decide +kernel
theorem dX7_writeReport_10 : decode cX7_writeReport 10 = .ok (.aload_n 0, 1) := by decide +kernel
theorem dX7_writeReport_11 : decode cX7_writeReport 11 = .ok (.ldc_w 293, 3) := by decide +kernel
theorem dX7_writeReport_14 : decode cX7_writeReport 14 = .ok (.aload_n 0, 1) := by decide +kernel
theorem dX7_writeReport_15 : decode cX7_writeReport 15 = .ok (.iconst 0, 1) := by decide +kernel
theorem dX7_writeReport_16 : decode cX7_writeReport 16 = .ok (.iconst 2, 1) := by decide +kernel
theorem dX7_writeReport_17 : decode cX7_writeReport 17 = .ok (.invokevirtual 205, 3) := by decide +kernel
theorem dX7_writeReport_20 : decode cX7_writeReport 20 = .ok (.aload_n 0, 1) := by decide +kernel
theorem dX7_writeReport_21 : decode cX7_writeReport 21 = .ok (.getfield 260, 3) := by decide +kernel
theorem dX7_writeReport_24 : decode cX7_writeReport 24 = .ok (.iconst (-1), 1) := by decide +kernel
theorem dX7_writeReport_25 : decode cX7_writeReport 25 = .ok (.invokevirtual 294, 3) := by decide +kernel
theorem dX7_writeReport_28 : decode cX7_writeReport 28 = .ok (.iconst (-1), 1) := by decide +kernel
theorem dX7_writeReport_29 : decode cX7_writeReport 29 = .ok (.istore_n 1, 1) := by decide +kernel
theorem dX7_writeReport_30 : decode cX7_writeReport 30 = .ok (.iconst 0, 1) := by decide +kernel
theorem dX7_writeReport_31 : decode cX7_writeReport 31 = .ok (.istore_n 2, 1) := by decide +kernel
theorem dX7_writeReport_32 : decode cX7_writeReport 32 = .ok (.iload_n 2, 1) := by decide +kernel
theorem dX7_writeReport_33 : decode cX7_writeReport 33 = .ok (.aload_n 0, 1) := by decide +kernel
theorem dX7_writeReport_34 : decode cX7_writeReport 34 = .ok (.getfield 196, 3) := by decide +kernel
theorem dX7_writeReport_37 : decode cX7_writeReport 37 = .ok (.if_icmp .ge 94, 3) := by decide +kernel
theorem dX7_writeReport_40 : decode cX7_writeReport 40 = .ok (.aload_n 0, 1) := by decide +kernel
theorem dX7_writeReport_41 : decode cX7_writeReport 41 = .ok (.getfield 72, 3) := by decide +kernel
theorem dX7_writeReport_44 : decode cX7_writeReport 44 = .ok (.iload_n 2, 1) := by decide +kernel
theorem dX7_writeReport_45 : decode cX7_writeReport 45 = .ok (.iaload, 1) := by decide +kernel
theorem dX7_writeReport_46 : decode cX7_writeReport 46 = .ok (.iload_n 1, 1) := by decide +kernel
theorem dX7_writeReport_47 : decode cX7_writeReport 47 = .ok (.if_icmp .le 35, 3) := by decide +kernel
theorem dX7_writeReport_50 : decode cX7_writeReport 50 = .ok (.aload_n 0, 1) := by decide +kernel
theorem dX7_writeReport_51 : decode cX7_writeReport 51 = .ok (.getfield 72, 3) := by decide +kernel
theorem dX7_writeReport_54 : decode cX7_writeReport 54 = .ok (.iload_n 2, 1) := by decide +kernel
theorem dX7_writeReport_55 : decode cX7_writeReport 55 = .ok (.iaload, 1) := by decide +kernel
theorem dX7_writeReport_56 : decode cX7_writeReport 56 = .ok (.istore_n 1, 1) := by decide +kernel
theorem dX7_writeReport_57 : decode cX7_writeReport 57 = .ok (.aload_n 0, 1) := by decide +kernel
theorem dX7_writeReport_58 : decode cX7_writeReport 58 = .ok (.ldc_w 298, 3) := by decide +kernel
theorem dX7_writeReport_61 : decode cX7_writeReport 61 = .ok (.aload_n 0, 1) := by decide +kernel
theorem dX7_writeReport_62 : decode cX7_writeReport 62 = .ok (.aload_n 0, 1) := by decide +kernel
theorem dX7_writeReport_63 : decode cX7_writeReport 63 = .ok (.getfield 81, 3) := by decide +kernel
theorem dX7_writeReport_66 : decode cX7_writeReport 66 = .ok (.iload_n 1, 1) := by decide +kernel
theorem dX7_writeReport_67 : decode cX7_writeReport 67 = .ok (.iaload, 1) := by decide +kernel
theorem dX7_writeReport_68 : decode cX7_writeReport 68 = .ok (.iconst 0, 1) := by decide +kernel
theorem dX7_writeReport_69 : decode cX7_writeReport 69 = .ok (.invokevirtual 205, 3) := by decide +kernel
theorem dX7_writeReport_72 : decode cX7_writeReport 72 = .ok (.aload_n 0, 1) := by decide +kernel
theorem dX7_writeReport_73 : decode cX7_writeReport 73 = .ok (.getfield 87, 3) := by decide +kernel
theorem dX7_writeReport_76 : decode cX7_writeReport 76 = .ok (.iload_n 1, 1) := by decide +kernel
theorem dX7_writeReport_77 : decode cX7_writeReport 77 = .ok (.iaload, 1) := by decide +kernel
theorem dX7_writeReport_78 : decode cX7_writeReport 78 = .ok (.iconst (-1), 1) := by decide +kernel
theorem dX7_writeReport_79 : decode cX7_writeReport 79 = .ok (.invokevirtual 294, 3) := by decide +kernel
theorem dX7_writeReport_82 : decode cX7_writeReport 82 = .ok (.aload_n 0, 1) := by decide +kernel
theorem dX7_writeReport_83 : decode cX7_writeReport 83 = .ok (.ldc_w 299, 3) := by decide +kernel
theorem dX7_writeReport_86 : decode cX7_writeReport 86 = .ok (.aload_n 0, 1) := by decide +kernel
theorem dX7_writeReport_87 : decode cX7_writeReport 87 = .ok (.aload_n 0, 1) := by decide +kernel
theorem dX7_writeReport_88 : decode cX7_writeReport 88 = .ok (.getfield 66, 3) := by decide +kernel
theorem dX7_writeReport_91 : decode cX7_writeReport 91 = .ok (.iload_n 2, 1) := by decide +kernel
theorem dX7_writeReport_92 : decode cX7_writeReport 92 = .ok (.iaload, 1) := by decide +kernel
theorem dX7_writeReport_93 : decode cX7_writeReport 93 = .ok (.iconst 0, 1) := by decide +kernel
theorem dX7_writeReport_94 : decode cX7_writeReport 94 = .ok (.invokevirtual 205, 3) := by decide +kernel
theorem dX7_writeReport_97 : decode cX7_writeReport 97 = .ok (.aload_n 0, 1) := by decide +kernel
theorem dX7_writeReport_98 : decode cX7_writeReport 98 = .ok (.getfield 75, 3) := by decide +kernel
theorem dX7_writeReport_101 : decode cX7_writeReport 101 = .ok (.iload_n 2, 1) := by decide +kernel
theorem dX7_writeReport_102 : decode cX7_writeReport 102 = .ok (.iaload, 1) := by decide +kernel
theorem dX7_writeReport_103 : decode cX7_writeReport 103 = .ok (.aload_n 0, 1) := by decide +kernel
theorem dX7_writeReport_104 : decode cX7_writeReport 104 = .ok (.getfield 75, 3) := by decide +kernel
theorem dX7_writeReport_107 : decode cX7_writeReport 107 = .ok (.iload_n 2, 1) := by decide +kernel
theorem dX7_writeReport_108 : decode cX7_writeReport 108 = .ok (.iaload, 1) := by decide +kernel
theorem dX7_writeReport_109 : decode cX7_writeReport 109 = .ok (.ifCond .le 12, 3) := by decide +kernel
theorem dX7_writeReport_112 : decode cX7_writeReport 112 = .ok (.aload_n 0, 1) := by decide +kernel
theorem dX7_writeReport_113 : decode cX7_writeReport 113 = .ok (.getfield 78, 3) := by decide +kernel
theorem dX7_writeReport_116 : decode cX7_writeReport 116 = .ok (.iload_n 2, 1) := by decide +kernel
theorem dX7_writeReport_117 : decode cX7_writeReport 117 = .ok (.iaload, 1) := by decide +kernel
theorem dX7_writeReport_118 : decode cX7_writeReport 118 = .ok (.goto 4, 3) := by decide +kernel
theorem dX7_writeReport_121 : decode cX7_writeReport 121 = .ok (.iconst (-1), 1) := by decide +kernel
theorem dX7_writeReport_122 : decode cX7_writeReport 122 = .ok (.invokevirtual 294, 3) := by decide +kernel
theorem dX7_writeReport_125 : decode cX7_writeReport 125 = .ok (.iinc 2 1, 3) := by decide +kernel
theorem dX7_writeReport_128 : decode cX7_writeReport 128 = .ok (.goto (-96), 3) := by decide +kernel
theorem dX7_writeReport_131 : decode cX7_writeReport 131 = .ok (.return_, 1) := by decide +kernel
theorem dX7_interchange_0 : decode cX7_interchange 0 = .ok (.aload_n 0, 1) := by decide +kernel
theorem dX7_interchange_1 : decode cX7_interchange 1 = .ok (.aload_n 0, 1) := by decide +kernel
theorem dX7_interchange_2 : decode cX7_interchange 2 = .ok (.getfield 253, 3) := by decide +kernel
theorem dX7_interchange_5 : decode cX7_interchange 5 = .ok (.ifCond .eq 7, 3) := by decide +kernel
theorem dX7_interchange_8 : decode cX7_interchange 8 = .ok (.iconst 0, 1) := by decide +kernel
theorem dX7_interchange_9 : decode cX7_interchange 9 = .ok (.goto 4, 3) := by decide +kernel
theorem dX7_interchange_12 : decode cX7_interchange 12 = .ok (.iconst 1, 1) := by decide +kernel
theorem dX7_interchange_13 : decode cX7_interchange 13 = .ok (.putfield 102, 3) := by decide +kernel
theorem dX7_interchange_16 : decode cX7_interchange 16 = .ok (.aload_n 0, 1) := by decide +kernel
theorem dX7_interchange_17 : decode cX7_interchange 17 = .ok (.getfield 253, 3) := by decide +kernel
theorem dX7_interchange_20 : decode cX7_interchange 20 = .ok (.ifCond .ne 5, 3) := by decide +kernel
theorem dX7_interchange_23 : decode cX7_interchange 23 = .ok (.iconst 0, 1) := by decide +kernel
theorem dX7_interchange_24 : decode cX7_interchange 24 = .ok (.ireturn, 1) := by decide +kernel
theorem dX7_interchange_25 : decode cX7_interchange 25 = .ok (.iload_n 1, 1) := by decide +kernel
theorem dX7_interchange_26 : decode cX7_interchange 26 = .ok (.ifCond .ne 10, 3) := by decide +kernel
theorem dX7_interchange_29 : decode cX7_interchange 29 = .ok (.aload_n 0, 1) := by decide +kernel
theorem dX7_interchange_30 : decode cX7_interchange 30 = .ok (.getfield 187, 3) := by decide +kernel
theorem dX7_interchange_33 : decode cX7_interchange 33 = .ok (.goto 40, 3) := by decide +kernel
theorem dX7_interchange_36 : decode cX7_interchange 36 = .ok (.iload_n 1, 1) := by decide +kernel
theorem dX7_interchange_37 : decode cX7_interchange 37 = .ok (.iconst 1, 1) := by decide +kernel
theorem dX7_interchange_38 : decode cX7_interchange 38 = .ok (.if_icmp .ne 10, 3) := by decide +kernel
theorem dX7_interchange_41 : decode cX7_interchange 41 = .ok (.aload_n 0, 1) := by decide +kernel
theorem dX7_interchange_42 : decode cX7_interchange 42 = .ok (.getfield 196, 3) := by decide +kernel
theorem dX7_interchange_45 : decode cX7_interchange 45 = .ok (.goto 28, 3) := by decide +kernel
theorem dX7_interchange_48 : decode cX7_interchange 48 = .ok (.iload_n 1, 1) := by decide +kernel
theorem dX7_interchange_49 : decode cX7_interchange 49 = .ok (.iconst 2, 1) := by decide +kernel
theorem dX7_interchange_50 : decode cX7_interchange 50 = .ok (.if_icmp .ne 10, 3) := by decide +kernel
theorem dX7_interchange_53 : decode cX7_interchange 53 = .ok (.aload_n 0, 1) := by decide +kernel
theorem dX7_interchange_54 : decode cX7_interchange 54 = .ok (.getfield 199, 3) := by decide +kernel
theorem dX7_interchange_57 : decode cX7_interchange 57 = .ok (.goto 16, 3) := by decide +kernel
theorem dX7_interchange_60 : decode cX7_interchange 60 = .ok (.iload_n 1, 1) := by decide +kernel
theorem dX7_interchange_61 : decode cX7_interchange 61 = .ok (.iconst 3, 1) := by decide +kernel
theorem dX7_interchange_62 : decode cX7_interchange 62 = .ok (.if_icmp .ne 10, 3) := by decide +kernel
theorem dX7_interchange_65 : decode cX7_interchange 65 = .ok (.aload_n 0, 1) := by decide +kernel
theorem dX7_interchange_66 : decode cX7_interchange 66 = .ok (.getfield 260, 3) := by decide +kernel
theorem dX7_interchange_69 : decode cX7_interchange 69 = .ok (.goto 4, 3) := by decide +kernel
theorem dX7_interchange_72 : decode cX7_interchange 72 = .ok (.iconst (-1), 1) := by decide +kernel
theorem dX7_interchange_73 : decode cX7_interchange 73 = .ok (.ireturn, 1) := by decide +kernel
theorem dX7_message_0 : decode cX7_message 0 = .ok (.aload_n 0, 1) := by decide +kernel
theorem dX7_message_1 : decode cX7_message 1 = .ok (.aload_n 0, 1) := by decide +kernel
theorem dX7_message_2 : decode cX7_message 2 = .ok (.getfield 253, 3) := by decide +kernel
theorem dX7_message_5 : decode cX7_message 5 = .ok (.ifCond .eq 7, 3) := by decide +kernel
theorem dX7_message_8 : decode cX7_message 8 = .ok (.iconst 0, 1) := by decide +kernel
theorem dX7_message_9 : decode cX7_message 9 = .ok (.goto 4, 3) := by decide +kernel
theorem dX7_message_12 : decode cX7_message 12 = .ok (.iconst 1, 1) := by decide +kernel
theorem dX7_message_13 : decode cX7_message 13 = .ok (.putfield 102, 3) := by decide +kernel
theorem dX7_message_16 : decode cX7_message 16 = .ok (.aload_n 0, 1) := by decide +kernel
theorem dX7_message_17 : decode cX7_message 17 = .ok (.getfield 253, 3) := by decide +kernel
theorem dX7_message_20 : decode cX7_message 20 = .ok (.ifCond .eq 24, 3) := by decide +kernel
theorem dX7_message_23 : decode cX7_message 23 = .ok (.iload_n 1, 1) := by decide +kernel
theorem dX7_message_24 : decode cX7_message 24 = .ok (.ifCond .lt 20, 3) := by decide +kernel
theorem dX7_message_27 : decode cX7_message 27 = .ok (.iload_n 1, 1) := by decide +kernel
theorem dX7_message_28 : decode cX7_message 28 = .ok (.aload_n 0, 1) := by decide +kernel
theorem dX7_message_29 : decode cX7_message 29 = .ok (.getfield 196, 3) := by decide +kernel
theorem dX7_message_32 : decode cX7_message 32 = .ok (.if_icmp .ge 12, 3) := by decide +kernel
theorem dX7_message_35 : decode cX7_message 35 = .ok (.iload_n 2, 1) := by decide +kernel
theorem dX7_message_36 : decode cX7_message 36 = .ok (.ifCond .lt 8, 3) := by decide +kernel
theorem dX7_message_39 : decode cX7_message 39 = .ok (.iload_n 2, 1) := by decide +kernel
theorem dX7_message_40 : decode cX7_message 40 = .ok (.iconst 3, 1) := by decide +kernel
theorem dX7_message_41 : decode cX7_message 41 = .ok (.if_icmp .le 16, 3) := by decide +kernel
theorem dX7_message_44 : decode cX7_message 44 = .ok (.aload_n 0, 1) := by decide +kernel
theorem dX7_message_45 : decode cX7_message 45 = .ok (.getfield 253, 3) := by decide +kernel
theorem dX7_message_48 : decode cX7_message 48 = .ok (.ifCond .eq 7, 3) := by decide +kernel
theorem dX7_message_51 : decode cX7_message 51 = .ok (.iconst (-1), 1) := by decide +kernel
theorem dX7_message_52 : decode cX7_message 52 = .ok (.goto 4, 3) := by decide +kernel
theorem dX7_message_55 : decode cX7_message 55 = .ok (.iconst 0, 1) := by decide +kernel
theorem dX7_message_56 : decode cX7_message 56 = .ok (.ireturn, 1) := by decide +kernel
theorem dX7_message_57 : decode cX7_message 57 = .ok (.iload_n 2, 1) := by decide +kernel
theorem dX7_message_58 : decode cX7_message 58 = .ok (.ifCond .ne 12, 3) := by decide +kernel
theorem dX7_message_61 : decode cX7_message 61 = .ok (.aload_n 0, 1) := by decide +kernel
theorem dX7_message_62 : decode cX7_message 62 = .ok (.getfield 75, 3) := by decide +kernel
theorem dX7_message_65 : decode cX7_message 65 = .ok (.iload_n 1, 1) := by decide +kernel
theorem dX7_message_66 : decode cX7_message 66 = .ok (.iaload, 1) := by decide +kernel
theorem dX7_message_67 : decode cX7_message 67 = .ok (.goto 46, 3) := by decide +kernel
theorem dX7_message_70 : decode cX7_message 70 = .ok (.iload_n 2, 1) := by decide +kernel
theorem dX7_message_71 : decode cX7_message 71 = .ok (.iconst 1, 1) := by decide +kernel
theorem dX7_message_72 : decode cX7_message 72 = .ok (.if_icmp .ne 12, 3) := by decide +kernel
theorem dX7_message_75 : decode cX7_message 75 = .ok (.aload_n 0, 1) := by decide +kernel
theorem dX7_message_76 : decode cX7_message 76 = .ok (.getfield 78, 3) := by decide +kernel
theorem dX7_message_79 : decode cX7_message 79 = .ok (.iload_n 1, 1) := by decide +kernel
theorem dX7_message_80 : decode cX7_message 80 = .ok (.iaload, 1) := by decide +kernel
theorem dX7_message_81 : decode cX7_message 81 = .ok (.goto 32, 3) := by decide +kernel
theorem dX7_message_84 : decode cX7_message 84 = .ok (.iload_n 2, 1) := by decide +kernel
theorem dX7_message_85 : decode cX7_message 85 = .ok (.iconst 2, 1) := by decide +kernel
theorem dX7_message_86 : decode cX7_message 86 = .ok (.if_icmp .ne 21, 3) := by decide +kernel
theorem dX7_message_89 : decode cX7_message 89 = .ok (.aload_n 0, 1) := by decide +kernel
theorem dX7_message_90 : decode cX7_message 90 = .ok (.getfield 69, 3) := by decide +kernel
theorem dX7_message_93 : decode cX7_message 93 = .ok (.iload_n 1, 1) := by decide +kernel
theorem dX7_message_94 : decode cX7_message 94 = .ok (.iaload, 1) := by decide +kernel
theorem dX7_message_95 : decode cX7_message 95 = .ok (.aload_n 0, 1) := by decide +kernel
theorem dX7_message_96 : decode cX7_message 96 = .ok (.getfield 66, 3) := by decide +kernel
theorem dX7_message_99 : decode cX7_message 99 = .ok (.iload_n 1, 1) := by decide +kernel
theorem dX7_message_100 : decode cX7_message 100 = .ok (.iaload, 1) := by decide +kernel
theorem dX7_message_101 : decode cX7_message 101 = .ok (.isub, 1) := by decide +kernel
theorem dX7_message_102 : decode cX7_message 102 = .ok (.iconst 1, 1) := by decide +kernel
theorem dX7_message_103 : decode cX7_message 103 = .ok (.iadd, 1) := by decide +kernel
theorem dX7_message_104 : decode cX7_message 104 = .ok (.goto 9, 3) := by decide +kernel
theorem dX7_message_107 : decode cX7_message 107 = .ok (.aload_n 0, 1) := by decide +kernel
theorem dX7_message_108 : decode cX7_message 108 = .ok (.getfield 72, 3) := by decide +kernel
theorem dX7_message_111 : decode cX7_message 111 = .ok (.iload_n 1, 1) := by decide +kernel
theorem dX7_message_112 : decode cX7_message 112 = .ok (.iaload, 1) := by decide +kernel
theorem dX7_message_113 : decode cX7_message 113 = .ok (.ireturn, 1) := by decide +kernel
theorem dX7_group_0 : decode cX7_group 0 = .ok (.aload_n 0, 1) := by decide +kernel
theorem dX7_group_1 : decode cX7_group 1 = .ok (.aload_n 0, 1) := by decide +kernel
theorem dX7_group_2 : decode cX7_group 2 = .ok (.getfield 253, 3) := by decide +kernel
theorem dX7_group_5 : decode cX7_group 5 = .ok (.ifCond .eq 7, 3) := by decide +kernel
theorem dX7_group_8 : decode cX7_group 8 = .ok (.iconst 0, 1) := by decide +kernel
theorem dX7_group_9 : decode cX7_group 9 = .ok (.goto 4, 3) := by decide +kernel
theorem dX7_group_12 : decode cX7_group 12 = .ok (.iconst 1, 1) := by decide +kernel
theorem dX7_group_13 : decode cX7_group 13 = .ok (.putfield 102, 3) := by decide +kernel
theorem dX7_group_16 : decode cX7_group 16 = .ok (.aload_n 0, 1) := by decide +kernel
theorem dX7_group_17 : decode cX7_group 17 = .ok (.getfield 253, 3) := by decide +kernel
theorem dX7_group_20 : decode cX7_group 20 = .ok (.ifCond .ne 7, 3) := by decide +kernel
theorem dX7_group_23 : decode cX7_group 23 = .ok (.iconst 0, 1) := by decide +kernel
theorem dX7_group_24 : decode cX7_group 24 = .ok (.goto 25, 3) := by decide +kernel
theorem dX7_group_27 : decode cX7_group 27 = .ok (.iload_n 1, 1) := by decide +kernel
theorem dX7_group_28 : decode cX7_group 28 = .ok (.ifCond .lt 11, 3) := by decide +kernel
theorem dX7_group_31 : decode cX7_group 31 = .ok (.iload_n 1, 1) := by decide +kernel
theorem dX7_group_32 : decode cX7_group 32 = .ok (.aload_n 0, 1) := by decide +kernel
theorem dX7_group_33 : decode cX7_group 33 = .ok (.getfield 199, 3) := by decide +kernel
theorem dX7_group_36 : decode cX7_group 36 = .ok (.if_icmp .lt 7, 3) := by decide +kernel
theorem dX7_group_39 : decode cX7_group 39 = .ok (.iconst (-1), 1) := by decide +kernel
theorem dX7_group_40 : decode cX7_group 40 = .ok (.goto 9, 3) := by decide +kernel
theorem dX7_group_43 : decode cX7_group 43 = .ok (.aload_n 0, 1) := by decide +kernel
theorem dX7_group_44 : decode cX7_group 44 = .ok (.getfield 87, 3) := by decide +kernel
theorem dX7_group_47 : decode cX7_group 47 = .ok (.iload_n 1, 1) := by decide +kernel
theorem dX7_group_48 : decode cX7_group 48 = .ok (.iaload, 1) := by decide +kernel
theorem dX7_group_49 : decode cX7_group 49 = .ok (.ireturn, 1) := by decide +kernel
theorem dX7_segment_0 : decode cX7_segment 0 = .ok (.aload_n 0, 1) := by decide +kernel
theorem dX7_segment_1 : decode cX7_segment 1 = .ok (.aload_n 0, 1) := by decide +kernel
theorem dX7_segment_2 : decode cX7_segment 2 = .ok (.getfield 253, 3) := by decide +kernel
theorem dX7_segment_5 : decode cX7_segment 5 = .ok (.ifCond .eq 7, 3) := by decide +kernel
theorem dX7_segment_8 : decode cX7_segment 8 = .ok (.iconst 0, 1) := by decide +kernel
theorem dX7_segment_9 : decode cX7_segment 9 = .ok (.goto 4, 3) := by decide +kernel
theorem dX7_segment_12 : decode cX7_segment 12 = .ok (.iconst 1, 1) := by decide +kernel
theorem dX7_segment_13 : decode cX7_segment 13 = .ok (.putfield 102, 3) := by decide +kernel
theorem dX7_segment_16 : decode cX7_segment 16 = .ok (.aload_n 0, 1) := by decide +kernel
theorem dX7_segment_17 : decode cX7_segment 17 = .ok (.getfield 253, 3) := by decide +kernel
theorem dX7_segment_20 : decode cX7_segment 20 = .ok (.ifCond .eq 21, 3) := by decide +kernel
theorem dX7_segment_23 : decode cX7_segment 23 = .ok (.iload_n 1, 1) := by decide +kernel
theorem dX7_segment_24 : decode cX7_segment 24 = .ok (.ifCond .lt 17, 3) := by decide +kernel
theorem dX7_segment_27 : decode cX7_segment 27 = .ok (.iload_n 1, 1) := by decide +kernel
theorem dX7_segment_28 : decode cX7_segment 28 = .ok (.aload_n 0, 1) := by decide +kernel
theorem dX7_segment_29 : decode cX7_segment 29 = .ok (.getfield 187, 3) := by decide +kernel
theorem dX7_segment_32 : decode cX7_segment 32 = .ok (.if_icmp .ge 9, 3) := by decide +kernel
theorem dX7_segment_35 : decode cX7_segment 35 = .ok (.iload_n 2, 1) := by decide +kernel
theorem dX7_segment_36 : decode cX7_segment 36 = .ok (.bipush (-2), 2) := by decide +kernel
theorem dX7_segment_38 : decode cX7_segment 38 = .ok (.if_icmp .ge 16, 3) := by decide +kernel
theorem dX7_segment_41 : decode cX7_segment 41 = .ok (.aload_n 0, 1) := by decide +kernel
theorem dX7_segment_42 : decode cX7_segment 42 = .ok (.getfield 253, 3) := by decide +kernel
theorem dX7_segment_45 : decode cX7_segment 45 = .ok (.ifCond .eq 7, 3) := by decide +kernel
theorem dX7_segment_48 : decode cX7_segment 48 = .ok (.iconst (-1), 1) := by decide +kernel
theorem dX7_segment_49 : decode cX7_segment 49 = .ok (.goto 4, 3) := by decide +kernel
theorem dX7_segment_52 : decode cX7_segment 52 = .ok (.iconst 0, 1) := by decide +kernel
theorem dX7_segment_53 : decode cX7_segment 53 = .ok (.ireturn, 1) := by decide +kernel
theorem dX7_segment_54 : decode cX7_segment 54 = .ok (.aload_n 0, 1) := by decide +kernel
theorem dX7_segment_55 : decode cX7_segment 55 = .ok (.getfield 54, 3) := by decide +kernel
theorem dX7_segment_58 : decode cX7_segment 58 = .ok (.iload_n 1, 1) := by decide +kernel
theorem dX7_segment_59 : decode cX7_segment 59 = .ok (.iconst 1, 1) := by decide +kernel
theorem dX7_segment_60 : decode cX7_segment 60 = .ok (.iadd, 1) := by decide +kernel
theorem dX7_segment_61 : decode cX7_segment 61 = .ok (.iaload, 1) := by decide +kernel
theorem dX7_segment_62 : decode cX7_segment 62 = .ok (.aload_n 0, 1) := by decide +kernel
theorem dX7_segment_63 : decode cX7_segment 63 = .ok (.getfield 54, 3) := by decide +kernel
theorem dX7_segment_66 : decode cX7_segment 66 = .ok (.iload_n 1, 1) := by decide +kernel
theorem dX7_segment_67 : decode cX7_segment 67 = .ok (.iaload, 1) := by decide +kernel
theorem dX7_segment_68 : decode cX7_segment 68 = .ok (.isub, 1) := by decide +kernel
theorem dX7_segment_69 : decode cX7_segment 69 = .ok (.istore 5, 2) := by decide +kernel
theorem dX7_segment_71 : decode cX7_segment 71 = .ok (.iload_n 2, 1) := by decide +kernel
theorem dX7_segment_72 : decode cX7_segment 72 = .ok (.ifCond .ge 21, 3) := by decide +kernel
theorem dX7_segment_75 : decode cX7_segment 75 = .ok (.iload_n 2, 1) := by decide +kernel
theorem dX7_segment_76 : decode cX7_segment 76 = .ok (.bipush (-2), 2) := by decide +kernel
theorem dX7_segment_78 : decode cX7_segment 78 = .ok (.if_icmp .ne 12, 3) := by decide +kernel
theorem dX7_segment_81 : decode cX7_segment 81 = .ok (.aload_n 0, 1) := by decide +kernel
theorem dX7_segment_82 : decode cX7_segment 82 = .ok (.getfield 51, 3) := by decide +kernel
theorem dX7_segment_85 : decode cX7_segment 85 = .ok (.iload_n 1, 1) := by decide +kernel
theorem dX7_segment_86 : decode cX7_segment 86 = .ok (.iaload, 1) := by decide +kernel
theorem dX7_segment_87 : decode cX7_segment 87 = .ok (.goto 5, 3) := by decide +kernel
theorem dX7_segment_90 : decode cX7_segment 90 = .ok (.iload 5, 2) := by decide +kernel
theorem dX7_segment_92 : decode cX7_segment 92 = .ok (.ireturn, 1) := by decide +kernel
theorem dX7_segment_93 : decode cX7_segment 93 = .ok (.iload_n 2, 1) := by decide +kernel
theorem dX7_segment_94 : decode cX7_segment 94 = .ok (.iload 5, 2) := by decide +kernel
theorem dX7_segment_96 : decode cX7_segment 96 = .ok (.if_icmp .ge 8, 3) := by decide +kernel
theorem dX7_segment_99 : decode cX7_segment 99 = .ok (.iload_n 3, 1) := by decide +kernel
theorem dX7_segment_100 : decode cX7_segment 100 = .ok (.iconst (-1), 1) := by decide +kernel
theorem dX7_segment_101 : decode cX7_segment 101 = .ok (.if_icmp .ge 5, 3) := by decide +kernel
theorem dX7_segment_104 : decode cX7_segment 104 = .ok (.iconst (-1), 1) := by decide +kernel
theorem dX7_segment_105 : decode cX7_segment 105 = .ok (.ireturn, 1) := by decide +kernel
theorem dX7_segment_106 : decode cX7_segment 106 = .ok (.aload_n 0, 1) := by decide +kernel
theorem dX7_segment_107 : decode cX7_segment 107 = .ok (.getfield 54, 3) := by decide +kernel
theorem dX7_segment_110 : decode cX7_segment 110 = .ok (.iload_n 1, 1) := by decide +kernel
theorem dX7_segment_111 : decode cX7_segment 111 = .ok (.iaload, 1) := by decide +kernel
theorem dX7_segment_112 : decode cX7_segment 112 = .ok (.iload_n 2, 1) := by decide +kernel
theorem dX7_segment_113 : decode cX7_segment 113 = .ok (.iadd, 1) := by decide +kernel
theorem dX7_segment_114 : decode cX7_segment 114 = .ok (.istore 6, 2) := by decide +kernel
theorem dX7_segment_116 : decode cX7_segment 116 = .ok (.aload_n 0, 1) := by decide +kernel
theorem dX7_segment_117 : decode cX7_segment 117 = .ok (.getfield 57, 3) := by decide +kernel
theorem dX7_segment_120 : decode cX7_segment 120 = .ok (.iload 6, 2) := by decide +kernel
theorem dX7_segment_122 : decode cX7_segment 122 = .ok (.iconst 1, 1) := by decide +kernel
theorem dX7_segment_123 : decode cX7_segment 123 = .ok (.iadd, 1) := by decide +kernel
theorem dX7_segment_124 : decode cX7_segment 124 = .ok (.iaload, 1) := by decide +kernel
theorem dX7_segment_125 : decode cX7_segment 125 = .ok (.aload_n 0, 1) := by decide +kernel
theorem dX7_segment_126 : decode cX7_segment 126 = .ok (.getfield 57, 3) := by decide +kernel
theorem dX7_segment_129 : decode cX7_segment 129 = .ok (.iload 6, 2) := by decide +kernel
theorem dX7_segment_131 : decode cX7_segment 131 = .ok (.iaload, 1) := by decide +kernel
theorem dX7_segment_132 : decode cX7_segment 132 = .ok (.isub, 1) := by decide +kernel
theorem dX7_segment_133 : decode cX7_segment 133 = .ok (.istore 7, 2) := by decide +kernel
theorem dX7_segment_135 : decode cX7_segment 135 = .ok (.iload_n 3, 1) := by decide +kernel
theorem dX7_segment_136 : decode cX7_segment 136 = .ok (.ifCond .lt 15, 3) := by decide +kernel
theorem dX7_segment_139 : decode cX7_segment 139 = .ok (.iload_n 3, 1) := by decide +kernel
theorem dX7_segment_140 : decode cX7_segment 140 = .ok (.iload 7, 2) := by decide +kernel
theorem dX7_segment_142 : decode cX7_segment 142 = .ok (.if_icmp .ge 9, 3) := by decide +kernel
theorem dX7_segment_145 : decode cX7_segment 145 = .ok (.iload 4, 2) := by decide +kernel
theorem dX7_segment_147 : decode cX7_segment 147 = .ok (.iconst (-1), 1) := by decide +kernel
theorem dX7_segment_148 : decode cX7_segment 148 = .ok (.if_icmp .ge 14, 3) := by decide +kernel
theorem dX7_segment_151 : decode cX7_segment 151 = .ok (.iload_n 3, 1) := by decide +kernel
theorem dX7_segment_152 : decode cX7_segment 152 = .ok (.ifCond .ge 8, 3) := by decide +kernel
theorem dX7_segment_155 : decode cX7_segment 155 = .ok (.iload 7, 2) := by decide +kernel
theorem dX7_segment_157 : decode cX7_segment 157 = .ok (.goto 4, 3) := by decide +kernel
theorem dX7_segment_160 : decode cX7_segment 160 = .ok (.iconst (-1), 1) := by decide +kernel
theorem dX7_segment_161 : decode cX7_segment 161 = .ok (.ireturn, 1) := by decide +kernel
theorem dX7_segment_162 : decode cX7_segment 162 = .ok (.aload_n 0, 1) := by decide +kernel
theorem dX7_segment_163 : decode cX7_segment 163 = .ok (.aload_n 0, 1) := by decide +kernel
theorem dX7_segment_164 : decode cX7_segment 164 = .ok (.getfield 57, 3) := by decide +kernel
theorem dX7_segment_167 : decode cX7_segment 167 = .ok (.iload 6, 2) := by decide +kernel
theorem dX7_segment_169 : decode cX7_segment 169 = .ok (.iaload, 1) := by decide +kernel
theorem dX7_segment_170 : decode cX7_segment 170 = .ok (.iload_n 3, 1) := by decide +kernel
theorem dX7_segment_171 : decode cX7_segment 171 = .ok (.iadd, 1) := by decide +kernel
theorem dX7_segment_172 : decode cX7_segment 172 = .ok (.invokevirtual 202, 3) := by decide +kernel
theorem dX7_segment_175 : decode cX7_segment 175 = .ok (.istore 8, 2) := by decide +kernel
theorem dX7_segment_177 : decode cX7_segment 177 = .ok (.iload 4, 2) := by decide +kernel
theorem dX7_segment_179 : decode cX7_segment 179 = .ok (.ifCond .ge 8, 3) := by decide +kernel
theorem dX7_segment_182 : decode cX7_segment 182 = .ok (.iload 8, 2) := by decide +kernel
theorem dX7_segment_184 : decode cX7_segment 184 = .ok (.goto 36, 3) := by decide +kernel
theorem dX7_segment_187 : decode cX7_segment 187 = .ok (.iload 4, 2) := by decide +kernel
theorem dX7_segment_189 : decode cX7_segment 189 = .ok (.iload 8, 2) := by decide +kernel
theorem dX7_segment_191 : decode cX7_segment 191 = .ok (.if_icmp .ge 28, 3) := by decide +kernel
theorem dX7_segment_194 : decode cX7_segment 194 = .ok (.aload_n 0, 1) := by decide +kernel
theorem dX7_segment_195 : decode cX7_segment 195 = .ok (.getfield 63, 3) := by decide +kernel
theorem dX7_segment_198 : decode cX7_segment 198 = .ok (.aload_n 0, 1) := by decide +kernel
theorem dX7_segment_199 : decode cX7_segment 199 = .ok (.getfield 60, 3) := by decide +kernel
theorem dX7_segment_202 : decode cX7_segment 202 = .ok (.aload_n 0, 1) := by decide +kernel
theorem dX7_segment_203 : decode cX7_segment 203 = .ok (.getfield 57, 3) := by decide +kernel
theorem dX7_segment_206 : decode cX7_segment 206 = .ok (.iload 6, 2) := by decide +kernel
theorem dX7_segment_208 : decode cX7_segment 208 = .ok (.iaload, 1) := by decide +kernel
theorem dX7_segment_209 : decode cX7_segment 209 = .ok (.iload_n 3, 1) := by decide +kernel
theorem dX7_segment_210 : decode cX7_segment 210 = .ok (.iadd, 1) := by decide +kernel
theorem dX7_segment_211 : decode cX7_segment 211 = .ok (.iaload, 1) := by decide +kernel
theorem dX7_segment_212 : decode cX7_segment 212 = .ok (.iload 4, 2) := by decide +kernel
theorem dX7_segment_214 : decode cX7_segment 214 = .ok (.iadd, 1) := by decide +kernel
theorem dX7_segment_215 : decode cX7_segment 215 = .ok (.iaload, 1) := by decide +kernel
theorem dX7_segment_216 : decode cX7_segment 216 = .ok (.goto 4, 3) := by decide +kernel
theorem dX7_segment_219 : decode cX7_segment 219 = .ok (.iconst (-1), 1) := by decide +kernel
theorem dX7_segment_220 : decode cX7_segment 220 = .ok (.ireturn, 1) := by decide +kernel
theorem dX7_print_0 : decode cX7_print 0 = .ok (.aload_n 0, 1) := by decide +kernel
theorem dX7_print_1 : decode cX7_print 1 = .ok (.aload_n 0, 1) := by decide +kernel
theorem dX7_print_2 : decode cX7_print 2 = .ok (.getfield 253, 3) := by decide +kernel
theorem dX7_print_5 : decode cX7_print 5 = .ok (.ifCond .eq 7, 3) := by decide +kernel
theorem dX7_print_8 : decode cX7_print 8 = .ok (.iconst 0, 1) := by decide +kernel
theorem dX7_print_9 : decode cX7_print 9 = .ok (.goto 4, 3) := by decide +kernel
theorem dX7_print_12 : decode cX7_print 12 = .ok (.iconst 1, 1) := by decide +kernel
theorem dX7_print_13 : decode cX7_print 13 = .ok (.putfield 102, 3) := by decide +kernel
theorem dX7_print_16 : decode cX7_print 16 = .ok (.aload_n 0, 1) := by decide +kernel
theorem dX7_print_17 : decode cX7_print 17 = .ok (.getfield 253, 3) := by decide +kernel
theorem dX7_print_20 : decode cX7_print 20 = .ok (.ifCond .ne 7, 3) := by decide +kernel
theorem dX7_print_23 : decode cX7_print 23 = .ok (.iconst 0, 1) := by decide +kernel
theorem dX7_print_24 : decode cX7_print 24 = .ok (.goto 37, 3) := by decide +kernel
theorem dX7_print_27 : decode cX7_print 27 = .ok (.iload_n 1, 1) := by decide +kernel
theorem dX7_print_28 : decode cX7_print 28 = .ok (.iconst (-1), 1) := by decide +kernel
theorem dX7_print_29 : decode cX7_print 29 = .ok (.if_icmp .ne 10, 3) := by decide +kernel
theorem dX7_print_32 : decode cX7_print 32 = .ok (.aload_n 0, 1) := by decide +kernel
theorem dX7_print_33 : decode cX7_print 33 = .ok (.getfield 275, 3) := by decide +kernel
theorem dX7_print_36 : decode cX7_print 36 = .ok (.goto 25, 3) := by decide +kernel
theorem dX7_print_39 : decode cX7_print 39 = .ok (.iload_n 1, 1) := by decide +kernel
theorem dX7_print_40 : decode cX7_print 40 = .ok (.ifCond .lt 11, 3) := by decide +kernel
theorem dX7_print_43 : decode cX7_print 43 = .ok (.iload_n 1, 1) := by decide +kernel
theorem dX7_print_44 : decode cX7_print 44 = .ok (.aload_n 0, 1) := by decide +kernel
theorem dX7_print_45 : decode cX7_print 45 = .ok (.getfield 275, 3) := by decide +kernel
theorem dX7_print_48 : decode cX7_print 48 = .ok (.if_icmp .lt 7, 3) := by decide +kernel
theorem dX7_print_51 : decode cX7_print 51 = .ok (.iconst (-1), 1) := by decide +kernel
theorem dX7_print_52 : decode cX7_print 52 = .ok (.goto 9, 3) := by decide +kernel
theorem dX7_print_55 : decode cX7_print 55 = .ok (.aload_n 0, 1) := by decide +kernel
theorem dX7_print_56 : decode cX7_print 56 = .ok (.getfield 96, 3) := by decide +kernel
theorem dX7_print_59 : decode cX7_print 59 = .ok (.iload_n 1, 1) := by decide +kernel
theorem dX7_print_60 : decode cX7_print 60 = .ok (.iaload, 1) := by decide +kernel
theorem dX7_print_61 : decode cX7_print 61 = .ok (.ireturn, 1) := by decide +kernel
theorem dX7_report_0 : decode cX7_report 0 = .ok (.aload_n 0, 1) := by decide +kernel
theorem dX7_report_1 : decode cX7_report 1 = .ok (.aload_n 0, 1) := by decide +kernel
theorem dX7_report_2 : decode cX7_report 2 = .ok (.getfield 253, 3) := by decide +kernel
theorem dX7_report_5 : decode cX7_report 5 = .ok (.ifCond .eq 7, 3) := by decide +kernel
theorem dX7_report_8 : decode cX7_report 8 = .ok (.iconst 0, 1) := by decide +kernel
theorem dX7_report_9 : decode cX7_report 9 = .ok (.goto 4, 3) := by decide +kernel
theorem dX7_report_12 : decode cX7_report 12 = .ok (.iconst 1, 1) := by decide +kernel
theorem dX7_report_13 : decode cX7_report 13 = .ok (.putfield 102, 3) := by decide +kernel
theorem dX7_report_16 : decode cX7_report 16 = .ok (.aload_n 0, 1) := by decide +kernel
theorem dX7_report_17 : decode cX7_report 17 = .ok (.getfield 253, 3) := by decide +kernel
theorem dX7_report_20 : decode cX7_report 20 = .ok (.ifCond .ne 7, 3) := by decide +kernel
theorem dX7_report_23 : decode cX7_report 23 = .ok (.iconst 0, 1) := by decide +kernel
theorem dX7_report_24 : decode cX7_report 24 = .ok (.goto 37, 3) := by decide +kernel
theorem dX7_report_27 : decode cX7_report 27 = .ok (.iload_n 1, 1) := by decide +kernel
theorem dX7_report_28 : decode cX7_report 28 = .ok (.iconst (-1), 1) := by decide +kernel
theorem dX7_report_29 : decode cX7_report 29 = .ok (.if_icmp .ne 10, 3) := by decide +kernel
theorem dX7_report_32 : decode cX7_report 32 = .ok (.aload_n 0, 1) := by decide +kernel
theorem dX7_report_33 : decode cX7_report 33 = .ok (.getfield 272, 3) := by decide +kernel
theorem dX7_report_36 : decode cX7_report 36 = .ok (.goto 25, 3) := by decide +kernel
theorem dX7_report_39 : decode cX7_report 39 = .ok (.iload_n 1, 1) := by decide +kernel
theorem dX7_report_40 : decode cX7_report 40 = .ok (.ifCond .lt 11, 3) := by decide +kernel
theorem dX7_report_43 : decode cX7_report 43 = .ok (.iload_n 1, 1) := by decide +kernel
theorem dX7_report_44 : decode cX7_report 44 = .ok (.aload_n 0, 1) := by decide +kernel
theorem dX7_report_45 : decode cX7_report 45 = .ok (.getfield 272, 3) := by decide +kernel
theorem dX7_report_48 : decode cX7_report 48 = .ok (.if_icmp .lt 7, 3) := by decide +kernel
theorem dX7_report_51 : decode cX7_report 51 = .ok (.iconst (-1), 1) := by decide +kernel
theorem dX7_report_52 : decode cX7_report 52 = .ok (.goto 9, 3) := by decide +kernel
theorem dX7_report_55 : decode cX7_report 55 = .ok (.aload_n 0, 1) := by decide +kernel
theorem dX7_report_56 : decode cX7_report 56 = .ok (.getfield 99, 3) := by decide +kernel
theorem dX7_report_59 : decode cX7_report 59 = .ok (.iload_n 1, 1) := by decide +kernel
theorem dX7_report_60 : decode cX7_report 60 = .ok (.iaload, 1) := by decide +kernel
theorem dX7_report_61 : decode cX7_report 61 = .ok (.ireturn, 1) := by decide +kernel
end
section
/-! The judgement J: the machine's W over an abstract heap. A reference is a position; L gives each position its address. -/
/-- a method: name, bytes, locals, answer -/
abbrev jM : Type := MethodName × ByteArray × Nat × Option FieldType
/-- the abstract heap: position to (kind, slots); kinds 0..7: vwCl; 10 int[], 11 long[], 12 boolean[], 13 Table[]; 20 the script; 30 something of which nothing is said -/
abbrev jH : Type := Nat → Nat × List Value
abbrev jG : Type := va_G × (Nat → ClassId)
/-- how a method ends: it returned, or threw an object of that class -/
abbrev jO : Type := Option Value ⊕ String
abbrev jK : Type := jO → Nat → jH → Prop
def jv (L : List Nat) (v w : Value) : Prop := match v with
  | .ref k => ∃ a, L[k]? = some a ∧ w = .ref a
  | v => w = v
def jvs (L : List Nat) : List Value → List Value → Prop
  | [], ws => ws = []
  | v :: vs, ws => ∃ w ws', ws = w :: ws' ∧ jv L v w ∧ jvs L vs ws'
def jle (L L' : List Nat) : Prop := ∀ (k a : Nat), L[k]? = some a → L'[k]? = some a
theorem jle.rf {L : List Nat} : jle L L := fun _ _ h => h
theorem jle.tr {L L' L'' : List Nat} (h : jle L L') (h' : jle L' L'') : jle L L'' := fun k a q => h' k a (h k a q)
theorem jle.push {L : List Nat} (q : Nat) : jle L (L ++ [q]) := fun k a h => by
  rw [List.getElem?_append_left (List.getElem?_eq_some_iff.mp h).1]; exact h
theorem jv.mono {L L' : List Nat} (hL : jle L L') {v w : Value} (h : jv L v w) : jv L' v w := by
  cases v with
  | ref k => obtain ⟨a, h1, h2⟩ := h; exact ⟨a, hL k a h1, h2⟩
  | _ => exact h
theorem jvs.mono {L L' : List Nat} (hL : jle L L') : ∀ {vs ws : List Value}, jvs L vs ws → jvs L' vs ws
  | [], _, h => h
  | _ :: _, _, ⟨w, ws', e, h1, h2⟩ => ⟨w, ws', e, h1.mono hL, jvs.mono hL h2⟩
theorem jvs.len {L : List Nat} : ∀ {vs ws : List Value}, jvs L vs ws → ws.length = vs.length
  | [], _, h => by rw [show _ = [] from h]
  | _ :: _, _, ⟨w, ws', e, _, h2⟩ => by rw [e, List.length_cons, List.length_cons, jvs.len h2]
theorem jvs.get {L : List Nat} : ∀ {vs ws : List Value}, jvs L vs ws → ∀ {k : Nat} {v : Value}, vs[k]? = some v → ∃ w, ws[k]? = some w ∧ jv L v w
  | [], _, _, k, v, h => by simp at h
  | x :: vs, _, ⟨w, ws', e, h1, h2⟩, k, v, h => by
    subst e
    cases k with
    | zero => simp at h; subst h; exact ⟨w, by simp, h1⟩
    | succ k => simp at h; obtain ⟨w', q1, q2⟩ := jvs.get h2 h; exact ⟨w', by simpa using q1, q2⟩
theorem jvs.set {L : List Nat} : ∀ {vs ws : List Value}, jvs L vs ws → ∀ (k : Nat) {v w : Value}, jv L v w → jvs L (vs.set k v) (ws.set k w)
  | [], _, h, k, v, w, _ => by rw [show _ = [] from h]; exact rfl
  | x :: vs, _, ⟨w0, ws', e, h1, h2⟩, k, v, w, h => by
    subst e
    cases k with
    | zero => exact ⟨w, ws', rfl, h, h2⟩
    | succ k => exact ⟨w0, ws'.set k w, rfl, h1, jvs.set h2 k h⟩
theorem jvs.app {L : List Nat} : ∀ {vs ws vs' ws' : List Value}, jvs L vs ws → jvs L vs' ws' → jvs L (vs ++ vs') (ws ++ ws')
  | [], _, _, _, h, h' => by rw [show _ = [] from h]; exact h'
  | _ :: _, _, _, _, ⟨w, ws1, e, h1, h2⟩, h' => by subst e; exact ⟨w, ws1 ++ _, rfl, h1, jvs.app h2 h'⟩
theorem jvs.split {L : List Nat} : ∀ {vs vs' ws : List Value}, jvs L (vs ++ vs') ws → ∃ w1 w2, ws = w1 ++ w2 ∧ jvs L vs w1 ∧ jvs L vs' w2
  | [], _, ws, h => ⟨[], ws, rfl, rfl, h⟩
  | v :: vs, vs', _, ⟨w, ws1, e, h1, h2⟩ => by
    obtain ⟨w1, w2, e2, h3, h4⟩ := jvs.split h2
    exact ⟨w :: w1, w2, by rw [e, e2]; rfl, ⟨w, w1, rfl, h1, h3⟩, h4⟩
theorem jvs.rev {L : List Nat} : ∀ {vs ws : List Value}, jvs L vs ws → jvs L vs.reverse ws.reverse
  | [], _, h => by rw [show _ = [] from h]; exact rfl
  | v :: vs, _, ⟨w, ws1, e, h1, h2⟩ => by
    subst e
    rw [List.reverse_cons, List.reverse_cons]
    exact (jvs.rev h2).app ⟨w, [], rfl, h1, rfl⟩
theorem jv.cat {L : List Nat} {v w : Value} (h : jv L v w) : w.category = v.category := by
  cases v with
  | ref k => obtain ⟨a, _, e⟩ := h; subst e; rfl
  | _ => rw [show w = _ from h]
theorem jvs.cat {L : List Nat} : ∀ {vs ws : List Value}, jvs L vs ws → (ws.map fun v => v.category) = vs.map fun v => v.category
  | [], _, h => by rw [show _ = [] from h]
  | _ :: _, _, ⟨w, ws', e, h1, h2⟩ => by rw [e, List.map_cons, List.map_cons, h1.cat, jvs.cat h2]
/-- the tables' array kinds -/
def jty (k : Nat) : FieldType := match k with
  | 10 => .int
  | 11 => .long
  | 12 => .boolean
  | _ => .object "InterchangeDesk$Table"
def jtys (G : jG) : List (ClassId × FieldType) := [(G.2 10, jty 10), (G.2 11, jty 11), (G.2 12, jty 12), (G.2 13, jty 13)]
/-- what the heap H holds at the address a of a position that holds c -/
def jcl (G : jG) (A : Nat → Prop) (s : State) (L : List Nat) (H : Heap) (a : Nat) (c : Nat × List Value) : Prop :=
  ∃ ws, jvs L c.2 ws ∧
    ((c.1 < 8 ∧ A a ∧ va_at G.1 vwCl (a, .inr (c.1, ws)) H) ∨
     (10 ≤ c.1 ∧ c.1 < 14 ∧ A a ∧ H[a]? = some (arrV (G.2 c.1) ws.length (vp_V ws))) ∨
     (c.1 = 20 ∧ ∃ scr : Cell, H[a]? = some scr ∧ s.isArrayOf scr .int ∧ scr.vm ≠ .unknown ∧ scr.slots.size = ws.length ∧ ∀ j, j < ws.length → scr.slots[j]? = some (vp_V ws j)) ∨
     c.1 = 30)
def jRel (G : jG) (A : Nat → Prop) (s : State) (L : List Nat) (n : Nat) (h : jH) (H : Heap) : Prop :=
  L.length = n ∧ (∀ (i j a : Nat), (h i).1 ≠ 30 → (h j).1 ≠ 30 → L[i]? = some a → L[j]? = some a → i = j) ∧ ∀ (k a : Nat), L[k]? = some a → jcl G A s L H a (h k)
theorem jcl.mono {G : jG} {A B : Nat → Prop} {s u : State} {L L' : List Nat} {H : Heap} {a : Nat} {c : Nat × List Value} (hA : ∀ q, A q → B q) (hs : s.vm.Alike u.vm) (hL : jle L L') (h : jcl G A s L H a c) : jcl G B u L' H a c := by
  obtain ⟨ws, h1, h2⟩ := h
  refine ⟨ws, h1.mono hL, ?_⟩
  rcases h2 with ⟨x, y, z⟩ | ⟨x, x', y, z⟩ | ⟨x, scr, y1, y2, y3⟩ | x
  · exact Or.inl ⟨x, hA _ y, z⟩
  · exact Or.inr (Or.inl ⟨x, x', hA _ y, z⟩)
  · exact Or.inr (Or.inr (Or.inl ⟨x, scr, y1, State.isArrayOf_alike hs y2, y3⟩))
  · exact Or.inr (Or.inr (Or.inr x))
theorem jRel.mono {G : jG} {A B : Nat → Prop} {s u : State} {L : List Nat} {n : Nat} {h : jH} {H : Heap} (hA : ∀ q, A q → B q) (hs : s.vm.Alike u.vm) (hR : jRel G A s L n h H) : jRel G B u L n h H :=
  ⟨hR.1, hR.2.1, fun k a q => (hR.2.2 k a q).mono hA hs jle.rf⟩
theorem jcl.kept {G : jG} {A : Nat → Prop} {s : State} {L : List Nat} {H H1 : Heap} {a : Nat} {c : Nat × List Value} (h : jcl G A s L H a c) (hq : c.1 ≠ 30 → H1[a]? = H[a]?) : jcl G A s L H1 a c := by
  obtain ⟨ws, h1, h2⟩ := h
  refine ⟨ws, h1, ?_⟩
  rcases h2 with ⟨x, y, z⟩ | ⟨x, x', y, z⟩ | ⟨x, scr, y1, y2, y3⟩ | x
  · exact Or.inl ⟨x, y, va_at.kept z (hq (by omega))⟩
  · exact Or.inr (Or.inl ⟨x, x', y, by rw [hq (by omega)]; exact z⟩)
  · exact Or.inr (Or.inr (Or.inl ⟨x, scr, by rw [hq (by omega)]; exact y1, y2, y3⟩))
  · exact Or.inr (Or.inr (Or.inr x))
theorem jcl.lt {G : jG} {A : Nat → Prop} {s : State} {L : List Nat} {H : Heap} {a : Nat} {c : Nat × List Value} (h : jcl G A s L H a c) (hc : c.1 ≠ 30) : a < H.size := by
  obtain ⟨ws, h1, h2⟩ := h
  rcases h2 with ⟨x, y, z⟩ | ⟨x, x', y, z⟩ | ⟨x, scr, y1, y2, y3⟩ | x
  · exact va_at.lt z
  · exact (Array.getElem?_eq_some_iff.mp z).1
  · exact (Array.getElem?_eq_some_iff.mp y1).1
  · exact absurd x hc
/-- the heap with position k holding c -/
def jup (h : jH) (k : Nat) (c : Nat × List Value) : jH := fun j => if j = k then c else h j
theorem jup_same {h : jH} {k : Nat} {c : Nat × List Value} : jup h k c k = c := by simp [jup]
theorem jup_ne {h : jH} {k j : Nat} {c : Nat × List Value} (hj : j ≠ k) : jup h k c j = h j := by simp [jup, hj]
/-- one position is written -/
theorem jRel.set {G : jG} {A : Nat → Prop} {s : State} {L : List Nat} {n : Nat} {h : jH} {H H1 : Heap} (hR : jRel G A s L n h H) {k a : Nat} {c : Nat × List Value} (hk : L[k]? = some a) (h30 : (h k).1 ≠ 30) (hc : c.1 ≠ 30) (hcl : jcl G A s L H1 a c) (oq : ∀ q, q ≠ a → H1[q]? = H[q]?) : jRel G A s L n (jup h k c) H1 := by
  obtain ⟨r1, r2, r3⟩ := hR
  have e30 : ∀ i, (jup h k c i).1 ≠ 30 → (h i).1 ≠ 30 := fun i hi => by
    by_cases e : i = k
    · rw [e]; exact h30
    · rw [jup_ne e] at hi; exact hi
  refine ⟨r1, fun i j b hi hj h1 h2 => r2 i j b (e30 i hi) (e30 j hj) h1 h2, fun j b hj => ?_⟩
  by_cases e : j = k
  · subst e
    cases hk.symm.trans hj
    rw [jup_same]; exact hcl
  · rw [jup_ne e]
    refine (r3 j b hj).kept fun hx => oq b fun hb => e ?_
    subst hb
    exact r2 j k b hx h30 hj hk
/-- a position is added -/
theorem jRel.push {G : jG} {A : Nat → Prop} {s : State} {L : List Nat} {n : Nat} {h : jH} {H H1 : Heap} (hR : jRel G A s L n h H) {a : Nat} {c : Nat × List Value} (ha : a = H.size) (hcl : jcl G A s (L ++ [a]) H1 a c) (oq : ∀ q, q < H.size → H1[q]? = H[q]?) : jRel G A s (L ++ [a]) (n + 1) (jup h n c) H1 := by
  obtain ⟨r1, r2, r3⟩ := hR
  have hin : ∀ (k b : Nat), (L ++ [a])[k]? = some b → (k < n ∧ L[k]? = some b) ∨ (k = n ∧ b = a) := fun k b hk => by
    rcases Nat.lt_or_ge k n with q | q
    · rw [List.getElem?_append_left (by omega)] at hk; exact Or.inl ⟨q, hk⟩
    · rw [List.getElem?_append_right (by omega)] at hk
      have : k - L.length = 0 := by
        have := (List.getElem?_eq_some_iff.mp hk).1
        simp at this; omega
      rw [this] at hk
      simp at hk
      exact Or.inr ⟨by omega, hk.symm⟩
  refine ⟨by simp [r1], fun i j b hi hj h1 h2 => ?_, fun k b hk => ?_⟩
  · rcases hin i b h1 with ⟨p1, p2⟩ | ⟨p1, p2⟩ <;> rcases hin j b h2 with ⟨q1, q2⟩ | ⟨q1, q2⟩
    · rw [jup_ne (by omega)] at hi hj; exact r2 i j b hi hj p2 q2
    · rw [jup_ne (by omega)] at hi
      have := (r3 i b p2).lt hi
      omega
    · rw [jup_ne (by omega)] at hj
      have := (r3 j b q2).lt hj
      omega
    · omega
  · rcases hin k b hk with ⟨p1, p2⟩ | ⟨p1, p2⟩
    · rw [jup_ne (by omega)]
      have hq := r3 k b p2
      exact (hq.kept fun hx => oq b (hq.lt hx)).mono (fun _ z => z) (Vm.Alike.refl _) (jle.push a)
    · subst p1; subst p2
      rw [jup_same]; exact hcl
end
section
/-- what a method may rely on, whoever calls it: the tables' words, the kinds, the statics that an exception's making reads -/
def jg (G : jG) (A : Nat → Prop) (s : State) : Prop :=
  (∀ w ∈ lw_tbl, goodWord w = true → ∀ args, w.before args s = true) ∧
  (∀ a i x b, Cond.methodLinkNest a i x b ∈ lw_tbl → va_Nw (.methodLinkNest a i x b) s) ∧
  (∀ o k tx, Cond.stringRef o k tx ∈ lw_tbl → ∃ sa, vk_R o k tx sa s) ∧
  vx_Zq Bundle.tN "UNASSIGNED_STACK" Bundle.steD A s s.heap ∧ vx_Zq Bundle.tN "SUPPRESSED_SENTINEL" Bundle.listD A s s.heap ∧
  va_K G.1 vwCl (jtys G) s ∧
  va_Nc "java/lang/IllegalStateException" "java/lang/IllegalArgumentException" s ∧ va_Nc "java/lang/UnsupportedOperationException" "java/lang/IllegalArgumentException" s ∧
  (∀ C T, Cond.castable C T ∈ lw_tbl → va_Nw (.castable C T) s) ∧ (∀ x, Cond.declares x ∈ lw_tbl → va_Nw (.declares x) s) ∧ va_AO "InterchangeDesk$Table" s
theorem jg.next {G : jG} {A B : Nat → Prop} {s U : State} {H : Heap} {locs : List Loc} (h : jg G A s) (hW : s.WarmedH U.vm) (hH : U.heap = H) (hS : va_S A s.heap H locs) (hB : ∀ q, B q → A q) : jg G B U := by
  obtain ⟨h1, h2, h3, h4, h5, h6, h7, h8, h9, h10, h11⟩ := h
  refine ⟨fun w hw hg a => word_at hW (good_of_word hg) (h1 w hw hg #[]), fun a i x b hm => va_Nw.warmM hW (h2 a i x b hm), fun o k tx hm => ?_, ?_, ?_, va_K.moved hW.alike h6, h7.moved hW.alike, h8.moved hW.alike, fun C T hm => va_Nw.warmC hW (h9 C T hm), fun x hm => va_Nw.warmD hW (h10 x hm), h11.moved hW.alike⟩
  · obtain ⟨sa, hs⟩ := h3 o k tx hm
    exact ⟨sa, vk_R.warm hW hs⟩
  · rw [hH]; exact ((h4.kept fun a ha hn => hS.2.1 a ha hn).narrow hB).moved hW.alike
  · rw [hH]; exact ((h5.kept fun a ha hn => hS.2.1 a ha hn).narrow hB).moved hW.alike
/-- what a call may write: the positions' cells (not the script), and what is new -/
def jA (L : List Nat) (h : jH) (sz : Nat) : Nat → Prop := fun q => (∃ k, L[k]? = some q ∧ (h k).1 < 14) ∨ sz ≤ q
def jvo (L : List Nat) (v w : Option Value) : Prop := match v with
  | none => w = none
  | some v => ∃ w', w = some w' ∧ jv L v w'
def jQ (G : jG) (A : Nat → Prop) (L : List Nat) (K : jK) : Array Value → State → Outcome → State → Prop := fun _ st o t =>
  ∃ (v v' : Option Value) (L' : List Nat) (n' : Nat) (h' : jH), o = .returned v' ∧ jvo L' v v' ∧ K (.inl v) n' h' ∧ jle L L' ∧ jRel G A t L' n' h' t.heap ∧ va_F A st t
def jX (G : jG) (A : Nat → Prop) (L : List Nat) (K : jK) : String → State → State → Prop := fun E st t =>
  ∃ (L' : List Nat) (n' : Nat) (h' : jH), K (.inr E) n' h' ∧ jle L L' ∧ jRel G A t L' n' h' t.heap ∧ va_F A st t
def jPc (G : jG) (L : List Nat) (n : Nat) (h : jH) (av : List Value) (sz : Nat) : Array Value → State → Prop := fun v U =>
  v = av.toArray ∧ U.heap.size = sz ∧ jg G (jA L h sz) U ∧ jRel G (jA L h sz) U L n h U.heap
theorem jPc.blind {G : jG} {L : List Nat} {n : Nat} {h : jH} {av : List Value} {sz : Nat} : FrameBlind (jPc G L n h av sz) := fun a U g mk q => by
  obtain ⟨q1, q2, q3, q4⟩ := q
  exact ⟨q1, q2, q3.next (U := U.calling g mk a) (State.WarmedH.refl U) rfl va_S.rf (fun _ z => z), q4.mono (u := U.calling g mk a) (fun _ z => z) (Vm.Alike.refl U.vm)⟩
/-- methods with their tables -/
abbrev jY : Type := jM × List (Nat × Nat × Nat × Nat)
def jlv (L : List Nat) (ls : List (Option Value)) (lsR : Array Slot) (nL : Nat) : Prop :=
  lsR.size = nL ∧ lv_wf lsR ∧ ∀ (i : Nat) (v : Value), ls[i]? = some (some v) → ∃ w, jv L v w ∧ lsR[i]? = some (.val w)
def jCtx (l : Launch) (G : jG) (Y : jY) (d : Nat) (p : Program) (R : Room) (s : State) (m : MethodId) (args : Array Value) (meth : Method) (c : Code) (A : Nat → Prop) : Prop :=
  p.tables.exec = Jvm.exec ∧ c.code = Y.1.2.1 ∧ meth.sig.returnType = Y.1.2.2.2 ∧ c.maxLocals = Y.1.2.2.1 ∧ s.vm.findClass Y.1.1.cls = some m.cls ∧ meth.locks = false ∧ meth.name = Y.1.1.name ∧
  c.exceptionTable.toList.map (fun x => (x.startPc, x.endPc, x.handlerPc, x.catchType)) = Y.2 ∧ l.stackTraces = false ∧ d ≤ R.frames ∧ 32 * d ≤ R.locals ∧ jg G A s ∧ ∀ q, s.heap.size ≤ q → A q
def jJ (l : Launch) (G : jG) (Y : jY) (d bc bs n pc : Nat) (ls : List (Option Value)) (st : List Value) (h : jH) (K : jK) : Prop :=
  ∀ (p : Program) (e : Env) (R : Room) (s : State) (m : MethodId) (args : Array Value) (below : List Frame) (meth : Method) (c : Code) (A : Nat → Prop) (H : Heap) (locs : List Loc) (cells slots C S : Nat) (L0 L : List Nat) (lsR : Array Slot) (stR : List Value),
    jCtx l G Y d p R s m args meth c A → jRel G A s L n h H → jle L0 L → va_S A s.heap H locs → jlv L ls lsR Y.1.2.2.1 → jvs L st stR → cells + bc ≤ C → slots + bs ≤ S → C ≤ R.cells → S ≤ R.slots →
    W p l e R s m args below meth c H locs cells slots (vx_MQ below (jQ G A L0 K) (jX G A L0 K) args s C S A) (F0 m pc lsR stR)
theorem jvs.c {L : List Nat} {v : Value} {vs ws : List Value} (h : jvs L (v :: vs) ws) : ∃ w ws', ws = w :: ws' ∧ jv L v w ∧ jvs L vs ws' := h
theorem jvs.i {L : List Nat} {x : Int32} {vs ws : List Value} (h : jvs L (.int x :: vs) ws) : ∃ ws', ws = .int x :: ws' ∧ jvs L vs ws' := by
  obtain ⟨w, ws', e, h1, h2⟩ := h
  exact ⟨ws', by rw [e, show w = _ from h1], h2⟩
theorem jvs.lg {L : List Nat} {x : Int64} {vs ws : List Value} (h : jvs L (.long x :: vs) ws) : ∃ ws', ws = .long x :: ws' ∧ jvs L vs ws' := by
  obtain ⟨w, ws', e, h1, h2⟩ := h
  exact ⟨ws', by rw [e, show w = _ from h1], h2⟩
theorem jvs.r {L : List Nat} {k : Nat} {vs ws : List Value} (h : jvs L (.ref k :: vs) ws) : ∃ a ws', ws = .ref a :: ws' ∧ L[k]? = some a ∧ jvs L vs ws' := by
  obtain ⟨w, ws', e, ⟨a, h1, h3⟩, h2⟩ := h
  exact ⟨a, ws', by rw [e, h3], h1, h2⟩
theorem jvs.n {L : List Nat} {vs ws : List Value} (h : jvs L (.null :: vs) ws) : ∃ ws', ws = .null :: ws' ∧ jvs L vs ws' := by
  obtain ⟨w, ws', e, h1, h2⟩ := h
  exact ⟨ws', by rw [e, show w = _ from h1], h2⟩
theorem jvs.ic {L : List Nat} {x : Int32} {vs ws : List Value} (h : jvs L vs ws) : jvs L (.int x :: vs) (.int x :: ws) := ⟨_, _, rfl, rfl, h⟩
theorem jvs.lc {L : List Nat} {x : Int64} {vs ws : List Value} (h : jvs L vs ws) : jvs L (.long x :: vs) (.long x :: ws) := ⟨_, _, rfl, rfl, h⟩
section JR
variable {l : Launch} {G : jG} {Y : jY} {d bc bs n pc : Nat} {ls : List (Option Value)} {st : List Value} {h : jH} {K : jK}
/-- an instruction that changes the stack alone -/
theorem jJ.s {pc' : Nat} {st' : List Value} (k : jJ l G Y d bc bs n pc' ls st' h K)
    (hh : ∀ (L : List Nat) (stR : List Value), jvs L st stR → ∃ stR', jvs L st' stR' ∧ ∀ (p : Program) (e : Env) (R : Room) (s : State) (m : MethodId) (args : Array Value) (below : List Frame) (meth : Method) (c : Code) (H : Heap) (locs : List Loc) (cells slots : Nat) (Q : State → Prop) (lsR : Array Slot), p.tables.exec = Jvm.exec → c.code = Y.1.2.1 → W p l e R s m args below meth c H locs cells slots Q (F0 m pc' lsR stR') → W p l e R s m args below meth c H locs cells slots Q (F0 m pc lsR stR)) : jJ l G Y d bc bs n pc ls st h K := by
  intro p e R s m args below meth c A H locs cells slots C S L0 L lsR stR C0 hR hL hS hl hst h1 h2 h3 h4
  obtain ⟨stR', q1, q2⟩ := hh L stR hst
  exact q2 p e R s m args below meth c H locs cells slots _ lsR C0.1 C0.2.1 (k p e R s m args below meth c A H locs cells slots C S L0 L lsR stR' C0 hR hL hS hl q1 h1 h2 h3 h4)
theorem jJ.mono {ls' : List (Option Value)} {K' : jK} (hls : ∀ (i : Nat) (v : Value), ls'[i]? = some (some v) → ls[i]? = some (some v)) (hK : ∀ o n h, K' o n h → K o n h) (k : jJ l G Y d bc bs n pc ls' st h K') : jJ l G Y d bc bs n pc ls st h K := by
  intro p e R s m args below meth c A H locs cells slots C S L0 L lsR stR C0 hR hL hS hl hst h1 h2 h3 h4
  have hk := k p e R s m args below meth c A H locs cells slots C S L0 L lsR stR C0 hR hL hS ⟨hl.1, hl.2.1, fun i v q => hl.2.2 i v (hls i v q)⟩ hst h1 h2 h3 h4
  intro T hT X
  obtain ⟨t, a1, o, b1, b2, b3⟩ := hk T hT X
  refine ⟨t, a1, o, b1, b2, ?_⟩
  rcases b3 with ⟨⟨v, v', L', n', h', x1, x2, x3, x4⟩, y⟩ | ⟨q, x1, E, ce, Lx, ⟨L', n', h', x3, x4⟩, y⟩
  · exact Or.inl ⟨⟨v, v', L', n', h', x1, x2, hK _ _ _ x3, x4⟩, y⟩
  · exact Or.inr ⟨q, x1, E, ce, Lx, ⟨L', n', h', hK _ _ _ x3, x4⟩, y⟩
/-- less depth, less room is enough -/
theorem jJ.widen {d' bc' bs' : Nat} (hd : d' ≤ d) (hc : bc' ≤ bc) (hs : bs' ≤ bs) (k : jJ l G Y d' bc' bs' n pc ls st h K) : jJ l G Y d bc bs n pc ls st h K := by
  intro p e R s m args below meth c A H locs cells slots C S L0 L lsR stR C0 hR hL hS hl hst h1 h2 h3 h4
  obtain ⟨c1, c2, c3, c4, c5, c6, c7, c8, c9, c10, c11, c12⟩ := C0
  exact k p e R s m args below meth c A H locs cells slots C S L0 L lsR stR ⟨c1, c2, c3, c4, c5, c6, c7, c8, c9, Nat.le_trans hd c10, Nat.le_trans (Nat.mul_le_mul_left 32 hd) c11, c12⟩ hR hL hS hl hst (by omega) (by omega) h3 h4
theorem J_iconst {i : Int} {v : Int32} (hd : decode Y.1.2.1 pc = .ok (.iconst i, 1)) (hv : Int32.ofInt i = v) (k : jJ l G Y d bc bs n (pc + 1) ls (.int v :: st) h K) : jJ l G Y d bc bs n pc ls st h K :=
  jJ.s k (fun L stR hst => ⟨.int v :: stR, ⟨_, _, rfl, rfl, hst⟩, fun p e R s m args below meth c H locs cells slots Q lsR hx hb w => lv_iconst hx hb hd hv w⟩)
theorem J_bipush {i : Int} {v : Int32} (hd : decode Y.1.2.1 pc = .ok (.bipush i, 2)) (hv : (Int8.ofInt i).toInt32 = v) (k : jJ l G Y d bc bs n (pc + 2) ls (.int v :: st) h K) : jJ l G Y d bc bs n pc ls st h K :=
  jJ.s k (fun L stR hst => ⟨.int v :: stR, ⟨_, _, rfl, rfl, hst⟩, fun p e R s m args below meth c H locs cells slots Q lsR hx hb w => lv_bipush hx hb hd hv w⟩)
theorem J_sipush {i : Int} {v : Int32} (hd : decode Y.1.2.1 pc = .ok (.sipush i, 3)) (hv : (Int16.ofInt i).toInt32 = v) (k : jJ l G Y d bc bs n (pc + 3) ls (.int v :: st) h K) : jJ l G Y d bc bs n pc ls st h K :=
  jJ.s k (fun L stR hst => ⟨.int v :: stR, ⟨_, _, rfl, rfl, hst⟩, fun p e R s m args below meth c H locs cells slots Q lsR hx hb w => lv_sipush hx hb hd hv w⟩)
theorem J_lconst {i : Fin 2} {v : Int64} (hd : decode Y.1.2.1 pc = .ok (.lconst i, 1)) (hv : Int64.ofNat (i : Nat) = v) (k : jJ l G Y d bc bs n (pc + 1) ls (.long v :: st) h K) : jJ l G Y d bc bs n pc ls st h K :=
  jJ.s k (fun L stR hst => ⟨.long v :: stR, ⟨_, _, rfl, rfl, hst⟩, fun p e R s m args below meth c H locs cells slots Q lsR hx hb w => lv_lconst hx hb hd hv w⟩)
theorem J_null (hd : decode Y.1.2.1 pc = .ok (.aconst_null, 1)) (k : jJ l G Y d bc bs n (pc + 1) ls (.null :: st) h K) : jJ l G Y d bc bs n pc ls st h K :=
  jJ.s k (fun L stR hst => ⟨.null :: stR, ⟨_, _, rfl, rfl, hst⟩, fun p e R s m args below meth c H locs cells slots Q lsR hx hb w => lv_null hx hb hd w⟩)
theorem J_iadd {x y : Int32} (hd : decode Y.1.2.1 pc = .ok (.iadd, 1)) (k : jJ l G Y d bc bs n (pc + 1) ls (.int (x + y) :: st) h K) : jJ l G Y d bc bs n pc ls (.int y :: .int x :: st) h K :=
  jJ.s k (fun L stR hst => by
    obtain ⟨_, e1, q1⟩ := hst.i
    obtain ⟨_, e2, q2⟩ := q1.i
    subst e2; subst e1
    exact ⟨_, q2.ic, fun p e R s m args below meth c H locs cells slots Q lsR hx hb w => lv_iadd hx hb hd w⟩)
theorem J_isub {x y : Int32} (hd : decode Y.1.2.1 pc = .ok (.isub, 1)) (k : jJ l G Y d bc bs n (pc + 1) ls (.int (x - y) :: st) h K) : jJ l G Y d bc bs n pc ls (.int y :: .int x :: st) h K :=
  jJ.s k (fun L stR hst => by
    obtain ⟨_, e1, q1⟩ := hst.i
    obtain ⟨_, e2, q2⟩ := q1.i
    subst e2; subst e1
    exact ⟨_, q2.ic, fun p e R s m args below meth c H locs cells slots Q lsR hx hb w => lv_isub hx hb hd w⟩)
theorem J_imul {x y : Int32} (hd : decode Y.1.2.1 pc = .ok (.imul, 1)) (k : jJ l G Y d bc bs n (pc + 1) ls (.int (x * y) :: st) h K) : jJ l G Y d bc bs n pc ls (.int y :: .int x :: st) h K :=
  jJ.s k (fun L stR hst => by
    obtain ⟨_, e1, q1⟩ := hst.i
    obtain ⟨_, e2, q2⟩ := q1.i
    subst e2; subst e1
    exact ⟨_, q2.ic, fun p e R s m args below meth c H locs cells slots Q lsR hx hb w => lv_imul hx hb hd w⟩)
theorem J_iand {x y : Int32} (hd : decode Y.1.2.1 pc = .ok (.iand, 1)) (k : jJ l G Y d bc bs n (pc + 1) ls (.int (x &&& y) :: st) h K) : jJ l G Y d bc bs n pc ls (.int y :: .int x :: st) h K :=
  jJ.s k (fun L stR hst => by
    obtain ⟨_, e1, q1⟩ := hst.i
    obtain ⟨_, e2, q2⟩ := q1.i
    subst e2; subst e1
    exact ⟨_, q2.ic, fun p e R s m args below meth c H locs cells slots Q lsR hx hb w => lv_iand hx hb hd w⟩)
theorem J_ior {x y : Int32} (hd : decode Y.1.2.1 pc = .ok (.ior, 1)) (k : jJ l G Y d bc bs n (pc + 1) ls (.int (x ||| y) :: st) h K) : jJ l G Y d bc bs n pc ls (.int y :: .int x :: st) h K :=
  jJ.s k (fun L stR hst => by
    obtain ⟨_, e1, q1⟩ := hst.i
    obtain ⟨_, e2, q2⟩ := q1.i
    subst e2; subst e1
    exact ⟨_, q2.ic, fun p e R s m args below meth c H locs cells slots Q lsR hx hb w => lv_ior hx hb hd w⟩)
theorem J_idiv {x y : Int32} (hd : decode Y.1.2.1 pc = .ok (.idiv, 1)) (hne : ¬ y = 0) (k : jJ l G Y d bc bs n (pc + 1) ls (.int (x / y) :: st) h K) : jJ l G Y d bc bs n pc ls (.int y :: .int x :: st) h K :=
  jJ.s k (fun L stR hst => by
    obtain ⟨_, e1, q1⟩ := hst.i
    obtain ⟨_, e2, q2⟩ := q1.i
    subst e2; subst e1
    exact ⟨_, q2.ic, fun p e R s m args below meth c H locs cells slots Q lsR hx hb w => lv_idiv hx hb hd hne w⟩)
theorem J_irem {x y : Int32} (hd : decode Y.1.2.1 pc = .ok (.irem, 1)) (hne : ¬ y = 0) (k : jJ l G Y d bc bs n (pc + 1) ls (.int (x - x / y * y) :: st) h K) : jJ l G Y d bc bs n pc ls (.int y :: .int x :: st) h K :=
  jJ.s k (fun L stR hst => by
    obtain ⟨_, e1, q1⟩ := hst.i
    obtain ⟨_, e2, q2⟩ := q1.i
    subst e2; subst e1
    exact ⟨_, q2.ic, fun p e R s m args below meth c H locs cells slots Q lsR hx hb w => lv_irem hx hb hd hne w⟩)
theorem J_ishl {x y : Int32} (hd : decode Y.1.2.1 pc = .ok (.ishl, 1)) (k : jJ l G Y d bc bs n (pc + 1) ls (.int (x <<< (y &&& 31)) :: st) h K) : jJ l G Y d bc bs n pc ls (.int y :: .int x :: st) h K :=
  jJ.s k (fun L stR hst => by
    obtain ⟨_, e1, q1⟩ := hst.i
    obtain ⟨_, e2, q2⟩ := q1.i
    subst e2; subst e1
    exact ⟨_, q2.ic, fun p e R s m args below meth c H locs cells slots Q lsR hx hb w => lv_ishl hx hb hd w⟩)
theorem J_ishr {x y : Int32} (hd : decode Y.1.2.1 pc = .ok (.ishr, 1)) (k : jJ l G Y d bc bs n (pc + 1) ls (.int (x >>> (y &&& 31)) :: st) h K) : jJ l G Y d bc bs n pc ls (.int y :: .int x :: st) h K :=
  jJ.s k (fun L stR hst => by
    obtain ⟨_, e1, q1⟩ := hst.i
    obtain ⟨_, e2, q2⟩ := q1.i
    subst e2; subst e1
    exact ⟨_, q2.ic, fun p e R s m args below meth c H locs cells slots Q lsR hx hb w => lv_ishr hx hb hd w⟩)
theorem J_iushr {x y v : Int32} (hd : decode Y.1.2.1 pc = .ok (.iushr, 1)) (hv : (x.toUInt32 >>> (y.toUInt32 &&& Int32.toUInt32 31)).toInt32 = v) (k : jJ l G Y d bc bs n (pc + 1) ls (.int v :: st) h K) : jJ l G Y d bc bs n pc ls (.int y :: .int x :: st) h K :=
  jJ.s k (fun L stR hst => by
    obtain ⟨_, e1, q1⟩ := hst.i
    obtain ⟨_, e2, q2⟩ := q1.i
    subst e2; subst e1
    exact ⟨_, q2.ic, fun p e R s m args below meth c H locs cells slots Q lsR hx hb w => lv_iushr hx hb hd hv w⟩)
theorem J_lor {x y : Int64} (hd : decode Y.1.2.1 pc = .ok (.lor, 1)) (k : jJ l G Y d bc bs n (pc + 1) ls (.long (x ||| y) :: st) h K) : jJ l G Y d bc bs n pc ls (.long y :: .long x :: st) h K :=
  jJ.s k (fun L stR hst => by
    obtain ⟨_, e1, q1⟩ := hst.lg
    obtain ⟨_, e2, q2⟩ := q1.lg
    subst e2; subst e1
    exact ⟨_, q2.lc, fun p e R s m args below meth c H locs cells slots Q lsR hx hb w => lv_lor hx hb hd w⟩)
theorem J_land {x y : Int64} (hd : decode Y.1.2.1 pc = .ok (.land, 1)) (k : jJ l G Y d bc bs n (pc + 1) ls (.long (x &&& y) :: st) h K) : jJ l G Y d bc bs n pc ls (.long y :: .long x :: st) h K :=
  jJ.s k (fun L stR hst => by
    obtain ⟨_, e1, q1⟩ := hst.lg
    obtain ⟨_, e2, q2⟩ := q1.lg
    subst e2; subst e1
    exact ⟨_, q2.lc, fun p e R s m args below meth c H locs cells slots Q lsR hx hb w => lv_land hx hb hd w⟩)
theorem J_lushr {x v : Int64} {y : Int32} (hd : decode Y.1.2.1 pc = .ok (.lushr, 1)) (hv : (x.toUInt64 >>> (y.toInt64.toUInt64 &&& Int64.toUInt64 63)).toInt64 = v) (k : jJ l G Y d bc bs n (pc + 1) ls (.long v :: st) h K) : jJ l G Y d bc bs n pc ls (.int y :: .long x :: st) h K :=
  jJ.s k (fun L stR hst => by
    obtain ⟨_, e1, q1⟩ := hst.i
    obtain ⟨_, e2, q2⟩ := q1.lg
    subst e2; subst e1
    exact ⟨_, q2.lc, fun p e R s m args below meth c H locs cells slots Q lsR hx hb w => lv_lushr hx hb hd hv w⟩)
theorem J_lshl {x v : Int64} {y : Int32} (hd : decode Y.1.2.1 pc = .ok (.lshl, 1)) (hv : x <<< (y.toInt64 &&& 63) = v) (k : jJ l G Y d bc bs n (pc + 1) ls (.long v :: st) h K) : jJ l G Y d bc bs n pc ls (.int y :: .long x :: st) h K :=
  jJ.s k (fun L stR hst => by
    obtain ⟨_, e1, q1⟩ := hst.i
    obtain ⟨_, e2, q2⟩ := q1.lg
    subst e2; subst e1
    exact ⟨_, q2.lc, fun p e R s m args below meth c H locs cells slots Q lsR hx hb w => lv_lshl hx hb hd hv w⟩)
theorem J_lshr {x v : Int64} {y : Int32} (hd : decode Y.1.2.1 pc = .ok (.lshr, 1)) (hv : x >>> (y.toInt64 &&& 63) = v) (k : jJ l G Y d bc bs n (pc + 1) ls (.long v :: st) h K) : jJ l G Y d bc bs n pc ls (.int y :: .long x :: st) h K :=
  jJ.s k (fun L stR hst => by
    obtain ⟨_, e1, q1⟩ := hst.i
    obtain ⟨_, e2, q2⟩ := q1.lg
    subst e2; subst e1
    exact ⟨_, q2.lc, fun p e R s m args below meth c H locs cells slots Q lsR hx hb w => lv_lshr hx hb hd hv w⟩)
theorem J_i2l {x : Int32} (hd : decode Y.1.2.1 pc = .ok (.i2l, 1)) (k : jJ l G Y d bc bs n (pc + 1) ls (.long x.toInt64 :: st) h K) : jJ l G Y d bc bs n pc ls (.int x :: st) h K :=
  jJ.s k (fun L stR hst => by
    obtain ⟨_, e1, q1⟩ := hst.i
    subst e1
    exact ⟨_, q1.lc, fun p e R s m args below meth c H locs cells slots Q lsR hx hb w => lv_i2l hx hb hd rfl w⟩)
theorem J_l2i {x : Int64} (hd : decode Y.1.2.1 pc = .ok (.l2i, 1)) (k : jJ l G Y d bc bs n (pc + 1) ls (.int x.toInt32 :: st) h K) : jJ l G Y d bc bs n pc ls (.long x :: st) h K :=
  jJ.s k (fun L stR hst => by
    obtain ⟨_, e1, q1⟩ := hst.lg
    subst e1
    exact ⟨_, q1.ic, fun p e R s m args below meth c H locs cells slots Q lsR hx hb w => lv_l2i hx hb hd rfl w⟩)
theorem J_dup {v : Value} (hd : decode Y.1.2.1 pc = .ok (.dup, 1)) (hc : v.category = 1) (k : jJ l G Y d bc bs n (pc + 1) ls (v :: v :: st) h K) : jJ l G Y d bc bs n pc ls (v :: st) h K :=
  jJ.s k (fun L stR hst => by
    obtain ⟨w, ws, e1, h1, q1⟩ := hst.c
    subst e1
    exact ⟨_, ⟨_, _, rfl, h1, ⟨_, _, rfl, h1, q1⟩⟩, fun p e R s m args below meth c H locs cells slots Q lsR hx hb w => lv_dup hx hb hd (h1.cat.trans hc) w⟩)
theorem J_dup2 {v u : Value} (hd : decode Y.1.2.1 pc = .ok (.dup2, 1)) (hc : v.category = 1) (hc2 : u.category = 1) (k : jJ l G Y d bc bs n (pc + 1) ls (v :: u :: v :: u :: st) h K) : jJ l G Y d bc bs n pc ls (v :: u :: st) h K :=
  jJ.s k (fun L stR hst => by
    obtain ⟨w, ws, e1, h1, q1⟩ := hst.c
    obtain ⟨w2, ws2, e2, h2, q2⟩ := q1.c
    subst e2; subst e1
    exact ⟨_, ⟨_, _, rfl, h1, ⟨_, _, rfl, h2, ⟨_, _, rfl, h1, ⟨_, _, rfl, h2, q2⟩⟩⟩⟩, fun p e R s m args below meth c H locs cells slots Q lsR hx hb w => lv_dup2_11 hx hb hd (h1.cat.trans hc) (h2.cat.trans hc2) w⟩)
end JR
end
section
/-- all that the real locals hold -/
def jall (lsR : Array Slot) : List (Nat × Value) := (List.range lsR.size).filterMap fun i => match (lsR[i]? : Option Slot) with
  | some (Slot.val w) => some (i, w)
  | _ => none
theorem jall_mem {lsR : Array Slot} {i : Nat} {w : Value} (h : lsR[i]? = some (.val w)) : (i, w) ∈ jall lsR :=
  List.mem_filterMap.mpr ⟨i, List.mem_range.mpr (Array.getElem?_eq_some_iff.mp h).1, by rw [h]⟩
theorem jall_has {lsR : Array Slot} {nL : Nat} (hz : lsR.size = nL) (hw : lv_wf lsR) : lv_has lsR nL (jall lsR) := by
  refine ⟨hz, hw, fun q hq => ?_⟩
  obtain ⟨i, _, hi⟩ := List.mem_filterMap.mp hq
  split at hi
  · rename_i w hw'
    cases hi; exact hw'
  · cases hi
/-- no long reaches into the place i -/
def jnl (ls : List (Option Value)) (i : Nat) : Bool := match i with
  | 0 => true
  | j + 1 => match ls[j]? with
    | some (some v) => v.category == 1
    | _ => true
theorem jlv.st1 {L : List Nat} {ls : List (Option Value)} {lsR ls' : Array Slot} {nL i : Nat} {v w : Value} (hl : jlv L ls lsR nL) (hn : jnl ls i = true) (hv : jv L v w) (h' : lv_has ls' nL ((i, w) :: (jall lsR).filter (fun q => !(q.1 == i) && !(q.1 + 1 == i && q.2.category == 2)))) : jlv L (ls.set i (some v)) ls' nL := by
  refine ⟨h'.1, h'.2.1, fun j u hu => ?_⟩
  by_cases e : j = i
  · subst e
    have hlt : j < ls.length := by
      have := (List.getElem?_eq_some_iff.mp hu).1
      simpa using this
    rw [List.getElem?_set_self hlt] at hu
    cases hu
    exact ⟨w, hv, h'.2.2 (j, w) List.mem_cons_self⟩
  · rw [List.getElem?_set_ne (Ne.symm e)] at hu
    obtain ⟨w', q1, q2⟩ := hl.2.2 j u hu
    refine ⟨w', q1, h'.2.2 (j, w') (List.mem_cons_of_mem _ (List.mem_filter.mpr ⟨jall_mem q2, ?_⟩))⟩
    by_cases e2 : j + 1 = i
    · subst e2
      have : jnl ls (j + 1) = (u.category == 1) := by simp only [jnl, hu]
      rw [this] at hn
      have hc : w'.category = 1 := by rw [q1.cat]; simpa using hn
      simp [hc]
    · simp [e, e2]
section JL
variable {l : Launch} {G : jG} {Y : jY} {d bc bs n pc : Nat} {ls : List (Option Value)} {st : List Value} {h : jH} {K : jK}
theorem J_iload_n {k : Fin 4} {x : Int32} (hd : decode Y.1.2.1 pc = .ok (.iload_n k, 1)) (hv : ls[(k : Nat)]? = some (some (.int x))) (kk : jJ l G Y d bc bs n (pc + 1) ls (.int x :: st) h K) : jJ l G Y d bc bs n pc ls st h K := by
  intro p e R s m args below meth c A H locs cells slots C S L0 L lsR stR C0 hR hL hS hl hst h1 h2 h3 h4
  obtain ⟨w, q1, q2⟩ := hl.2.2 _ _ hv
  rw [show w = _ from q1] at q2
  exact lv_iload_n C0.1 C0.2.1 hd rfl q2 (kk p e R s m args below meth c A H locs cells slots C S L0 L lsR (.int x :: stR) C0 hR hL hS hl ⟨_, _, rfl, rfl, hst⟩ h1 h2 h3 h4)
theorem J_iload {i : Nat} {x : Int32} (hd : decode Y.1.2.1 pc = .ok (.iload i, 2)) (hv : ls[i]? = some (some (.int x))) (kk : jJ l G Y d bc bs n (pc + 2) ls (.int x :: st) h K) : jJ l G Y d bc bs n pc ls st h K := by
  intro p e R s m args below meth c A H locs cells slots C S L0 L lsR stR C0 hR hL hS hl hst h1 h2 h3 h4
  obtain ⟨w, q1, q2⟩ := hl.2.2 _ _ hv
  rw [show w = _ from q1] at q2
  exact lv_iload C0.1 C0.2.1 hd q2 (kk p e R s m args below meth c A H locs cells slots C S L0 L lsR (.int x :: stR) C0 hR hL hS hl ⟨_, _, rfl, rfl, hst⟩ h1 h2 h3 h4)
theorem J_lload_n {k : Fin 4} {x : Int64} (hd : decode Y.1.2.1 pc = .ok (.lload_n k, 1)) (hv : ls[(k : Nat)]? = some (some (.long x))) (kk : jJ l G Y d bc bs n (pc + 1) ls (.long x :: st) h K) : jJ l G Y d bc bs n pc ls st h K := by
  intro p e R s m args below meth c A H locs cells slots C S L0 L lsR stR C0 hR hL hS hl hst h1 h2 h3 h4
  obtain ⟨w, q1, q2⟩ := hl.2.2 _ _ hv
  rw [show w = _ from q1] at q2
  exact lv_lload_n C0.1 C0.2.1 hd rfl q2 (kk p e R s m args below meth c A H locs cells slots C S L0 L lsR (.long x :: stR) C0 hR hL hS hl ⟨_, _, rfl, rfl, hst⟩ h1 h2 h3 h4)
theorem J_aload_n {k : Fin 4} {x : Nat} (hd : decode Y.1.2.1 pc = .ok (.aload_n k, 1)) (hv : ls[(k : Nat)]? = some (some (.ref x))) (kk : jJ l G Y d bc bs n (pc + 1) ls (.ref x :: st) h K) : jJ l G Y d bc bs n pc ls st h K := by
  intro p e R s m args below meth c A H locs cells slots C S L0 L lsR stR C0 hR hL hS hl hst h1 h2 h3 h4
  obtain ⟨w, ⟨a, q1, q3⟩, q2⟩ := hl.2.2 _ _ hv
  rw [q3] at q2
  exact lv_aload_n C0.1 C0.2.1 hd rfl q2 (kk p e R s m args below meth c A H locs cells slots C S L0 L lsR (.ref a :: stR) C0 hR hL hS hl ⟨_, _, rfl, ⟨a, q1, rfl⟩, hst⟩ h1 h2 h3 h4)
theorem J_aload {i : Nat} {x : Nat} (hd : decode Y.1.2.1 pc = .ok (.aload i, 2)) (hv : ls[i]? = some (some (.ref x))) (kk : jJ l G Y d bc bs n (pc + 2) ls (.ref x :: st) h K) : jJ l G Y d bc bs n pc ls st h K := by
  intro p e R s m args below meth c A H locs cells slots C S L0 L lsR stR C0 hR hL hS hl hst h1 h2 h3 h4
  obtain ⟨w, ⟨a, q1, q3⟩, q2⟩ := hl.2.2 _ _ hv
  rw [q3] at q2
  exact lv_aload C0.1 C0.2.1 hd q2 (kk p e R s m args below meth c A H locs cells slots C S L0 L lsR (.ref a :: stR) C0 hR hL hS hl ⟨_, _, rfl, ⟨a, q1, rfl⟩, hst⟩ h1 h2 h3 h4)
theorem J_aload_nN {k : Fin 4} (hd : decode Y.1.2.1 pc = .ok (.aload_n k, 1)) (hv : ls[(k : Nat)]? = some (some .null)) (kk : jJ l G Y d bc bs n (pc + 1) ls (.null :: st) h K) : jJ l G Y d bc bs n pc ls st h K := by
  intro p e R s m args below meth c A H locs cells slots C S L0 L lsR stR C0 hR hL hS hl hst h1 h2 h3 h4
  obtain ⟨w, q1, q2⟩ := hl.2.2 _ _ hv
  rw [show w = _ from q1] at q2
  exact lv_aload_nN C0.1 C0.2.1 hd rfl q2 (kk p e R s m args below meth c A H locs cells slots C S L0 L lsR (.null :: stR) C0 hR hL hS hl ⟨_, _, rfl, rfl, hst⟩ h1 h2 h3 h4)
theorem J_aloadN {i : Nat} (hd : decode Y.1.2.1 pc = .ok (.aload i, 2)) (hv : ls[i]? = some (some .null)) (kk : jJ l G Y d bc bs n (pc + 2) ls (.null :: st) h K) : jJ l G Y d bc bs n pc ls st h K := by
  intro p e R s m args below meth c A H locs cells slots C S L0 L lsR stR C0 hR hL hS hl hst h1 h2 h3 h4
  obtain ⟨w, q1, q2⟩ := hl.2.2 _ _ hv
  rw [show w = _ from q1] at q2
  exact lv_aloadN C0.1 C0.2.1 hd q2 (kk p e R s m args below meth c A H locs cells slots C S L0 L lsR (.null :: stR) C0 hR hL hS hl ⟨_, _, rfl, rfl, hst⟩ h1 h2 h3 h4)
theorem J_istore_n {k : Fin 4} {x : Int32} (hd : decode Y.1.2.1 pc = .ok (.istore_n k, 1)) (hi : (k : Nat) < Y.1.2.2.1) (hn : jnl ls k = true) (kk : jJ l G Y d bc bs n (pc + 1) (ls.set k (some (.int x))) st h K) : jJ l G Y d bc bs n pc ls (.int x :: st) h K := by
  intro p e R s m args below meth c A H locs cells slots C S L0 L lsR stR C0 hR hL hS hl hst h1 h2 h3 h4
  obtain ⟨ws, e1, q⟩ := hst.i
  subst e1
  exact lv_istore_n C0.1 C0.2.1 hd rfl (jall_has hl.1 hl.2.1) hi rfl fun ls' h' => kk p e R s m args below meth c A H locs cells slots C S L0 L ls' ws C0 hR hL hS (hl.st1 hn rfl h') q h1 h2 h3 h4
theorem J_istore {i : Nat} {x : Int32} (hd : decode Y.1.2.1 pc = .ok (.istore i, 2)) (hi : i < Y.1.2.2.1) (hn : jnl ls i = true) (kk : jJ l G Y d bc bs n (pc + 2) (ls.set i (some (.int x))) st h K) : jJ l G Y d bc bs n pc ls (.int x :: st) h K := by
  intro p e R s m args below meth c A H locs cells slots C S L0 L lsR stR C0 hR hL hS hl hst h1 h2 h3 h4
  obtain ⟨ws, e1, q⟩ := hst.i
  subst e1
  exact lv_istore C0.1 C0.2.1 hd (jall_has hl.1 hl.2.1) hi rfl fun ls' h' => kk p e R s m args below meth c A H locs cells slots C S L0 L ls' ws C0 hR hL hS (hl.st1 hn rfl h') q h1 h2 h3 h4
theorem J_astore_n {k : Fin 4} {x : Nat} (hd : decode Y.1.2.1 pc = .ok (.astore_n k, 1)) (hi : (k : Nat) < Y.1.2.2.1) (hn : jnl ls k = true) (kk : jJ l G Y d bc bs n (pc + 1) (ls.set k (some (.ref x))) st h K) : jJ l G Y d bc bs n pc ls (.ref x :: st) h K := by
  intro p e R s m args below meth c A H locs cells slots C S L0 L lsR stR C0 hR hL hS hl hst h1 h2 h3 h4
  obtain ⟨a, ws, e1, qa, q⟩ := hst.r
  subst e1
  exact lv_astore_n C0.1 C0.2.1 hd rfl (jall_has hl.1 hl.2.1) hi rfl fun ls' h' => kk p e R s m args below meth c A H locs cells slots C S L0 L ls' ws C0 hR hL hS (hl.st1 hn ⟨a, qa, rfl⟩ h') q h1 h2 h3 h4
theorem J_astore {i : Nat} {x : Nat} (hd : decode Y.1.2.1 pc = .ok (.astore i, 2)) (hi : i < Y.1.2.2.1) (hn : jnl ls i = true) (kk : jJ l G Y d bc bs n (pc + 2) (ls.set i (some (.ref x))) st h K) : jJ l G Y d bc bs n pc ls (.ref x :: st) h K := by
  intro p e R s m args below meth c A H locs cells slots C S L0 L lsR stR C0 hR hL hS hl hst h1 h2 h3 h4
  obtain ⟨a, ws, e1, qa, q⟩ := hst.r
  subst e1
  exact lv_astore C0.1 C0.2.1 hd (jall_has hl.1 hl.2.1) hi rfl fun ls' h' => kk p e R s m args below meth c A H locs cells slots C S L0 L ls' ws C0 hR hL hS (hl.st1 hn ⟨a, qa, rfl⟩ h') q h1 h2 h3 h4
theorem J_astore_nN {k : Fin 4} (hd : decode Y.1.2.1 pc = .ok (.astore_n k, 1)) (hi : (k : Nat) < Y.1.2.2.1) (hn : jnl ls k = true) (kk : jJ l G Y d bc bs n (pc + 1) (ls.set k (some .null)) st h K) : jJ l G Y d bc bs n pc ls (.null :: st) h K := by
  intro p e R s m args below meth c A H locs cells slots C S L0 L lsR stR C0 hR hL hS hl hst h1 h2 h3 h4
  obtain ⟨ws, e1, q⟩ := hst.n
  subst e1
  exact lv_astore_nN C0.1 C0.2.1 hd rfl (jall_has hl.1 hl.2.1) hi rfl fun ls' h' => kk p e R s m args below meth c A H locs cells slots C S L0 L ls' ws C0 hR hL hS (hl.st1 hn rfl h') q h1 h2 h3 h4
theorem J_astoreN {i : Nat} (hd : decode Y.1.2.1 pc = .ok (.astore i, 2)) (hi : i < Y.1.2.2.1) (hn : jnl ls i = true) (kk : jJ l G Y d bc bs n (pc + 2) (ls.set i (some .null)) st h K) : jJ l G Y d bc bs n pc ls (.null :: st) h K := by
  intro p e R s m args below meth c A H locs cells slots C S L0 L lsR stR C0 hR hL hS hl hst h1 h2 h3 h4
  obtain ⟨ws, e1, q⟩ := hst.n
  subst e1
  exact lv_astoreN C0.1 C0.2.1 hd (jall_has hl.1 hl.2.1) hi rfl fun ls' h' => kk p e R s m args below meth c A H locs cells slots C S L0 L ls' ws C0 hR hL hS (hl.st1 hn rfl h') q h1 h2 h3 h4
theorem J_iinc {i : Nat} {c0 : Int} {x v : Int32} (hd : decode Y.1.2.1 pc = .ok (.iinc i c0, 3)) (hx : ls[i]? = some (some (.int x))) (hv : x + Int32.ofInt c0 = v) (hi : i < Y.1.2.2.1) (hn : jnl ls i = true) (kk : jJ l G Y d bc bs n (pc + 3) (ls.set i (some (.int v))) st h K) : jJ l G Y d bc bs n pc ls st h K := by
  intro p e R s m args below meth c A H locs cells slots C S L0 L lsR stR C0 hR hL hS hl hst h1 h2 h3 h4
  obtain ⟨w, q1, q2⟩ := hl.2.2 _ _ hx
  rw [show w = _ from q1] at q2
  obtain ⟨k, hk⟩ := List.getElem?_of_mem (jall_mem q2)
  exact lv_iinc C0.1 C0.2.1 hd (jall_has hl.1 hl.2.1) hk hv hi rfl fun ls' h' => kk p e R s m args below meth c A H locs cells slots C S L0 L ls' stR C0 hR hL hS (hl.st1 hn rfl h') hst h1 h2 h3 h4
theorem jJ.b {P1 P2 : Prop} {pc1 pc2 : Nat} {st' : List Value} (k1 : P1 → jJ l G Y d bc bs n pc1 ls st' h K) (k2 : P2 → jJ l G Y d bc bs n pc2 ls st' h K)
    (hh : ∀ (L : List Nat) (stR : List Value), jvs L st stR → ∃ stR', jvs L st' stR' ∧ ∀ (p : Program) (e : Env) (R : Room) (s : State) (m : MethodId) (args : Array Value) (below : List Frame) (meth : Method) (c : Code) (H : Heap) (locs : List Loc) (cells slots : Nat) (Q : State → Prop) (lsR : Array Slot), p.tables.exec = Jvm.exec → c.code = Y.1.2.1 → (P1 → W p l e R s m args below meth c H locs cells slots Q (F0 m pc1 lsR stR')) → (P2 → W p l e R s m args below meth c H locs cells slots Q (F0 m pc2 lsR stR')) → W p l e R s m args below meth c H locs cells slots Q (F0 m pc lsR stR)) : jJ l G Y d bc bs n pc ls st h K := by
  intro p e R s m args below meth c A H locs cells slots C S L0 L lsR stR C0 hR hL hS hl hst h1 h2 h3 h4
  obtain ⟨stR', q1, q2⟩ := hh L stR hst
  exact q2 p e R s m args below meth c H locs cells slots _ lsR C0.1 C0.2.1 (fun z => k1 z p e R s m args below meth c A H locs cells slots C S L0 L lsR stR' C0 hR hL hS hl q1 h1 h2 h3 h4) (fun z => k2 z p e R s m args below meth c A H locs cells slots C S L0 L lsR stR' C0 hR hL hS hl q1 h1 h2 h3 h4)
theorem J_if_eq {x : Int32} {off : Int} {tgt : Nat} (hd : decode Y.1.2.1 pc = .ok (.ifCond .eq off, 3)) (ht : (pc : Int) + off = (tgt : Int)) (kt : x = 0 → jJ l G Y d bc bs n tgt ls st h K) (kf : ¬ x = 0 → jJ l G Y d bc bs n (pc + 3) ls st h K) : jJ l G Y d bc bs n pc ls (.int x :: st) h K :=
  jJ.b kt kf (fun L stR hst => by
    obtain ⟨_, e1, q1⟩ := hst.i
    subst e1
    exact ⟨_, q1, fun p e R s m args below meth c H locs cells slots Q lsR hx hb w1 w2 => lv_if_eq hx hb hd ht w1 w2⟩)
theorem J_icmp_eq {x y : Int32} {off : Int} {tgt : Nat} (hd : decode Y.1.2.1 pc = .ok (.if_icmp .eq off, 3)) (ht : (pc : Int) + off = (tgt : Int)) (kt : x = y → jJ l G Y d bc bs n tgt ls st h K) (kf : ¬ x = y → jJ l G Y d bc bs n (pc + 3) ls st h K) : jJ l G Y d bc bs n pc ls (.int y :: .int x :: st) h K :=
  jJ.b kt kf (fun L stR hst => by
    obtain ⟨_, e1, q1⟩ := hst.i
    obtain ⟨_, e2, q2⟩ := q1.i
    subst e2; subst e1
    exact ⟨_, q2, fun p e R s m args below meth c H locs cells slots Q lsR hx hb w1 w2 => lv_icmp_eq hx hb hd ht w1 w2⟩)
theorem J_if_ne {x : Int32} {off : Int} {tgt : Nat} (hd : decode Y.1.2.1 pc = .ok (.ifCond .ne off, 3)) (ht : (pc : Int) + off = (tgt : Int)) (kt : ¬ x = 0 → jJ l G Y d bc bs n tgt ls st h K) (kf : x = 0 → jJ l G Y d bc bs n (pc + 3) ls st h K) : jJ l G Y d bc bs n pc ls (.int x :: st) h K :=
  jJ.b kt kf (fun L stR hst => by
    obtain ⟨_, e1, q1⟩ := hst.i
    subst e1
    exact ⟨_, q1, fun p e R s m args below meth c H locs cells slots Q lsR hx hb w1 w2 => lv_if_ne hx hb hd ht w1 w2⟩)
theorem J_icmp_ne {x y : Int32} {off : Int} {tgt : Nat} (hd : decode Y.1.2.1 pc = .ok (.if_icmp .ne off, 3)) (ht : (pc : Int) + off = (tgt : Int)) (kt : ¬ x = y → jJ l G Y d bc bs n tgt ls st h K) (kf : x = y → jJ l G Y d bc bs n (pc + 3) ls st h K) : jJ l G Y d bc bs n pc ls (.int y :: .int x :: st) h K :=
  jJ.b kt kf (fun L stR hst => by
    obtain ⟨_, e1, q1⟩ := hst.i
    obtain ⟨_, e2, q2⟩ := q1.i
    subst e2; subst e1
    exact ⟨_, q2, fun p e R s m args below meth c H locs cells slots Q lsR hx hb w1 w2 => lv_icmp_ne hx hb hd ht w1 w2⟩)
theorem J_if_lt {x : Int32} {off : Int} {tgt : Nat} (hd : decode Y.1.2.1 pc = .ok (.ifCond .lt off, 3)) (ht : (pc : Int) + off = (tgt : Int)) (kt : x < 0 → jJ l G Y d bc bs n tgt ls st h K) (kf : ¬ x < 0 → jJ l G Y d bc bs n (pc + 3) ls st h K) : jJ l G Y d bc bs n pc ls (.int x :: st) h K :=
  jJ.b kt kf (fun L stR hst => by
    obtain ⟨_, e1, q1⟩ := hst.i
    subst e1
    exact ⟨_, q1, fun p e R s m args below meth c H locs cells slots Q lsR hx hb w1 w2 => lv_if_lt hx hb hd ht w1 w2⟩)
theorem J_icmp_lt {x y : Int32} {off : Int} {tgt : Nat} (hd : decode Y.1.2.1 pc = .ok (.if_icmp .lt off, 3)) (ht : (pc : Int) + off = (tgt : Int)) (kt : x < y → jJ l G Y d bc bs n tgt ls st h K) (kf : ¬ x < y → jJ l G Y d bc bs n (pc + 3) ls st h K) : jJ l G Y d bc bs n pc ls (.int y :: .int x :: st) h K :=
  jJ.b kt kf (fun L stR hst => by
    obtain ⟨_, e1, q1⟩ := hst.i
    obtain ⟨_, e2, q2⟩ := q1.i
    subst e2; subst e1
    exact ⟨_, q2, fun p e R s m args below meth c H locs cells slots Q lsR hx hb w1 w2 => lv_icmp_lt hx hb hd ht w1 w2⟩)
theorem J_if_ge {x : Int32} {off : Int} {tgt : Nat} (hd : decode Y.1.2.1 pc = .ok (.ifCond .ge off, 3)) (ht : (pc : Int) + off = (tgt : Int)) (kt : 0 ≤ x → jJ l G Y d bc bs n tgt ls st h K) (kf : ¬ 0 ≤ x → jJ l G Y d bc bs n (pc + 3) ls st h K) : jJ l G Y d bc bs n pc ls (.int x :: st) h K :=
  jJ.b kt kf (fun L stR hst => by
    obtain ⟨_, e1, q1⟩ := hst.i
    subst e1
    exact ⟨_, q1, fun p e R s m args below meth c H locs cells slots Q lsR hx hb w1 w2 => lv_if_ge hx hb hd ht w1 w2⟩)
theorem J_icmp_ge {x y : Int32} {off : Int} {tgt : Nat} (hd : decode Y.1.2.1 pc = .ok (.if_icmp .ge off, 3)) (ht : (pc : Int) + off = (tgt : Int)) (kt : y ≤ x → jJ l G Y d bc bs n tgt ls st h K) (kf : ¬ y ≤ x → jJ l G Y d bc bs n (pc + 3) ls st h K) : jJ l G Y d bc bs n pc ls (.int y :: .int x :: st) h K :=
  jJ.b kt kf (fun L stR hst => by
    obtain ⟨_, e1, q1⟩ := hst.i
    obtain ⟨_, e2, q2⟩ := q1.i
    subst e2; subst e1
    exact ⟨_, q2, fun p e R s m args below meth c H locs cells slots Q lsR hx hb w1 w2 => lv_icmp_ge hx hb hd ht w1 w2⟩)
theorem J_if_gt {x : Int32} {off : Int} {tgt : Nat} (hd : decode Y.1.2.1 pc = .ok (.ifCond .gt off, 3)) (ht : (pc : Int) + off = (tgt : Int)) (kt : 0 < x → jJ l G Y d bc bs n tgt ls st h K) (kf : ¬ 0 < x → jJ l G Y d bc bs n (pc + 3) ls st h K) : jJ l G Y d bc bs n pc ls (.int x :: st) h K :=
  jJ.b kt kf (fun L stR hst => by
    obtain ⟨_, e1, q1⟩ := hst.i
    subst e1
    exact ⟨_, q1, fun p e R s m args below meth c H locs cells slots Q lsR hx hb w1 w2 => lv_if_gt hx hb hd ht w1 w2⟩)
theorem J_icmp_gt {x y : Int32} {off : Int} {tgt : Nat} (hd : decode Y.1.2.1 pc = .ok (.if_icmp .gt off, 3)) (ht : (pc : Int) + off = (tgt : Int)) (kt : y < x → jJ l G Y d bc bs n tgt ls st h K) (kf : ¬ y < x → jJ l G Y d bc bs n (pc + 3) ls st h K) : jJ l G Y d bc bs n pc ls (.int y :: .int x :: st) h K :=
  jJ.b kt kf (fun L stR hst => by
    obtain ⟨_, e1, q1⟩ := hst.i
    obtain ⟨_, e2, q2⟩ := q1.i
    subst e2; subst e1
    exact ⟨_, q2, fun p e R s m args below meth c H locs cells slots Q lsR hx hb w1 w2 => lv_icmp_gt hx hb hd ht w1 w2⟩)
theorem J_if_le {x : Int32} {off : Int} {tgt : Nat} (hd : decode Y.1.2.1 pc = .ok (.ifCond .le off, 3)) (ht : (pc : Int) + off = (tgt : Int)) (kt : x ≤ 0 → jJ l G Y d bc bs n tgt ls st h K) (kf : ¬ x ≤ 0 → jJ l G Y d bc bs n (pc + 3) ls st h K) : jJ l G Y d bc bs n pc ls (.int x :: st) h K :=
  jJ.b kt kf (fun L stR hst => by
    obtain ⟨_, e1, q1⟩ := hst.i
    subst e1
    exact ⟨_, q1, fun p e R s m args below meth c H locs cells slots Q lsR hx hb w1 w2 => lv_if_le hx hb hd ht w1 w2⟩)
theorem J_icmp_le {x y : Int32} {off : Int} {tgt : Nat} (hd : decode Y.1.2.1 pc = .ok (.if_icmp .le off, 3)) (ht : (pc : Int) + off = (tgt : Int)) (kt : x ≤ y → jJ l G Y d bc bs n tgt ls st h K) (kf : ¬ x ≤ y → jJ l G Y d bc bs n (pc + 3) ls st h K) : jJ l G Y d bc bs n pc ls (.int y :: .int x :: st) h K :=
  jJ.b kt kf (fun L stR hst => by
    obtain ⟨_, e1, q1⟩ := hst.i
    obtain ⟨_, e2, q2⟩ := q1.i
    subst e2; subst e1
    exact ⟨_, q2, fun p e R s m args below meth c H locs cells slots Q lsR hx hb w1 w2 => lv_icmp_le hx hb hd ht w1 w2⟩)
theorem J_goto {off : Int} {tgt : Nat} (hd : decode Y.1.2.1 pc = .ok (.goto off, 3)) (ht : (pc : Int) + off = (tgt : Int)) (k : jJ l G Y d bc bs n tgt ls st h K) : jJ l G Y d bc bs n pc ls st h K :=
  jJ.s k (fun L stR hst => ⟨_, hst, fun p e R s m args below meth c H locs cells slots Q lsR hx hb w => lv_goto hx hb hd ht w⟩)
theorem J_ifnull {x : Nat} {off : Int} (hd : decode Y.1.2.1 pc = .ok (.ifnull off, 3)) (k : jJ l G Y d bc bs n (pc + 3) ls st h K) : jJ l G Y d bc bs n pc ls (.ref x :: st) h K :=
  jJ.s k (fun L stR hst => by
    obtain ⟨_, _, e1, _, q1⟩ := hst.r
    subst e1
    exact ⟨_, q1, fun p e R s m args below meth c H locs cells slots Q lsR hx hb w => lv_ifnull hx hb hd w⟩)
theorem J_ifnullN {off : Int} {tgt : Nat} (hd : decode Y.1.2.1 pc = .ok (.ifnull off, 3)) (ht : (pc : Int) + off = (tgt : Int)) (k : jJ l G Y d bc bs n tgt ls st h K) : jJ l G Y d bc bs n pc ls (.null :: st) h K :=
  jJ.s k (fun L stR hst => by
    obtain ⟨_, e1, q1⟩ := hst.n
    subst e1
    exact ⟨_, q1, fun p e R s m args below meth c H locs cells slots Q lsR hx hb w => lv_ifnullN hx hb hd ht w⟩)
theorem J_ifnonnull {x : Nat} {off : Int} {tgt : Nat} (hd : decode Y.1.2.1 pc = .ok (.ifnonnull off, 3)) (ht : (pc : Int) + off = (tgt : Int)) (k : jJ l G Y d bc bs n tgt ls st h K) : jJ l G Y d bc bs n pc ls (.ref x :: st) h K :=
  jJ.s k (fun L stR hst => by
    obtain ⟨_, _, e1, _, q1⟩ := hst.r
    subst e1
    exact ⟨_, q1, fun p e R s m args below meth c H locs cells slots Q lsR hx hb w => lv_ifnonnull hx hb hd ht w⟩)
theorem J_ifnonnullN {off : Int} (hd : decode Y.1.2.1 pc = .ok (.ifnonnull off, 3)) (k : jJ l G Y d bc bs n (pc + 3) ls st h K) : jJ l G Y d bc bs n pc ls (.null :: st) h K :=
  jJ.s k (fun L stR hst => by
    obtain ⟨_, e1, q1⟩ := hst.n
    subst e1
    exact ⟨_, q1, fun p e R s m args below meth c H locs cells slots Q lsR hx hb w => lv_ifnonnullN hx hb hd w⟩)
theorem J_tableOut {dflt lo hi : Int} {offs : Array Int} {len : Nat} {x : Int32} {tgt : Nat} (hd : decode Y.1.2.1 pc = .ok (.tableswitch dflt lo hi offs, len)) (hr : x.toInt < lo ∨ hi < x.toInt) (ht : (pc : Int) + dflt = (tgt : Int)) (k : jJ l G Y d bc bs n tgt ls st h K) : jJ l G Y d bc bs n pc ls (.int x :: st) h K :=
  jJ.s k (fun L stR hst => by
    obtain ⟨_, e1, q1⟩ := hst.i
    subst e1
    exact ⟨_, q1, fun p e R s m args below meth c H locs cells slots Q lsR hx hb w => lv_tableOut hx hb hd hr ht w⟩)
theorem J_tableIn {dflt lo hi : Int} {offs : Array Int} {len : Nat} {x : Int32} {off : Int} {tgt : Nat} (hd : decode Y.1.2.1 pc = .ok (.tableswitch dflt lo hi offs, len)) (h1 : ¬ x.toInt < lo) (h2 : ¬ hi < x.toInt) (ho : offs[(x.toInt - lo).toNat]? = some off) (ht : (pc : Int) + off = (tgt : Int)) (k : jJ l G Y d bc bs n tgt ls st h K) : jJ l G Y d bc bs n pc ls (.int x :: st) h K :=
  jJ.s k (fun L stR hst => by
    obtain ⟨_, e1, q1⟩ := hst.i
    subst e1
    exact ⟨_, q1, fun p e R s m args below meth c H locs cells slots Q lsR hx hb w => lv_tableIn hx hb hd h1 h2 ho ht w⟩)
theorem J_lcmp {x y : Int64} (hd : decode Y.1.2.1 pc = .ok (.lcmp, 1)) (k : jJ l G Y d bc bs n (pc + 1) ls (.int (lg_cmp x y) :: st) h K) : jJ l G Y d bc bs n pc ls (.long y :: .long x :: st) h K :=
  jJ.s k (fun L stR hst => by
    obtain ⟨_, e1, q1⟩ := hst.lg
    obtain ⟨_, e2, q2⟩ := q1.lg
    subst e2; subst e1
    exact ⟨_, q2.ic, fun p e R s m args below meth c H locs cells slots Q lsR hx hb w => W.lcmp hx hb hd w⟩)
theorem J_ldc {index : Nat} {v : Int32} (hd : decode Y.1.2.1 pc = .ok (.ldc index, 2)) (hw : Cond.constant Y.1.1.cls index v ∈ lw_tbl) (kk : jJ l G Y d bc bs n (pc + 2) ls (.int v :: st) h K) : jJ l G Y d bc bs n pc ls st h K := by
  intro p e R s m args below meth c A H locs cells slots C S L0 L lsR stR C0 hR hL hS hl hst h1 h2 h3 h4
  exact lv_ldc C0.1 C0.2.1 C0.2.2.2.2.1 (C0.2.2.2.2.2.2.2.2.2.2.2.1.1 _ hw rfl args) hd (kk p e R s m args below meth c A H locs cells slots C S L0 L lsR (.int v :: stR) C0 hR hL hS hl ⟨_, _, rfl, rfl, hst⟩ h1 h2 h3 h4)
theorem J_ldcw {index : Nat} {v : Int32} (hd : decode Y.1.2.1 pc = .ok (.ldc_w index, 3)) (hw : Cond.constant Y.1.1.cls index v ∈ lw_tbl) (kk : jJ l G Y d bc bs n (pc + 3) ls (.int v :: st) h K) : jJ l G Y d bc bs n pc ls st h K := by
  intro p e R s m args below meth c A H locs cells slots C S L0 L lsR stR C0 hR hL hS hl hst h1 h2 h3 h4
  exact lv_ldcw C0.1 C0.2.1 C0.2.2.2.2.1 (C0.2.2.2.2.2.2.2.2.2.2.2.1.1 _ hw rfl args) hd (kk p e R s m args below meth c A H locs cells slots C S L0 L lsR (.int v :: stR) C0 hR hL hS hl ⟨_, _, rfl, rfl, hst⟩ h1 h2 h3 h4)
theorem J_ldc2 {index : Nat} {v : Int64} (hd : decode Y.1.2.1 pc = .ok (.ldc2_w index, 3)) (hw : Cond.constantLong Y.1.1.cls index v ∈ lw_tbl) (kk : jJ l G Y d bc bs n (pc + 3) ls (.long v :: st) h K) : jJ l G Y d bc bs n pc ls st h K := by
  intro p e R s m args below meth c A H locs cells slots C S L0 L lsR stR C0 hR hL hS hl hst h1 h2 h3 h4
  exact lv_ldc2 C0.1 C0.2.1 C0.2.2.2.2.1 (C0.2.2.2.2.2.2.2.2.2.2.2.1.1 _ hw rfl args) hd (kk p e R s m args below meth c A H locs cells slots C S L0 L lsR (.long v :: stR) C0 hR hL hS hl ⟨_, _, rfl, rfl, hst⟩ h1 h2 h3 h4)
end JL
end
section
theorem jw0 : ∀ w ∈ wsX00, w ∈ lw_tbl := by decide +kernel
theorem jw1 : ∀ w ∈ wsX10, w ∈ lw_tbl := by decide +kernel
theorem jw2 : ∀ w ∈ wsX20, w ∈ lw_tbl := by decide +kernel
theorem jw3 : ∀ w ∈ wsX30, w ∈ lw_tbl := by decide +kernel
theorem jw4 : ∀ w ∈ wsX40, w ∈ lw_tbl := by decide +kernel
theorem jw5 : ∀ w ∈ wsX50, w ∈ lw_tbl := by decide +kernel
theorem jw6 : ∀ w ∈ wsX60, w ∈ lw_tbl := by decide +kernel
theorem jw7 : ∀ w ∈ wsX70, w ∈ lw_tbl := by decide +kernel
theorem jgoodU (C : String) (T : u_T) (N : Nat) : ∀ w ∈ u_ws C T N, goodWord w = true := fun w hw => by
  obtain ⟨k, _, rfl⟩ := List.mem_map.mp hw
  unfold u_lay
  split <;> rfl
/-- the words of a class's fields -/
theorem jcls {ci : Nat} {q : vw_C} (h : vwCl[ci]? = some q) : (∀ w ∈ u_ws q.1 q.2.1 q.2.2, w ∈ lw_tbl) ∧ (∃ ty : Nat → FieldType, ∀ k, k < q.2.2 → parseFieldDescriptor (q.2.1 k).2.2.1 = some (ty k)) ∧ (∀ a, a < q.2.2 → ∀ b, b < q.2.2 → a ≠ b → (q.2.1 a).2.1 ≠ (q.2.1 b).2.1) ∧ ci < 8 := by
  match ci, h with
  | 0, h => cases h; exact ⟨jw0, ⟨tyX0, tyX0_ok⟩, nmX0, by decide⟩
  | 1, h => cases h; exact ⟨jw1, ⟨tyX1, tyX1_ok⟩, nmX1, by decide⟩
  | 2, h => cases h; exact ⟨jw2, ⟨tyX2, tyX2_ok⟩, nmX2, by decide⟩
  | 3, h => cases h; exact ⟨jw3, ⟨tyX3, tyX3_ok⟩, nmX3, by decide⟩
  | 4, h => cases h; exact ⟨jw4, ⟨tyX4, tyX4_ok⟩, nmX4, by decide⟩
  | 5, h => cases h; exact ⟨jw5, ⟨tyX5, tyX5_ok⟩, nmX5, by decide⟩
  | 6, h => cases h; exact ⟨jw6, ⟨tyX6, tyX6_ok⟩, nmX6, by decide⟩
  | 7, h => cases h; exact ⟨jw7, ⟨tyX7, tyX7_ok⟩, nmX7, by decide⟩
  | k + 8, h => simp [vwCl] at h
abbrev jgw : List Cond := lw_tbl.filter goodWord
theorem jgw_of {w : Cond} (h : w ∈ lw_tbl) (hg : goodWord w = true) : w ∈ jgw := List.mem_filter.mpr ⟨h, hg⟩
theorem jg.ts {G : jG} {A : Nat → Prop} {s : State} (h : jg G A s) (args : Array Value) : ∀ w ∈ jgw, w.before args s = true := fun w hw => h.1 w (List.mem_filter.mp hw).1 (List.mem_filter.mp hw).2 args
/-- field k of the kind ci is the entry idx of own's pool, of type ty, final or not -/
def jfl (own : String) (idx ci k : Nat) (ty : FieldType) (fin : Bool) : Prop :=
  ∃ q : vw_C, vwCl[ci]? = some q ∧ k < q.2.2 ∧ Cond.fieldLink own idx (q.2.1 k).1 (q.2.1 k).2.1 (q.2.1 k).2.2.1 ∈ lw_tbl ∧ parseFieldDescriptor (q.2.1 k).2.2.1 = some ty ∧ (q.2.1 k).2.2.2 = fin ∧ (fin = true → (q.2.1 k).1 = own)
def jfit (ty : FieldType) (v : Value) : Prop := ∀ (L : List Nat) (w : Value), jv L v w → narrow ty w = w ∧ fits ty w = true
theorem jfit_i {x : Int32} : jfit .int (.int x) := fun L w h => by rw [show w = _ from h]; exact ⟨rfl, rfl⟩
theorem jfit_r {C : String} {k : Nat} : jfit (.object C) (.ref k) := fun L w h => by obtain ⟨a, _, e⟩ := h; rw [e]; exact ⟨rfl, rfl⟩
theorem jfit_a {t : FieldType} {k : Nat} : jfit (.array t) (.ref k) := fun L w h => by obtain ⟨a, _, e⟩ := h; rw [e]; exact ⟨rfl, rfl⟩
theorem jfit_z {b : Bool} : jfit .boolean (.int (if b then 1 else 0)) := fun L w h => by rw [show w = _ from h]; cases b <;> exact ⟨by decide, by decide⟩
theorem jfit_z1 : jfit .boolean (.int 1) := fun L w h => by rw [show w = _ from h]; exact ⟨by decide, by decide⟩
theorem jfit_z0 : jfit .boolean (.int 0) := fun L w h => by rw [show w = _ from h]; exact ⟨by decide, by decide⟩
theorem jcl.obj {G : jG} {A : Nat → Prop} {s : State} {L : List Nat} {H : Heap} {a ci : Nat} {fs : List Value} (h : jcl G A s L H a (ci, fs)) (hc : ci < 8) : ∃ ws, jvs L fs ws ∧ A a ∧ va_at G.1 vwCl (a, .inr (ci, ws)) H := by
  obtain ⟨ws, h1, h2⟩ := h
  rcases h2 with ⟨x, y, z⟩ | ⟨x, x', y, z⟩ | ⟨x, scr, y1, y2, y3⟩ | x
  · exact ⟨ws, h1, y, z⟩
  · exact absurd hc (by dsimp only at x; omega)
  · exact absurd hc (by dsimp only at x; omega)
  · exact absurd hc (by dsimp only at x; omega)
theorem jcl.arr {G : jG} {A : Nat → Prop} {s : State} {L : List Nat} {H : Heap} {a ci : Nat} {fs : List Value} (h : jcl G A s L H a (ci, fs)) (hc : 10 ≤ ci ∧ ci < 14) : ∃ ws, jvs L fs ws ∧ A a ∧ H[a]? = some (arrV (G.2 ci) ws.length (vp_V ws)) := by
  obtain ⟨ws, h1, h2⟩ := h
  rcases h2 with ⟨x, y, z⟩ | ⟨x, x', y, z⟩ | ⟨x, scr, y1, y2, y3⟩ | x
  · exact absurd hc (by dsimp only at x; omega)
  · exact ⟨ws, h1, y, z⟩
  · exact absurd hc (by dsimp only at x; omega)
  · exact absurd hc (by dsimp only at x; omega)
theorem va_P1 {D : va_G} {cl : List vw_C} {q : Nat × va_E} {H : Heap} (h : va_at D cl q H) : va_P D cl [q] H := fun k x hx => by
  have hz : k < 1 := (List.getElem?_eq_some_iff.mp hx).1
  rw [show k = 0 by omega] at hx
  cases hx; exact h
section JF
variable {l : Launch} {G : jG} {Y : jY} {d bc bs n pc : Nat} {ls : List (Option Value)} {st : List Value} {h : jH} {K : jK}
theorem J_iret {v : Int32} (hd : decode Y.1.2.1 pc = .ok (.ireturn, 1)) (hr : Y.1.2.2.2 = some .int) (hK : K (.inl (some (.int v))) n h) : jJ l G Y d bc bs n pc ls [.int v] h K := by
  intro p e R s m args below meth c A H locs cells slots C S L0 L lsR stR C0 hR hL hS hl hst h1 h2 h3 h4
  obtain ⟨ws, e1, q1⟩ := hst.i
  rw [show ws = [] from q1] at e1
  subst e1
  refine W.widen (k := C) (n := S) (by omega) (by omega) (vx_ret (W.iret C0.1 C0.2.1 (C0.2.2.1.trans hr) (fun t ht hW => ?_) hS.2.2 hd C0.2.2.2.2.2.1))
  exact ⟨some (.int v), _, L, n, h, rfl, ⟨_, rfl, rfl⟩, hK, hL, by rw [ht]; exact hR.mono (fun _ z => z) hW.alike, hS.F ht⟩
theorem J_zret {v : Int32} (hd : decode Y.1.2.1 pc = .ok (.ireturn, 1)) (hr : Y.1.2.2.2 = some .boolean) (hv : v = 0 ∨ v = 1) (hK : K (.inl (some (.int v))) n h) : jJ l G Y d bc bs n pc ls [.int v] h K := by
  intro p e R s m args below meth c A H locs cells slots C S L0 L lsR stR C0 hR hL hS hl hst h1 h2 h3 h4
  obtain ⟨ws, e1, q1⟩ := hst.i
  rw [show ws = [] from q1] at e1
  subst e1
  refine W.widen (k := C) (n := S) (by omega) (by omega) (vx_ret (W.zret C0.1 C0.2.1 (C0.2.2.1.trans hr) (by rcases hv with e | e <;> rw [e] <;> decide) (fun t ht hW => ?_) hS.2.2 hd C0.2.2.2.2.2.1))
  exact ⟨some (.int v), _, L, n, h, rfl, ⟨_, rfl, rfl⟩, hK, hL, by rw [ht]; exact hR.mono (fun _ z => z) hW.alike, hS.F ht⟩
theorem J_vret (hd : decode Y.1.2.1 pc = .ok (.return_, 1)) (hr : Y.1.2.2.2 = none) (hK : K (.inl none) n h) : jJ l G Y d bc bs n pc ls [] h K := by
  intro p e R s m args below meth c A H locs cells slots C S L0 L lsR stR C0 hR hL hS hl hst h1 h2 h3 h4
  rw [show stR = [] from hst]
  refine W.widen (k := C) (n := S) (by omega) (by omega) (vx_ret (W.vret C0.1 C0.2.1 (C0.2.2.1.trans hr) (fun t ht hW => ?_) hS.2.2 hd C0.2.2.2.2.2.1))
  exact ⟨none, _, L, n, h, rfl, rfl, hK, hL, by rw [ht]; exact hR.mono (fun _ z => z) hW.alike, hS.F ht⟩
theorem J_aret {x : Nat} {t0 : String} (hd : decode Y.1.2.1 pc = .ok (.areturn, 1)) (hr : Y.1.2.2.2 = some (.object t0)) (hK : K (.inl (some (.ref x))) n h) : jJ l G Y d bc bs n pc ls [.ref x] h K := by
  intro p e R s m args below meth c A H locs cells slots C S L0 L lsR stR C0 hR hL hS hl hst h1 h2 h3 h4
  obtain ⟨a, ws, e1, qa, q1⟩ := hst.r
  rw [show ws = [] from q1] at e1
  subst e1
  refine W.widen (k := C) (n := S) (by omega) (by omega) (vx_ret (W.aret C0.1 C0.2.1 (C0.2.2.1.trans hr) (Or.inl ⟨_, rfl⟩) (Or.inr ⟨a, rfl⟩) (fun t ht hW => ?_) hS.2.2 hd C0.2.2.2.2.2.1))
  exact ⟨some (.ref x), _, L, n, h, rfl, ⟨_, rfl, a, qa, rfl⟩, hK, hL, by rw [ht]; exact hR.mono (fun _ z => z) hW.alike, hS.F ht⟩
theorem J_aretN {t0 : String} (hd : decode Y.1.2.1 pc = .ok (.areturn, 1)) (hr : Y.1.2.2.2 = some (.object t0)) (hK : K (.inl (some .null)) n h) : jJ l G Y d bc bs n pc ls [.null] h K := by
  intro p e R s m args below meth c A H locs cells slots C S L0 L lsR stR C0 hR hL hS hl hst h1 h2 h3 h4
  obtain ⟨ws, e1, q1⟩ := hst.n
  rw [show ws = [] from q1] at e1
  subst e1
  refine W.widen (k := C) (n := S) (by omega) (by omega) (vx_ret (W.aret C0.1 C0.2.1 (C0.2.2.1.trans hr) (Or.inl ⟨_, rfl⟩) (Or.inl rfl) (fun t ht hW => ?_) hS.2.2 hd C0.2.2.2.2.2.1))
  exact ⟨some .null, _, L, n, h, rfl, ⟨_, rfl, rfl⟩, hK, hL, by rw [ht]; exact hR.mono (fun _ z => z) hW.alike, hS.F ht⟩
theorem J_get {r ci k idx : Nat} {fs : List Value} {v : Value} {ty : FieldType} {fin : Bool} (hd : decode Y.1.2.1 pc = .ok (.getfield idx, 3)) (hf : jfl Y.1.1.cls idx ci k ty fin) (hc : h r = (ci, fs)) (hv : fs[k]? = some v) (kk : jJ l G Y d bc bs n (pc + 3) ls (v :: st) h K) : jJ l G Y d bc bs n pc ls (.ref r :: st) h K := by
  intro p e R s m args below meth c A H locs cells slots C S L0 L lsR stR C0 hR hL hS hl hst h1 h2 h3 h4
  obtain ⟨q, f1, f2, f3, f4, f5⟩ := hf
  obtain ⟨w1, -, -, hci⟩ := jcls f1
  obtain ⟨a, sr, e1, ha, q1⟩ := hst.r
  subst e1
  have hcl := hR.2.2 r a ha
  rw [hc] at hcl
  obtain ⟨ws, j1, j2, j3⟩ := hcl.obj hci
  obtain ⟨w, x1, x2⟩ := j1.get hv
  have hg := C0.2.2.2.2.2.2.2.2.2.2.2.1
  exact va_get C0.1 C0.2.1 (hg.ts args) (fun u hu => jgw_of (w1 u hu) (jgoodU _ _ _ u hu)) C0.2.2.2.2.1 hg.2.2.2.2.2.1 (va_P1 j3) 0 rfl f1 k f2 (hg.1 _ f3 rfl args) (fun _ z => z) x1 hd (kk p e R s m args below meth c A H locs cells slots C S L0 L lsR (w :: sr) C0 hR hL hS hl ⟨_, _, rfl, x2, q1⟩ h1 h2 h3 h4)
theorem J_put {r ci k idx : Nat} {fs : List Value} {v : Value} {ty : FieldType} (hd : decode Y.1.2.1 pc = .ok (.putfield idx, 3)) (hf : jfl Y.1.1.cls idx ci k ty false) (hc : h r = (ci, fs)) (hk : k < fs.length) (hv : jfit ty v) (kk : jJ l G Y d bc bs n (pc + 3) ls st (jup h r (ci, fs.set k v)) K) : jJ l G Y d bc bs n pc ls (v :: .ref r :: st) h K := by
  intro p e R s m args below meth c A H locs cells slots C S L0 L lsR stR C0 hR hL hS hl hst h1 h2 h3 h4
  obtain ⟨q, f1, f2, f3, f4, f5, -⟩ := hf
  obtain ⟨w1, ⟨ty0, hty⟩, hnm, hci⟩ := jcls f1
  obtain ⟨w, sr0, e0, hw, q0⟩ := hst.c
  obtain ⟨a, sr, e1, ha, q1⟩ := q0.r
  subst e1; subst e0
  have hcl := hR.2.2 r a ha
  rw [hc] at hcl
  obtain ⟨ws, j1, j2, r0, y1, cell, y2, y3, y4, y5⟩ := hcl.obj hci
  cases y1.symm.trans f1
  have hg := C0.2.2.2.2.2.2.2.2.2.2.2.1
  have hin : ∀ u ∈ u_ws q.1 q.2.1 q.2.2, u ∈ jgw := fun u hu => jgw_of (w1 u hu) (jgoodU _ _ _ u hu)
  have hK := hg.2.2.2.2.2.1
  have hap := va_apart (own := Y.1.1.cls) (hg.ts args) hin ty0 hty hnm hK f1
  obtain ⟨hSl, hfc, kC, hkC, hkind⟩ := hK.1 ci _ f1
  obtain ⟨cf, kf, fi, f, hi, hsl⟩ := hSl k f2
  have hlay := hg.ts args _ (hin _ (u_in_lay f2))
  unfold u_lay at hlay
  rw [if_neg (by rw [f5]; decide)] at hlay
  have hst' := (u_facts hfc hkC (u_lays (hg.ts args) hin f2) hi).1
  have h6 := u_store hfc hkC hkind hlay hi f4 (hv L w hw).1 (hv L w hw).2
  refine W.putK C0.1 C0.2.1 (f := f) ⟨C0.2.2.2.2.1, hg.1 _ f3 rfl args, ⟨_, _, _, hi⟩, hst'⟩ (by rw [y3]; exact h6) y2 y4 (by rw [hsl]; exact k2_hasslot (y5 k f2)) rfl rfl hd fun H' e1 e2 e3 => ?_
  rw [hsl] at e1 ⊢
  have hkw : k < ws.length := by rw [j1.len]; exact hk
  refine kk p e R s m args below meth c A H' _ cells slots C S L0 L lsR sr C0 (hR.set ha (by rw [hc]; exact Nat.ne_of_lt (by omega)) (Nat.ne_of_lt (by omega)) ⟨_, j1.set k hw, Or.inl ⟨hci, j2, _, f1, t_OB.to (V := updV (vp_V ws) k w) ⟨_, e1, y3, y4, t_set y5 hap f2 w⟩ (fun j _ => vp_updV_set hkw w j)⟩⟩ e3) hL (hS.put e2 e3 j2) hl q1 h1 h2 h3 h4
theorem J_putF {r ci k idx : Nat} {fs : List Value} {v : Value} {ty : FieldType} (hd : decode Y.1.2.1 pc = .ok (.putfield idx, 3)) (hini : Y.1.1.name = "<init>") (hf : jfl Y.1.1.cls idx ci k ty true) (hc : h r = (ci, fs)) (hk : k < fs.length) (hv : jfit ty v) (kk : jJ l G Y d bc bs n (pc + 3) ls st (jup h r (ci, fs.set k v)) K) : jJ l G Y d bc bs n pc ls (v :: .ref r :: st) h K := by
  intro p e R s m args below meth c A H locs cells slots C S L0 L lsR stR C0 hR hL hS hl hst h1 h2 h3 h4
  obtain ⟨q, f1, f2, f3, f4, f5, f6⟩ := hf
  obtain ⟨w1, ⟨ty0, hty⟩, hnm, hci⟩ := jcls f1
  obtain ⟨w, sr0, e0, hw, q0⟩ := hst.c
  obtain ⟨a, sr, e1, ha, q1⟩ := q0.r
  subst e1; subst e0
  have hcl := hR.2.2 r a ha
  rw [hc] at hcl
  obtain ⟨ws, j1, j2, r0, y1, cell, y2, y3, y4, y5⟩ := hcl.obj hci
  cases y1.symm.trans f1
  have hg := C0.2.2.2.2.2.2.2.2.2.2.2.1
  have hin : ∀ u ∈ u_ws q.1 q.2.1 q.2.2, u ∈ jgw := fun u hu => jgw_of (w1 u hu) (jgoodU _ _ _ u hu)
  have hK := hg.2.2.2.2.2.1
  have hap := va_apart (own := Y.1.1.cls) (hg.ts args) hin ty0 hty hnm hK f1
  obtain ⟨hSl, hfc, kC, hkC, hkind⟩ := hK.1 ci _ f1
  obtain ⟨cf, kf, fi, f, hi, hsl⟩ := hSl k f2
  have hlay := hg.ts args _ (hin _ (u_in_lay f2))
  unfold u_lay at hlay
  rw [if_pos f5] at hlay
  have hst' := (u_facts hfc hkC (u_lays (hg.ts args) hin f2) hi).1
  have hcf : m.cls = cf := by
    obtain ⟨_, _, c', _, _, _, -, -, hf', -, -, -, hown2, -⟩ := Cond.laysFinal_spec hlay
    have e1 : c' = cf := by have := hi.symm.trans hf'; simp at this; exact this.1.symm
    rw [f6 rfl] at hown2
    rw [← e1]; exact Option.some.inj (C0.2.2.2.2.1.symm.trans hown2)
  have h6 := u_fits hfc hkC hkind (Or.inr hlay) hi f4 (hv L w hw).1 (hv L w hw).2
  refine W.putFinK C0.1 C0.2.1 C0.2.2.2.2.1 (hg.1 _ f3 rfl args) hi hst' hcf (C0.2.2.2.2.2.2.1.trans hini) (by rw [y3]; exact h6) y2 y4 (by rw [hsl]; exact k2_hasslot (y5 k f2)) rfl rfl hd fun H' e1 e2 e3 => ?_
  rw [hsl] at e1 ⊢
  have hkw : k < ws.length := by rw [j1.len]; exact hk
  refine kk p e R s m args below meth c A H' _ cells slots C S L0 L lsR sr C0 (hR.set ha (by rw [hc]; exact Nat.ne_of_lt (by omega)) (Nat.ne_of_lt (by omega)) ⟨_, j1.set k hw, Or.inl ⟨hci, j2, _, f1, t_OB.to (V := updV (vp_V ws) k w) ⟨_, e1, y3, y4, t_set y5 hap f2 w⟩ (fun j _ => vp_updV_set hkw w j)⟩⟩ e3) hL (hS.put e2 e3 j2) hl q1 h1 h2 h3 h4
end JF
end
section
theorem jarrT {G : jG} {s : State} (hK : va_K G.1 vwCl (jtys G) s) {ci : Nat} (hc : 10 ≤ ci ∧ ci < 14) : ArrOfT s (G.2 ci) (jty ci) ∧ va_RA s (G.2 ci) (jty ci) := by
  match ci, hc with
  | 10, _ => exact hK.2 0 _ rfl
  | 11, _ => exact hK.2 1 _ rfl
  | 12, _ => exact hK.2 2 _ rfl
  | 13, _ => exact hK.2 3 _ rfl
  | 0, h | 1, h | 2, h | 3, h | 4, h | 5, h | 6, h | 7, h | 8, h | 9, h => omega
  | k + 14, h => omega
theorem vp_V_of {ws : List Value} {k : Nat} {w : Value} (h : ws[k]? = some w) : vp_V ws k = w := by simp [vp_V, List.getD, h]
theorem jarr_set {c : ClassId} {ws : List Value} {k : Nat} (hk : k < ws.length) (v : Value) : (arrV c ws.length (vp_V ws)).setSlot k v = arrV c (ws.set k v).length (vp_V (ws.set k v)) := by
  rw [arrV_store, List.length_set]
  congr 1
  funext j
  exact vp_updV_set hk v j
theorem jin {cA : ClassId} {ws : List Value} {i : Int32} (h0 : ¬ i < 0) (hl : i.toNatClampNeg < ws.length) : ¬ (i < 0 ∨ (arrV cA ws.length (vp_V ws)).slots.size ≤ i.toNatClampNeg) := by
  rw [arrV_size]; rintro (q | q)
  · exact h0 q
  · omega
section JA
variable {l : Launch} {G : jG} {Y : jY} {d bc bs n pc : Nat} {ls : List (Option Value)} {st : List Value} {h : jH} {K : jK}
theorem J_iald {r : Nat} {vs : List Value} {i : Int32} {v : Value} (hd : decode Y.1.2.1 pc = .ok (.iaload, 1)) (hc : h r = (10, vs)) (hi : ¬ i < 0) (hv : vs[i.toNatClampNeg]? = some v) (kk : jJ l G Y d bc bs n (pc + 1) ls (v :: st) h K) : jJ l G Y d bc bs n pc ls (.int i :: .ref r :: st) h K := by
  intro p e R s m args below meth c A H locs cells slots C S L0 L lsR stR C0 hR hL hS hl hst h1 h2 h3 h4
  obtain ⟨sr0, e0, q0⟩ := hst.i
  obtain ⟨a, sr, e1, ha, q1⟩ := q0.r
  subst e1; subst e0
  have hcl := hR.2.2 r a ha
  rw [hc] at hcl
  obtain ⟨ws, j1, j2, j3⟩ := hcl.arr (by decide)
  obtain ⟨w, x1, x2⟩ := j1.get hv
  have hlt := (List.getElem?_eq_some_iff.mp x1).1
  have hT := jarrT C0.2.2.2.2.2.2.2.2.2.2.2.1.2.2.2.2.2.1 (ci := 10) (by decide)
  exact W.iald C0.1 C0.2.1 j3 (hT.1 _ _) (fun q => by cases q) (jin hi hlt) (by rw [arrV_read _ _ hlt, vp_V_of x1]) rfl rfl hd (kk p e R s m args below meth c A H locs cells slots C S L0 L lsR (w :: sr) C0 hR hL hS hl ⟨_, _, rfl, x2, q1⟩ h1 h2 h3 h4)
theorem J_zald {r : Nat} {vs : List Value} {i : Int32} {v : Value} (hd : decode Y.1.2.1 pc = .ok (.baload, 1)) (hc : h r = (12, vs)) (hi : ¬ i < 0) (hv : vs[i.toNatClampNeg]? = some v) (kk : jJ l G Y d bc bs n (pc + 1) ls (v :: st) h K) : jJ l G Y d bc bs n pc ls (.int i :: .ref r :: st) h K := by
  intro p e R s m args below meth c A H locs cells slots C S L0 L lsR stR C0 hR hL hS hl hst h1 h2 h3 h4
  obtain ⟨sr0, e0, q0⟩ := hst.i
  obtain ⟨a, sr, e1, ha, q1⟩ := q0.r
  subst e1; subst e0
  have hcl := hR.2.2 r a ha
  rw [hc] at hcl
  obtain ⟨ws, j1, j2, j3⟩ := hcl.arr (by decide)
  obtain ⟨w, x1, x2⟩ := j1.get hv
  have hlt := (List.getElem?_eq_some_iff.mp x1).1
  have hT := jarrT C0.2.2.2.2.2.2.2.2.2.2.2.1.2.2.2.2.2.1 (ci := 12) (by decide)
  exact W.zald C0.1 C0.2.1 j3 (hT.1 _ _) (fun q => by cases q) (jin hi hlt) (by rw [arrV_read _ _ hlt, vp_V_of x1]) rfl rfl hd (kk p e R s m args below meth c A H locs cells slots C S L0 L lsR (w :: sr) C0 hR hL hS hl ⟨_, _, rfl, x2, q1⟩ h1 h2 h3 h4)
theorem J_lald {r : Nat} {vs : List Value} {i : Int32} {v : Value} (hd : decode Y.1.2.1 pc = .ok (.laload, 1)) (hc : h r = (11, vs)) (hi : ¬ i < 0) (hv : vs[i.toNatClampNeg]? = some v) (kk : jJ l G Y d bc bs n (pc + 1) ls (v :: st) h K) : jJ l G Y d bc bs n pc ls (.int i :: .ref r :: st) h K := by
  intro p e R s m args below meth c A H locs cells slots C S L0 L lsR stR C0 hR hL hS hl hst h1 h2 h3 h4
  obtain ⟨sr0, e0, q0⟩ := hst.i
  obtain ⟨a, sr, e1, ha, q1⟩ := q0.r
  subst e1; subst e0
  have hcl := hR.2.2 r a ha
  rw [hc] at hcl
  obtain ⟨ws, j1, j2, j3⟩ := hcl.arr (by decide)
  obtain ⟨w, x1, x2⟩ := j1.get hv
  have hlt := (List.getElem?_eq_some_iff.mp x1).1
  have hT := jarrT C0.2.2.2.2.2.2.2.2.2.2.2.1.2.2.2.2.2.1 (ci := 11) (by decide)
  exact W.lald C0.1 C0.2.1 j3 (hT.1 _ _) (fun q => by cases q) (jin hi hlt) (by rw [arrV_read _ _ hlt, vp_V_of x1]) rfl rfl hd (kk p e R s m args below meth c A H locs cells slots C S L0 L lsR (w :: sr) C0 hR hL hS hl ⟨_, _, rfl, x2, q1⟩ h1 h2 h3 h4)
theorem J_aald {r : Nat} {vs : List Value} {i : Int32} {v : Value} (hd : decode Y.1.2.1 pc = .ok (.aaload, 1)) (hc : h r = (13, vs)) (hi : ¬ i < 0) (hv : vs[i.toNatClampNeg]? = some v) (kk : jJ l G Y d bc bs n (pc + 1) ls (v :: st) h K) : jJ l G Y d bc bs n pc ls (.int i :: .ref r :: st) h K := by
  intro p e R s m args below meth c A H locs cells slots C S L0 L lsR stR C0 hR hL hS hl hst h1 h2 h3 h4
  obtain ⟨sr0, e0, q0⟩ := hst.i
  obtain ⟨a, sr, e1, ha, q1⟩ := q0.r
  subst e1; subst e0
  have hcl := hR.2.2 r a ha
  rw [hc] at hcl
  obtain ⟨ws, j1, j2, j3⟩ := hcl.arr (by decide)
  obtain ⟨w, x1, x2⟩ := j1.get hv
  have hlt := (List.getElem?_eq_some_iff.mp x1).1
  have hT := jarrT C0.2.2.2.2.2.2.2.2.2.2.2.1.2.2.2.2.2.1 (ci := 13) (by decide)
  exact W.aald C0.1 C0.2.1 j3 (hT.1 _ _) rfl (fun q => by cases q) (jin hi hlt) (by rw [arrV_read _ _ hlt, vp_V_of x1]) rfl rfl hd (kk p e R s m args below meth c A H locs cells slots C S L0 L lsR (w :: sr) C0 hR hL hS hl ⟨_, _, rfl, x2, q1⟩ h1 h2 h3 h4)
theorem J_iast {r : Nat} {vs : List Value} {i : Int32} {x : Int32} (hd : decode Y.1.2.1 pc = .ok (.iastore, 1)) (hc : h r = (10, vs)) (hi : ¬ i < 0) (hv : i.toNatClampNeg < vs.length) (kk : jJ l G Y d bc bs n (pc + 1) ls st (jup h r (10, vs.set i.toNatClampNeg (.int x))) K) : jJ l G Y d bc bs n pc ls (.int x :: .int i :: .ref r :: st) h K := by
  intro p e R s m args below meth c A H locs cells slots C S L0 L lsR stR C0 hR hL hS hl hst h1 h2 h3 h4
  obtain ⟨sr1, e3, q3⟩ := hst.i
  obtain ⟨sr0, e0, q0⟩ := q3.i
  obtain ⟨a, sr, e1, ha, q1⟩ := q0.r
  subst e1; subst e0; subst e3
  have hcl := hR.2.2 r a ha
  rw [hc] at hcl
  obtain ⟨ws, j1, j2, j3⟩ := hcl.arr (by decide)
  have hlt : i.toNatClampNeg < ws.length := by rw [j1.len]; exact hv
  have hT := jarrT C0.2.2.2.2.2.2.2.2.2.2.2.1.2.2.2.2.2.1 (ci := 10) (by decide)
  refine W.iast C0.1 C0.2.1 j3 (hT.1 _ _) (fun q => by cases q) (jin hi hlt) rfl rfl hd fun H' e1 e2 e3 => ?_
  rw [jarr_set hlt] at e1
  exact kk p e R s m args below meth c A H' _ cells slots C S L0 L lsR sr C0 (hR.set ha (by rw [hc]; show 10 ≠ 30; decide) (by show 10 ≠ 30; decide) ⟨_, j1.set _ rfl, Or.inr (Or.inl ⟨(by decide : 10 ≤ 10), (by decide : 10 < 14), j2, e1⟩)⟩ e3) hL (hS.put e2 e3 j2) hl q1 h1 h2 h3 h4
theorem J_zast {r : Nat} {vs : List Value} {i : Int32} {x : Int32} (hd : decode Y.1.2.1 pc = .ok (.bastore, 1)) (hx : x = 0 ∨ x = 1) (hc : h r = (12, vs)) (hi : ¬ i < 0) (hv : i.toNatClampNeg < vs.length) (kk : jJ l G Y d bc bs n (pc + 1) ls st (jup h r (12, vs.set i.toNatClampNeg (.int x))) K) : jJ l G Y d bc bs n pc ls (.int x :: .int i :: .ref r :: st) h K := by
  intro p e R s m args below meth c A H locs cells slots C S L0 L lsR stR C0 hR hL hS hl hst h1 h2 h3 h4
  obtain ⟨sr1, e3, q3⟩ := hst.i
  obtain ⟨sr0, e0, q0⟩ := q3.i
  obtain ⟨a, sr, e1, ha, q1⟩ := q0.r
  subst e1; subst e0; subst e3
  have hcl := hR.2.2 r a ha
  rw [hc] at hcl
  obtain ⟨ws, j1, j2, j3⟩ := hcl.arr (by decide)
  have hlt : i.toNatClampNeg < ws.length := by rw [j1.len]; exact hv
  have hT := jarrT C0.2.2.2.2.2.2.2.2.2.2.2.1.2.2.2.2.2.1 (ci := 12) (by decide)
  have hnx : narrow .boolean (.int x) = .int x := by rcases hx with e | e <;> rw [e] <;> decide
  refine W.zast C0.1 C0.2.1 j3 (hT.1 _ _) (fun q => by cases q) (jin hi hlt) rfl rfl hd fun H' e1 e2 e3 => ?_
  rw [hnx] at e1
  rw [jarr_set hlt] at e1
  exact kk p e R s m args below meth c A H' _ cells slots C S L0 L lsR sr C0 (hR.set ha (by rw [hc]; show 12 ≠ 30; decide) (by show 12 ≠ 30; decide) ⟨_, j1.set _ rfl, Or.inr (Or.inl ⟨(by decide : 10 ≤ 12), (by decide : 12 < 14), j2, e1⟩)⟩ e3) hL (hS.put e2 e3 j2) hl q1 h1 h2 h3 h4
theorem J_last {r : Nat} {vs : List Value} {i : Int32} {x : Int64} (hd : decode Y.1.2.1 pc = .ok (.lastore, 1)) (hc : h r = (11, vs)) (hi : ¬ i < 0) (hv : i.toNatClampNeg < vs.length) (kk : jJ l G Y d bc bs n (pc + 1) ls st (jup h r (11, vs.set i.toNatClampNeg (.long x))) K) : jJ l G Y d bc bs n pc ls (.long x :: .int i :: .ref r :: st) h K := by
  intro p e R s m args below meth c A H locs cells slots C S L0 L lsR stR C0 hR hL hS hl hst h1 h2 h3 h4
  obtain ⟨sr1, e3, q3⟩ := hst.lg
  obtain ⟨sr0, e0, q0⟩ := q3.i
  obtain ⟨a, sr, e1, ha, q1⟩ := q0.r
  subst e1; subst e0; subst e3
  have hcl := hR.2.2 r a ha
  rw [hc] at hcl
  obtain ⟨ws, j1, j2, j3⟩ := hcl.arr (by decide)
  have hlt : i.toNatClampNeg < ws.length := by rw [j1.len]; exact hv
  have hT := jarrT C0.2.2.2.2.2.2.2.2.2.2.2.1.2.2.2.2.2.1 (ci := 11) (by decide)
  refine W.last C0.1 C0.2.1 j3 (hT.1 _ _) (fun q => by cases q) (jin hi hlt) rfl rfl hd fun H' e1 e2 e3 => ?_
  rw [jarr_set hlt] at e1
  exact kk p e R s m args below meth c A H' _ cells slots C S L0 L lsR sr C0 (hR.set ha (by rw [hc]; show 11 ≠ 30; decide) (by show 11 ≠ 30; decide) ⟨_, j1.set _ rfl, Or.inr (Or.inl ⟨(by decide : 10 ≤ 11), (by decide : 11 < 14), j2, e1⟩)⟩ e3) hL (hS.put e2 e3 j2) hl q1 h1 h2 h3 h4
theorem J_aast {r v ci : Nat} {vs fs : List Value} {i : Int32} (hd : decode Y.1.2.1 pc = .ok (.aastore, 1)) (hc : h r = (13, vs)) (hcv : h v = (4, fs)) (hi : ¬ i < 0) (hv : i.toNatClampNeg < vs.length) (kk : jJ l G Y d bc bs n (pc + 1) ls st (jup h r (13, vs.set i.toNatClampNeg (.ref v))) K) : jJ l G Y d bc bs n pc ls (.ref v :: .int i :: .ref r :: st) h K := by
  intro p e R s m args below meth c A H locs cells slots C S L0 L lsR stR C0 hR hL hS hl hst h1 h2 h3 h4
  obtain ⟨av, sr1, e3, hav, q3⟩ := hst.r
  obtain ⟨sr0, e0, q0⟩ := q3.i
  obtain ⟨a, sr, e1, ha, q1⟩ := q0.r
  subst e1; subst e0; subst e3
  have hcl := hR.2.2 r a ha
  rw [hc] at hcl
  obtain ⟨ws, j1, j2, j3⟩ := hcl.arr (by decide)
  have hlt : i.toNatClampNeg < ws.length := by rw [j1.len]; exact hv
  have hK := C0.2.2.2.2.2.2.2.2.2.2.2.1.2.2.2.2.2.1
  have hT := jarrT hK (ci := 13) (by decide)
  have hcv' := hR.2.2 v av hav
  rw [hcv] at hcv'
  obtain ⟨wv, -, -, rv, y1, cellV, g1, g2, g3, -⟩ := hcv'.obj (by decide)
  have hcls := (hK.1 4 _ rfl).2
  obtain ⟨kA, comp, k1, k2, k3, -⟩ := hT.2
  have hcomp : comp = G.1.1 4 := Option.some.inj (k3.symm.trans hcls.1)
  subst hcomp
  obtain ⟨kC, hkC, -⟩ := hcls.2
  refine W.aast C0.1 C0.2.1 j3 (fun q h => by cases h) (fun h => by cases h) k1 k2 rfl hkC ⟨hi, by rw [arrV_size]; exact hlt⟩ g1 (fun q h => by rw [g3] at h; cases h) (by rw [g2]; exact hkC) (by rw [g2]; exact va_assign hcls) rfl rfl hd fun H' e1 e2 e3 => ?_
  rw [jarr_set hlt] at e1
  exact kk p e R s m args below meth c A H' _ cells slots C S L0 L lsR sr C0 (hR.set ha (by rw [hc]; show 13 ≠ 30; decide) (by show 13 ≠ 30; decide) ⟨_, j1.set _ ⟨av, hav, rfl⟩, Or.inr (Or.inl ⟨(by decide : 10 ≤ 13), (by decide : 13 < 14), j2, e1⟩)⟩ e3) hL (hS.put e2 e3 j2) hl q1 h1 h2 h3 h4
theorem J_alen {r ci : Nat} {vs : List Value} (hd : decode Y.1.2.1 pc = .ok (.arraylength, 1)) (hc : h r = (ci, vs)) (hci : 10 ≤ ci ∧ ci < 14) (kk : jJ l G Y d bc bs n (pc + 1) ls (.int (nI vs.length) :: st) h K) : jJ l G Y d bc bs n pc ls (.ref r :: st) h K := by
  intro p e R s m args below meth c A H locs cells slots C S L0 L lsR stR C0 hR hL hS hl hst h1 h2 h3 h4
  obtain ⟨a, sr, e1, ha, q1⟩ := hst.r
  subst e1
  have hcl := hR.2.2 r a ha
  rw [hc] at hcl
  obtain ⟨ws, j1, j2, j3⟩ := hcl.arr hci
  have hT := jarrT C0.2.2.2.2.2.2.2.2.2.2.2.1.2.2.2.2.2.1 hci
  exact W.alen (n := nI vs.length) C0.1 C0.2.1 j3 (hT.1 _ _) (by rw [arrV_size, j1.len]; rfl) rfl rfl hd (kk p e R s m args below meth c A H locs cells slots C S L0 L lsR (.int (nI vs.length) :: sr) C0 hR hL hS hl q1.ic h1 h2 h3 h4)
theorem jcl.scr {G : jG} {A : Nat → Prop} {s : State} {L : List Nat} {H : Heap} {a : Nat} {fs : List Value} (h : jcl G A s L H a (20, fs)) : ∃ ws, jvs L fs ws ∧ ∃ scr : Cell, H[a]? = some scr ∧ s.isArrayOf scr .int ∧ scr.vm ≠ .unknown ∧ scr.slots.size = ws.length ∧ ∀ j, j < ws.length → scr.slots[j]? = some (vp_V ws j) := by
  obtain ⟨ws, h1, h2⟩ := h
  rcases h2 with ⟨x, y, z⟩ | ⟨x, x', y, z⟩ | ⟨x, y⟩ | x
  · exact absurd (show 20 < 8 from x) (by decide)
  · exact absurd (show 20 < 14 from x') (by decide)
  · exact ⟨ws, h1, y⟩
  · exact absurd (show 20 = 30 from x) (by decide)
theorem J_slen {r : Nat} {vs : List Value} (hd : decode Y.1.2.1 pc = .ok (.arraylength, 1)) (hc : h r = (20, vs)) (kk : jJ l G Y d bc bs n (pc + 1) ls (.int (nI vs.length) :: st) h K) : jJ l G Y d bc bs n pc ls (.ref r :: st) h K := by
  intro p e R s m args below meth c A H locs cells slots C S L0 L lsR stR C0 hR hL hS hl hst h1 h2 h3 h4
  obtain ⟨a, sr, e1, ha, q1⟩ := hst.r
  subst e1
  have hcl := hR.2.2 r a ha
  rw [hc] at hcl
  obtain ⟨ws, j1, scr, y1, y2, y3, y4, y5⟩ := hcl.scr
  exact W.alen (n := nI vs.length) C0.1 C0.2.1 y1 y2 (by rw [y4, j1.len]; rfl) rfl rfl hd (kk p e R s m args below meth c A H locs cells slots C S L0 L lsR (.int (nI vs.length) :: sr) C0 hR hL hS hl q1.ic h1 h2 h3 h4)
theorem J_sald {r : Nat} {vs : List Value} {i : Int32} {v : Value} (hd : decode Y.1.2.1 pc = .ok (.iaload, 1)) (hc : h r = (20, vs)) (hi : ¬ i < 0) (hv : vs[i.toNatClampNeg]? = some v) (kk : jJ l G Y d bc bs n (pc + 1) ls (v :: st) h K) : jJ l G Y d bc bs n pc ls (.int i :: .ref r :: st) h K := by
  intro p e R s m args below meth c A H locs cells slots C S L0 L lsR stR C0 hR hL hS hl hst h1 h2 h3 h4
  obtain ⟨sr0, e0, q0⟩ := hst.i
  obtain ⟨a, sr, e1, ha, q1⟩ := q0.r
  subst e1; subst e0
  have hcl := hR.2.2 r a ha
  rw [hc] at hcl
  obtain ⟨ws, j1, scr, y1, y2, y3, y4, y5⟩ := hcl.scr
  obtain ⟨w, x1, x2⟩ := j1.get hv
  have hlt := (List.getElem?_eq_some_iff.mp x1).1
  exact W.iald (v := w) C0.1 C0.2.1 y1 y2 y3 (by rw [y4]; rintro (q | q); exact hi q; omega) (by rw [y5 _ hlt, vp_V_of x1]) rfl rfl hd (kk p e R s m args below meth c A H locs cells slots C S L0 L lsR (w :: sr) C0 hR hL hS hl ⟨_, _, rfl, x2, q1⟩ h1 h2 h3 h4)
/-- the entry idx of own's pool is the kind ci, which can be made; fs: its fields at first -/
def jnw (own : String) (idx ci N : Nat) (fs : List Value) : Prop :=
  ∃ q : vw_C, vwCl[ci]? = some q ∧ q.2.2 = N ∧ Cond.classLink own idx q.1 ∈ lw_tbl ∧ Cond.instantiable q.1 N ∈ lw_tbl ∧ Cond.initialized q.1 ∈ lw_tbl ∧ ∃ ty : Nat → FieldType, (∀ k, k < N → parseFieldDescriptor (q.2.1 k).2.2.1 = some (ty k)) ∧ (∀ j, j < N → defaultValue (ty j) = vp_V fs j) ∧ ∀ (L : List Nat), jvs L fs fs
theorem J_new {idx ci N : Nat} {fs : List Value} (hd : decode Y.1.2.1 pc = .ok (.new idx, 3)) (hn : jnw Y.1.1.cls idx ci N fs) (kk : jJ l G Y d bc bs (n + 1) (pc + 3) ls (.ref n :: st) (jup h n (ci, fs)) K) : jJ l G Y d (bc + 1) (bs + N) n pc ls st h K := by
  intro p e R s m args below meth c A H locs cells slots C S L0 L lsR stR C0 hR hL hS hl hst h1 h2 h3 h4
  obtain ⟨q, f1, f2, f3, f4, f5, ty, f6, f7, f8⟩ := hn
  subst f2
  obtain ⟨w1, -, -, hci⟩ := jcls f1
  have hg := C0.2.2.2.2.2.2.2.2.2.2.2.1
  have hK := hg.2.2.2.2.2.1
  have hKn := hK.1 ci _ f1
  have hin : ∀ u ∈ u_ws q.1 q.2.1 q.2.2, u ∈ jgw := fun u hu => jgw_of (w1 u hu) (jgoodU _ _ _ u hu)
  refine W.newcK C0.1 C0.2.1 C0.2.2.2.2.1 (hg.1 _ f3 rfl args) (hg.1 _ f4 rfl args) (hg.1 _ f5 rfl args) rfl hd (by omega) (by omega) hKn.2.1 rfl fun H1 kC hkC e1 z1 o1 => ?_
  have hAn : A H.size := C0.2.2.2.2.2.2.2.2.2.2.2.2 _ hS.1
  have hS1 : va_S A s.heap H1 locs := ⟨Nat.le_trans hS.1 (by omega), fun x g1 g2 => (o1 x (Nat.lt_of_lt_of_le g1 hS.1)).trans (hS.2.1 x g1 g2), hS.2.2⟩
  have hln : L.length = n := hR.1
  refine kk p e R s m args below meth c A H1 locs (cells + 1) (slots + q.2.2) C S L0 (L ++ [H.size]) lsR (.ref H.size :: stR) C0 (hR.push rfl ⟨fs, f8 _, Or.inl ⟨hci, hAn, q, f1, (u_born ty (hg.ts args) hin hKn hkC e1 f6).to f7⟩⟩ o1) (hL.tr (jle.push _)) hS1 ⟨hl.1, hl.2.1, fun i v z => by obtain ⟨w, g1, g2⟩ := hl.2.2 i v z; exact ⟨w, g1.mono (jle.push _), g2⟩⟩ ⟨_, _, rfl, ⟨H.size, by rw [← hln]; simp, rfl⟩, hst.mono (jle.push _)⟩ (by omega) (by omega) h3 h4
theorem J_newa {at0 : ArrayType} {ci N : Nat} {x : Int32} {dv : Value} (hd : decode Y.1.2.1 pc = .ok (.newarray at0, 2)) (hci : 10 ≤ ci ∧ ci < 13) (hty : newarray.typeOf at0 = jty ci) (hw : Cond.arrayClass (jty ci) ∈ lw_tbl) (hx : ¬ x < 0) (hN : x.toNatClampNeg = N) (hb : N * componentBytes (jty ci) ≤ 536870912) (hdv : defaultValue (jty ci) = dv) (hdr : ∀ L, jv L dv dv) (kk : jJ l G Y d bc bs (n + 1) (pc + 2) ls (.ref n :: st) (jup h n (ci, List.replicate N dv)) K) : jJ l G Y d (bc + 1) (bs + N) n pc ls (.int x :: st) h K := by
  intro p e R s m args below meth c A H locs cells slots C S L0 L lsR stR C0 hR hL hS hl hst h1 h2 h3 h4
  obtain ⟨sr, e0, q0⟩ := hst.i
  subst e0
  have hg := C0.2.2.2.2.2.2.2.2.2.2.2.1
  have hT := jarrT hg.2.2.2.2.2.1 (ci := ci) ⟨hci.1, by omega⟩
  refine va_newaK C0.1 C0.2.1 (by rw [hty]; exact hg.1 _ hw rfl args) rfl hd rfl hx hN (by rw [hty]; exact hb) (by omega) (by omega) rfl fun H1 cA e1 z1 o1 hAr hfc => ?_
  rw [hty] at e1 hfc
  have hcA : cA = G.2 ci := by
    have h9 := hT.2
    match ci, hci with
    | 10, _ => exact Option.some.inj (hfc.symm.trans h9)
    | 11, _ => exact Option.some.inj (hfc.symm.trans h9)
    | 12, _ => exact Option.some.inj (hfc.symm.trans h9)
    | 0, h | 1, h | 2, h | 3, h | 4, h | 5, h | 6, h | 7, h | 8, h | 9, h => omega
    | k + 13, h => omega
  subst hcA
  rw [hdv] at e1
  have hAn : A H.size := C0.2.2.2.2.2.2.2.2.2.2.2.2 _ hS.1
  have hS1 : va_S A s.heap H1 locs := ⟨Nat.le_trans hS.1 (by omega), fun x g1 g2 => (o1 x (Nat.lt_of_lt_of_le g1 hS.1)).trans (hS.2.1 x g1 g2), hS.2.2⟩
  have hln : L.length = n := hR.1
  have hrep : ∀ (L : List Nat) (k : Nat), jvs L (List.replicate k dv) (List.replicate k dv) := fun L k => by
    induction k with
    | zero => exact rfl
    | succ k ih => exact ⟨dv, _, rfl, hdr L, ih⟩
  have e2 : H1[H.size]? = some (arrV (G.2 ci) (List.replicate N dv).length (vp_V (List.replicate N dv))) := by
    rw [e1, List.length_replicate]
    refine congrArg some ?_
    unfold arrV
    congr 1
    refine Array.ext (by simp) fun i g1 g2 => ?_
    simp [vp_V, List.getD] at g1 ⊢
  refine kk p e R s m args below meth c A H1 locs (cells + 1) (slots + N) C S L0 (L ++ [H.size]) lsR (.ref H.size :: sr) C0 (hR.push rfl ⟨_, hrep _ N, Or.inr (Or.inl ⟨hci.1, by show ci < 14; omega, hAn, e2⟩)⟩ o1) (hL.tr (jle.push _)) hS1 ⟨hl.1, hl.2.1, fun i v z => by obtain ⟨w, g1, g2⟩ := hl.2.2 i v z; exact ⟨w, g1.mono (jle.push _), g2⟩⟩ ⟨_, _, rfl, ⟨H.size, by rw [← hln]; simp, rfl⟩, q0.mono (jle.push _)⟩ (by omega) (by omega) h3 h4
theorem J_anew {idx N : Nat} {x : Int32} (hd : decode Y.1.2.1 pc = .ok (.anewarray idx, 3)) (hw : Cond.classLink Y.1.1.cls idx "InterchangeDesk$Table" ∈ lw_tbl) (hx : ¬ x < 0) (hN : x.toNatClampNeg = N) (hb : N * 4 ≤ 536870912) (kk : jJ l G Y d bc bs (n + 1) (pc + 3) ls (.ref n :: st) (jup h n (13, List.replicate N .null)) K) : jJ l G Y d (bc + 1) (bs + N) n pc ls (.int x :: st) h K := by
  intro p e R s m args below meth c A H locs cells slots C S L0 L lsR stR C0 hR hL hS hl hst h1 h2 h3 h4
  obtain ⟨sr, e0, q0⟩ := hst.i
  subst e0; subst hN
  have hg := C0.2.2.2.2.2.2.2.2.2.2.2.1
  have hT := jarrT hg.2.2.2.2.2.1 (ci := 13) (by decide)
  refine W.anew C0.1 C0.2.1 C0.2.2.2.2.1 (hg.1 _ hw rfl args) hg.2.2.2.2.2.2.2.2.2.2.use rfl hd rfl hx hb (by omega) (by omega) fun cA kA comp y1 y2 y3 y4 => ?_
  have hcA : cA = G.2 13 := by
    obtain ⟨kA', comp', k1, k2, k3, k4⟩ := hT.2
    exact Option.some.inj (y1.symm.trans k4)
  subst hcA
  rw [arrV_new]
  have hAn : A H.size := C0.2.2.2.2.2.2.2.2.2.2.2.2 _ hS.1
  have o1 : ∀ q, q < H.size → (H.push (arrV (G.2 13) x.toNatClampNeg (fun _ => .null)))[q]? = H[q]? := fun q hq => by
    rw [Array.getElem?_push]; simp [Nat.ne_of_lt hq]
  have hS1 : va_S A s.heap (H.push (arrV (G.2 13) x.toNatClampNeg (fun _ => .null))) locs := ⟨Nat.le_trans hS.1 (by simp), fun x g1 g2 => (o1 x (Nat.lt_of_lt_of_le g1 hS.1)).trans (hS.2.1 x g1 g2), hS.2.2⟩
  have hln : L.length = n := hR.1
  have hrep : ∀ (L : List Nat) (k : Nat), jvs L (List.replicate k .null) (List.replicate k .null) := fun L k => by
    induction k with
    | zero => exact rfl
    | succ k ih => exact ⟨.null, _, rfl, rfl, ih⟩
  have e2 : (H.push (arrV (G.2 13) x.toNatClampNeg (fun _ => .null)))[H.size]? = some (arrV (G.2 13) (List.replicate x.toNatClampNeg Value.null).length (vp_V (List.replicate x.toNatClampNeg .null))) := by
    rw [Array.getElem?_push_size, List.length_replicate]
    refine congrArg some ?_
    unfold arrV
    congr 1
    refine Array.ext (by simp) fun i g1 g2 => ?_
    simp [vp_V, List.getD] at g1 ⊢
  refine kk p e R s m args below meth c A _ locs (cells + 1) (slots + x.toNatClampNeg) C S L0 (L ++ [H.size]) lsR (.ref H.size :: sr) C0 (hR.push rfl ⟨_, hrep _ x.toNatClampNeg, Or.inr (Or.inl ⟨(by decide : 10 ≤ 13), (by decide : 13 < 14), hAn, e2⟩)⟩ o1) (hL.tr (jle.push _)) hS1 ⟨hl.1, hl.2.1, fun i v z => by obtain ⟨w, g1, g2⟩ := hl.2.2 i v z; exact ⟨w, g1.mono (jle.push _), g2⟩⟩ ⟨_, _, rfl, ⟨H.size, by rw [← hln]; simp, rfl⟩, q0.mono (jle.push _)⟩ (by omega) (by omega) h3 h4
theorem J_objInit {idx r : Nat} (hd : decode Y.1.2.1 pc = .ok (.invokespecial idx, 3)) (hw : Cond.methodLink Y.1.1.cls idx objectInit ∈ lw_tbl) (hw2 : Cond.instanceMethod objectInit ∈ lw_tbl) (hw3 : Cond.code objectInit ⟨#[0xb1]⟩ 1 none ∈ lw_tbl) (hd1 : 1 ≤ d) (hs : (st.map fun v => v.category).sum ≤ 8) (kk : jJ l G Y d bc bs n (pc + 3) ls st h K) : jJ l G Y d bc bs n pc ls (.ref r :: st) h K := by
  intro p e R s m args below meth c A H locs cells slots C S L0 L lsR stR C0 hR hL hS hl hst h1 h2 h3 h4
  obtain ⟨a, sr, e1, ha, q1⟩ := hst.r
  subst e1
  have hg := C0.2.2.2.2.2.2.2.2.2.2.2.1
  have hfr := C0.2.2.2.2.2.2.2.2.2.1
  have hlo := C0.2.2.2.2.2.2.2.2.2.2.1
  have hw8 : (sr.map fun v => v.category).sum ≤ 8 := by rw [q1.cat]; exact hs
  refine W.objInit C0.1 C0.2.1 C0.2.2.2.2.1 (hg.1 _ hw rfl args) (hg.1 _ hw2 rfl args) (hg.1 _ hw3 rfl args) rfl (by rw [C0.2.2.2.1]; exact hl.1) rfl hd (by omega) ?_ ?_
  · have := lv_room (m := m) (pc := pc) (ls := lsR) (rest := sr) hw8
    have h9 : 2 * (F0 m pc lsR (.ref a :: sr)).monitorRoom + (sr.map fun v => v.category).sum ≤ 8 := lv_room hw8
    omega
  · exact kk p e R s m args below meth c A H locs cells slots C S L0 L lsR sr C0 hR hL hS hl q1 h1 h2 h3 h4
end JA
end
section
/-! calls -/
theorem jRel.own {G : jG} {A : Nat → Prop} {s U : State} {L : List Nat} {n : Nat} {h : jH} {H : Heap} (sz : Nat) (hs : s.vm.Alike U.vm) (hR : jRel G A s L n h H) : jRel G (jA L h sz) U L n h H := by
  refine ⟨hR.1, hR.2.1, fun k a ha => ?_⟩
  obtain ⟨ws, g1, g2⟩ := hR.2.2 k a ha
  refine ⟨ws, g1, ?_⟩
  rcases g2 with ⟨x, y, z⟩ | ⟨x, x', y, z⟩ | ⟨x, scr, y1, y2, y3⟩ | x
  · exact Or.inl ⟨x, Or.inl ⟨k, ha, by omega⟩, z⟩
  · exact Or.inr (Or.inl ⟨x, x', Or.inl ⟨k, ha, x'⟩, z⟩)
  · exact Or.inr (Or.inr (Or.inl ⟨x, scr, y1, State.isArrayOf_alike hs y2, y3⟩))
  · exact Or.inr (Or.inr (Or.inr x))
theorem jRel.sub {G : jG} {A : Nat → Prop} {s : State} {L : List Nat} {n : Nat} {h : jH} {H : Heap} {locs : List Loc} (hR : jRel G A s L n h H) (hS : va_S A s.heap H locs) (hA : ∀ q, s.heap.size ≤ q → A q) : ∀ q, jA L h H.size q → A q := by
  rintro q (⟨k, hk, hk2⟩ | hq)
  · obtain ⟨ws, g1, g2⟩ := hR.2.2 k q hk
    rcases g2 with ⟨x, y, z⟩ | ⟨x, x', y, z⟩ | ⟨x, scr, y1, y2, y3⟩ | x
    · exact y
    · exact y
    · omega
    · omega
  · exact hA q (Nat.le_trans hS.1 hq)
def jflat (vs : List Value) : List (Option Value) := vs.flatMap fun v => if v.category = 2 then [some v, none] else [some v]
def jent (vs : List Value) (nL : Nat) : List (Option Value) := jflat vs ++ List.replicate (nL - (jflat vs).length) none
theorem jflat_len {L : List Nat} : ∀ {vs ws : List Value}, jvs L vs ws → (lg_sl ws).length = (jflat vs).length
  | [], _, h => by rw [show _ = [] from h]; rfl
  | v :: vs, _, ⟨w, ws', e, h1, h2⟩ => by
    subst e
    have ih := jflat_len h2
    simp only [lg_sl, jflat, List.flatMap_cons, List.length_append] at ih ⊢
    rw [h1.cat, ih]
    split <;> rfl
theorem jflat_get {L : List Nat} : ∀ {vs ws : List Value}, jvs L vs ws → ∀ (i : Nat) (v : Value), (jflat vs)[i]? = some (some v) → ∃ w, jv L v w ∧ (lg_sl ws)[i]? = some (.val w)
  | [], _, h, i, v, hv => by simp [jflat] at hv
  | x :: vs, _, ⟨w, ws', e, h1, h2⟩, i, v, hv => by
    subst e
    have ih := jflat_get h2
    simp only [jflat, lg_sl, List.flatMap_cons] at hv ⊢ ih
    rw [h1.cat]
    split at hv <;> rename_i hcat
    · simp only [hcat, if_true]
      match i, hv with
      | 0, hv => simp at hv; subst hv; exact ⟨w, h1, by simp⟩
      | 1, hv => simp at hv
      | i + 2, hv =>
        obtain ⟨w', g1, g2⟩ := ih i v (by simpa using hv)
        exact ⟨w', g1, by simpa using g2⟩
    · simp only [hcat, if_false]
      match i, hv with
      | 0, hv => simp at hv; subst hv; exact ⟨w, h1, by simp⟩
      | i + 1, hv =>
        obtain ⟨w', g1, g2⟩ := ih i v (by simpa using hv)
        exact ⟨w', g1, by simpa using g2⟩
theorem jent_lv {L : List Nat} {vs ws : List Value} {nL : Nat} (hv : jvs L vs ws) (hn : (jflat vs).length ≤ nL) : jlv L (jent vs nL) ((lg_sl ws ++ List.replicate (nL - (lg_sl ws).length) Slot.unset).toArray) nL := by
  have hlen := jflat_len hv
  have h0 := lv_entry ws (n := nL) (by rw [hlen]; exact hn)
  refine ⟨h0.1, h0.2.1, fun i v hi => ?_⟩
  rcases Nat.lt_or_ge i (jflat vs).length with q | q
  · rw [jent, List.getElem?_append_left q] at hi
    obtain ⟨w, g1, g2⟩ := jflat_get hv i v hi
    refine ⟨w, g1, ?_⟩
    rw [List.getElem?_toArray, List.getElem?_append_left (by rw [hlen]; exact q)]
    exact g2
  · rw [jent, List.getElem?_append_right q] at hi
    have := List.mem_of_getElem? hi
    have := List.eq_of_mem_replicate this
    cases this
section JM
variable {l : Launch} {G : jG}
/-- a method's walk from its entry is its contract -/
theorem jJ.met {Y : jM} {d bc bs n : Nat} {vs : List Value} {h : jH} {K : jK} (hl : l.stackTraces = false) (hpl : plainName Y.1.cls = true) (hn : (jflat vs).length ≤ Y.2.2.1) (k : jJ l G (Y, []) d bc bs n 0 (jent vs Y.2.2.1) [] h K)
    {L : List Nat} {ws : List Value} (hv : jvs L vs ws) (sz : Nat) :
    vx_Met l Y.1 [.code Y.1 Y.2.1 Y.2.2.1 Y.2.2.2] { frames := d, cells := bc, slots := bs, locals := 32 * d } (jPc G L n h ws sz) (jQ G (jA L h sz) L K) (jX G (jA L h sz) L K) bc bs (jA L h sz) := by
  refine vx_ofW (cc := Y.2.1) (maxL := Y.2.2.1) (ret := Y.2.2.2) hpl rfl ?_
  intro p e s m args below meth c s₁ B hml hex hpc
  obtain ⟨rfl, hsz, hg, hR⟩ := hpc
  rw [lg_entry_eq]
  have hemp : c.exceptionTable.toList = [] := by
    cases hh : c.exceptionTable.toList with
    | nil => rfl
    | cons x xs => exact (hex x (by rw [hh]; exact List.mem_cons_self)).elim
  refine k p e _ s m _ below meth c (jA L h sz) s.heap [] 0 0 bc bs L L _ [] ⟨B.exec, B.bytes, B.returns, hml, findClass_of_methodNamed B.named, B.notSynchronized, (name_of_methodNamed B.named B.method).1, by rw [hemp]; rfl, hl, Nat.le_refl _, Nat.le_refl _, hg, fun q hq => Or.inr (hsz ▸ hq)⟩ hR jle.rf va_S.rf (jent_lv hv hn) rfl (by omega) (by omega) (Nat.le_refl _) (Nat.le_refl _)
/-- it doesn't throw -/
theorem vx_nothrow {y : MethodName} {ws : List Cond} {rm : Room} {Pc : Array Value → State → Prop} {Qc : Array Value → State → Outcome → State → Prop} {XC : String → State → State → Prop} {mc ms : Nat} {free : Addr → Prop} (h : vx_Met l y ws rm Pc Qc XC mc ms free) (hX : ∀ E st t, ¬ XC E st t) : Met l y ws rm Pc Qc mc ms free := by
  intro p e ha hc hk s m args below hf happ hP hK
  obtain ⟨n, o, h1, h2, h3, h4⟩ := h p e ha hc hk s m args below hf happ hP hK
  refine ⟨n, o, h1, h2, h3, ?_⟩
  rcases h4 with q | ⟨q, _, E, ce, L, hx, _⟩
  · exact q
  · exact (hX _ _ _ hx).elim
end JM
/-- what is common to all calls of Y: its code, its class, its parameters -/
def jcal (Y : jM) (na : Nat) : Prop :=
  Cond.code Y.1 Y.2.1 Y.2.2.1 Y.2.2.2 ∈ lw_tbl ∧ Cond.initialized Y.1.cls ∈ lw_tbl ∧ (Y.1.cls ≠ "java/lang/invoke/MethodHandle" ∧ Y.1.cls ≠ "java/lang/invoke/VarHandle") ∧ (parseMethodDescriptor Y.1.desc).map (fun d => d.parameters.length) = some na ∧ plainName Y.1.cls = true ∧ Y.2.2.1 ≤ 13
/-- an invokevirtual of Y on the kind ci -/
def jvir (own : String) (idx ci : Nat) (Y : jM) (na : Nat) : Prop :=
  jcal Y na ∧ (∃ q : vw_C, vwCl[ci]? = some q ∧ q.1 = Y.1.cls) ∧ Cond.methodLink own idx Y.1 ∈ lw_tbl ∧ Cond.instanceMethod Y.1 ∈ lw_tbl ∧ Cond.selects Y.1.cls Y.1 Y.1 ∈ lw_tbl
theorem jcal.len {Y : jM} {na : Nat} (h : jcal Y na) : ∀ sig, parseMethodDescriptor Y.1.desc = some sig → na = sig.parameters.length := fun sig hs => by
  have h2 := h.2.2.2.1
  rw [hs] at h2
  exact (Option.some.inj h2).symm
section JC
variable {l : Launch} {G : jG} {Y : jY} {d bc bs n pc : Nat} {ls : List (Option Value)} {st : List Value} {h : jH} {K : jK}
/-- the callee's start, out of the caller's -/
theorem jpre {A : Nat → Prop} {s : State} {L : List Nat} {H : Heap} {locs : List Loc} {ws : List Value} (hg : jg G A s) (hR : jRel G A s L n h H) (hS : va_S A s.heap H locs) (hA : ∀ q, s.heap.size ≤ q → A q) : ∀ U : State, U.heap = H → s.WarmedH U.vm → jPc G L n h ws H.size ws.toArray U := fun U hU hW =>
  ⟨rfl, by rw [hU], hg.next hW hU hS (hR.sub hS hA), by rw [hU]; exact hR.own _ hW.alike⟩
theorem J_callV {idx r ci d' bc' bs' : Nat} {Y' : jM} {fs As : List Value} {ls0 : List (Option Value)} {K' : jK} (hd : decode Y.1.2.1 pc = .ok (.invokevirtual idx, 3)) (hv : jvir Y.1.1.cls idx ci Y' As.length) (hc : h r = (ci, fs)) (hls : ls0 = jent (.ref r :: As) Y'.2.2.1) (hn : (jflat (.ref r :: As)).length ≤ Y'.2.2.1) (hdd : d' + 1 ≤ d) (hw : (st.map fun v => v.category).sum ≤ 8)
    (hM : jJ l G (Y', []) d' bc' bs' n 0 ls0 [] h K')
    (kx : ∀ E n' h', K' (.inr E) n' h' → K (.inr E) n' h' ∧ Y.2 = [])
    (kk : ∀ v n' h', K' (.inl v) n' h' → jJ l G Y d bc bs n' (pc + 3) ls (v.toList ++ st) h' K) : jJ l G Y d (bc + bc') (bs + bs') n pc ls (As.reverse ++ .ref r :: st) h K := by
  intro p e R s m args below meth c A H locs cells slots C S L0 L lsR stR C0 hR hL hS hl hst h1 h2 h3 h4
  subst hls
  obtain ⟨w1, w2, e0, q1, q2⟩ := hst.split
  obtain ⟨a, sr, e1, ha, q3⟩ := q2.r
  subst e1; subst e0
  have qA : jvs L As w1.reverse := by have := q1.rev; rwa [List.reverse_reverse] at this
  have hcl := hR.2.2 r a ha
  rw [hc] at hcl
  obtain ⟨hcal, ⟨q, f1, f2⟩, v1, v2, v3⟩ := hv
  obtain ⟨-, -, -, hci⟩ := jcls f1
  obtain ⟨wf, -, -, r0, y1, cell, y2, y3, y4, -⟩ := hcl.obj hci
  have hg := C0.2.2.2.2.2.2.2.2.2.2.2.1
  have hA := C0.2.2.2.2.2.2.2.2.2.2.2.2
  have hvs : jvs L (.ref r :: As) (.ref a :: w1.reverse) := ⟨_, _, rfl, ⟨a, ha, rfl⟩, qA⟩
  have hMet := hM.met C0.2.2.2.2.2.2.2.2.1 hcal.2.2.2.2.1 hn hvs H.size
  have hfr := C0.2.2.2.2.2.2.2.2.2.1
  have hlo := C0.2.2.2.2.2.2.2.2.2.2.1
  have hlen : w1.reverse.length = As.length := qA.len
  have hrun := vx_runV (Ts := jgw) (n := As.length) (g := F0 m pc lsR (w1 ++ .ref a :: sr)) (b := a) (As := w1.reverse) (rest := sr) (own := Y.1.1.cls) (C := Y'.1.cls) (e := e) (below := below) (meth := meth) (locs := locs) (cells := cells) (slots := slots) ⟨C0.1, C0.2.1, C0.2.2.2.1, C0.2.2.2.2.1, hg.ts args⟩ hMet
    (R := R) ⟨⟨rfl, rfl, by show d' + 1 ≤ R.frames; omega, by show 8 + (Y'.2.2.1 + 11) + 32 * d' ≤ R.locals; have := hcal.2.2.2.2.2; omega, fun w hw a' U hW => by rw [List.mem_singleton.mp hw]; exact word_at hW (good_of_word rfl) (hg.1 _ hcal.1 rfl args), List.mem_singleton.mpr rfl, hg.1 _ hcal.1 rfl args, hg.1 _ hcal.2.1 rfl args, hcal.2.2.1, hcal.len, hg.1 _ v1 rfl args⟩, hg.1 _ v2 rfl args, hg.1 _ v3 rfl args⟩
    ⟨jPc.blind, ⟨cell, y2, by rw [y4]; rfl, by rw [y3, ← f2]; exact (hg.2.2.2.2.2.1.1 ci q f1).2.1⟩, jpre hg hR hS hA⟩ rfl hlen hl.1 (by rw [List.reverse_reverse]) (lv_room (by rw [q3.cat]; exact hw)) hd ⟨by omega, by omega⟩
  have hsub := hR.sub hS hA
  intro T hT X
  rcases hrun T hT X with ⟨v, st₀, t, T', Lc, g0, X', hLc, e1, e2, ⟨v0, v', L', n', h', z1, z2, z3, z4, z5, z6⟩, stp⟩ | ⟨qx, st₀, t, T', Lc, E, ce, g0, X', hLc, e1, e2, ⟨L', n', h', z3, z4, z5, z6⟩, hce, hcv, hcls, stp⟩
  · cases z1
    obtain ⟨k1, k2, k3⟩ := vx_keep g0 e1 hS (fun q _ hq => hsub q hq) hsub hLc z6
    have hal : t.vm.Alike s.vm := by rw [← e2]; exact X'.warmed.alike.symm
    have hR' : jRel G A s L' n' h' T'.heap := by rw [e1]; exact z5.mono hsub hal
    have hres : jvs L' (v0.toList ++ st) (v.toList ++ sr) := by
      cases v0 with
      | none => rw [show v = none from z2]; exact q3.mono z4
      | some u => obtain ⟨w', g1, g2⟩ := z2; subst g1; exact ⟨w', sr, rfl, g2, q3.mono z4⟩
    obtain ⟨t2, a1, b1⟩ := kk v0 n' h' z3 p e R s m args below meth c A T'.heap (locs ++ Lc) (cells + bc') (slots + bs') C S L0 L' lsR (v.toList ++ sr) C0 hR' (hL.tr z4) k3 ⟨hl.1, hl.2.1, fun i v z => by obtain ⟨w, g1, g2⟩ := hl.2.2 i v z; exact ⟨w, g1.mono z4, g2⟩⟩ hres (by omega) (by omega) h3 h4 T' rfl X'
    exact ⟨t2, stp t2 a1, b1⟩
  · obtain ⟨k1, k2, k3⟩ := vx_keep g0 e1 hS (fun q _ hq => hsub q hq) hsub hLc z6
    have hal : t.vm.Alike s.vm := by rw [← e2]; exact X'.warmed.alike.symm
    obtain ⟨kx1, kx2⟩ := kx E n' h' z3
    have hemp : c.exceptionTable.toList = [] := by
      have h9 := C0.2.2.2.2.2.2.2.1
      rw [kx2] at h9
      exact List.map_eq_nil_iff.mp h9
    obtain ⟨t2, a1, b1⟩ := vx_out (p := p) (l := l) (e := e) (R := R) (s := s) (m := m) (args := args) (below := below) (meth := meth) (c := c) (H := T'.heap) (locs := locs ++ Lc) (cells := cells + bc') (slots := slots + bs') (Qc := jQ G A L0 K) (XC := jX G A L0 K) (free := A) (mc := C) (ms := S) (pc := pc) (ls := lsR) (rest := sr) (q := qx) (ce := ce) (E := E) (by rw [hemp]; intro x hx; cases hx) C0.2.2.2.2.2.1 (by rw [e1]; exact hce) hcv hcls
      (fun t' ht' ha' => ⟨L', n', h', kx1, hL.tr z4, by rw [ht', e1]; exact z5.mono hsub (hal.trans ha'), k3.F ht'⟩) k3.2.2 (by omega) (by omega) T' rfl X'
    exact ⟨t2, stp.trans a1, b1⟩
end JC
end
section
section JD
variable {l : Launch} {G : jG} {Y : jY} {d bc bs n pc : Nat} {ls : List (Option Value)} {st : List Value} {h : jH} {K : jK}
/-- behind a call that returned -/
theorem jrun {p : Program} {e : Env} {R : Room} {s : State} {m : MethodId} {args : Array Value} {below : List Frame} {meth : Method} {c : Code} {A : Nat → Prop} {H : Heap} {locs : List Loc} {cells slots C S : Nat} {L0 L : List Nat} {lsR : Array Slot} {stR sr : List Value} {bc' bs' : Nat} {K' : jK} {av : Array Value}
    (C0 : jCtx l G Y d p R s m args meth c A) (hR : jRel G A s L n h H) (hL : jle L0 L) (hS : va_S A s.heap H locs) (hl : jlv L ls lsR Y.1.2.2.1) (h1 : cells + (bc + bc') ≤ C) (h2 : slots + (bs + bs') ≤ S) (h3 : C ≤ R.cells) (h4 : S ≤ R.slots) (q3 : jvs L st sr)
    (hrun : va_Run p l e R s m args below meth c H locs cells slots bc' bs' (F0 m pc lsR stR) sr (jQ G (jA L h H.size) L K' av) (jA L h H.size))
    (kk : ∀ v n' h', K' (.inl v) n' h' → jJ l G Y d bc bs n' (pc + 3) ls (v.toList ++ st) h' K) :
    W p l e R s m args below meth c H locs cells slots (vx_MQ below (jQ G A L0 K) (jX G A L0 K) args s C S A) (F0 m pc lsR stR) := by
  have hsub := hR.sub hS C0.2.2.2.2.2.2.2.2.2.2.2.2
  intro T hT X
  obtain ⟨v, st₀, t, T', Lc, g0, X', hLc, e1, e2, ⟨v0, v', L', n', h', z1, z2, z3, z4, z5, z6⟩, stp⟩ := hrun T hT X
  cases z1
  obtain ⟨k1, k2, k3⟩ := vx_keep g0 e1 hS (fun q _ hq => hsub q hq) hsub hLc z6
  have hal : t.vm.Alike s.vm := by rw [← e2]; exact X'.warmed.alike.symm
  have hR' : jRel G A s L' n' h' T'.heap := by rw [e1]; exact z5.mono hsub hal
  have hres : jvs L' (v0.toList ++ st) (v.toList ++ sr) := by
    cases v0 with
    | none => rw [show v = none from z2]; exact q3.mono z4
    | some u => obtain ⟨w', g1, g2⟩ := z2; subst g1; exact ⟨w', sr, rfl, g2, q3.mono z4⟩
  obtain ⟨t2, a1, b1⟩ := kk v0 n' h' z3 p e R s m args below meth c A T'.heap (locs ++ Lc) (cells + bc') (slots + bs') C S L0 L' lsR (v.toList ++ sr) C0 hR' (hL.tr z4) k3 ⟨hl.1, hl.2.1, fun i v z => by obtain ⟨w, g1, g2⟩ := hl.2.2 i v z; exact ⟨w, g1.mono z4, g2⟩⟩ hres (by omega) (by omega) h3 h4 T' rfl X'
  exact ⟨t2, stp t2 a1, b1⟩
def jini (own : String) (idx : Nat) (Y : jM) (na : Nat) : Prop := jcal Y na ∧ Y.1.name = "<init>" ∧ Y.2.2.2 = none ∧ Cond.methodLink own idx Y.1 ∈ lw_tbl ∧ Cond.instanceMethod Y.1 ∈ lw_tbl
def jinN (own : String) (idx : Nat) (host : String) (Y : jM) (na : Nat) : Prop := jcal Y na ∧ Y.1.name = "<init>" ∧ Y.2.2.2 = none ∧ Cond.methodLinkNest own idx Y.1 host ∈ lw_tbl ∧ Cond.instanceMethod Y.1 ∈ lw_tbl
def jsta (own : String) (idx : Nat) (Y : jM) (na : Nat) : Prop := jcal Y na ∧ Cond.methodLink own idx Y.1 ∈ lw_tbl ∧ Cond.static Y.1 ∈ lw_tbl
def jstN (own : String) (idx : Nat) (host : String) (Y : jM) (na : Nat) : Prop := jcal Y na ∧ Cond.methodLinkNest own idx Y.1 host ∈ lw_tbl ∧ Cond.static Y.1 ∈ lw_tbl
theorem J_callI {idx r d' bc' bs' : Nat} {Y' : jM} {As : List Value} {ls0 : List (Option Value)} {K' : jK} (hd : decode Y.1.2.1 pc = .ok (.invokespecial idx, 3)) (hv : jini Y.1.1.cls idx Y' As.length) (hls : ls0 = jent (.ref r :: As) Y'.2.2.1) (hn : (jflat (.ref r :: As)).length ≤ Y'.2.2.1) (hdd : d' + 1 ≤ d) (hw : (st.map fun v => v.category).sum ≤ 8)
    (hM : jJ l G (Y', []) d' bc' bs' n 0 ls0 [] h K') (kx : ∀ E n' h', ¬ K' (.inr E) n' h')
    (kk : ∀ v n' h', K' (.inl v) n' h' → jJ l G Y d bc bs n' (pc + 3) ls (v.toList ++ st) h' K) : jJ l G Y d (bc + bc') (bs + bs') n pc ls (As.reverse ++ .ref r :: st) h K := by
  intro p e R s m args below meth c A H locs cells slots C S L0 L lsR stR C0 hR hL hS hl hst h1 h2 h3 h4
  subst hls
  obtain ⟨w1, w2, e0, q1, q2⟩ := hst.split
  obtain ⟨a, sr, e1, ha, q3⟩ := q2.r
  subst e1; subst e0
  have qA : jvs L As w1.reverse := by have := q1.rev; rwa [List.reverse_reverse] at this
  have hg := C0.2.2.2.2.2.2.2.2.2.2.2.1
  have hA := C0.2.2.2.2.2.2.2.2.2.2.2.2
  have hvs : jvs L (.ref r :: As) (.ref a :: w1.reverse) := ⟨_, _, rfl, ⟨a, ha, rfl⟩, qA⟩
  obtain ⟨hcal, hyn, hret, v1, v2⟩ := hv
  have hMet := vx_nothrow (hM.met C0.2.2.2.2.2.2.2.2.1 hcal.2.2.2.2.1 hn hvs H.size) (fun E st t hx => by obtain ⟨_, _, _, z, _⟩ := hx; exact kx _ _ _ z)
  have hfr := C0.2.2.2.2.2.2.2.2.2.1
  have hlo := C0.2.2.2.2.2.2.2.2.2.2.1
  rw [hret] at hMet
  have hcode : Cond.code Y'.1 Y'.2.1 Y'.2.2.1 none ∈ lw_tbl := by rw [← hret]; exact hcal.1
  refine jrun (bc' := bc') (bs' := bs') (av := (Value.ref a :: w1.reverse).toArray) C0 hR hL hS hl h1 h2 h3 h4 q3 ?_ kk
  refine va_runI (Ts := jgw) (n := As.length) (b := a) (As := w1.reverse) (rest := sr) (own := Y.1.1.cls) ⟨C0.1, C0.2.1, C0.2.2.2.1, C0.2.2.2.2.1, hg.ts args⟩ hMet
    ⟨⟨rfl, rfl, by show d' + 1 ≤ R.frames; omega, by show 8 + (Y'.2.2.1 + 11) + 32 * d' ≤ R.locals; have := hcal.2.2.2.2.2; omega, fun w hw a' U hW => by rw [List.mem_singleton.mp hw]; exact word_at hW (good_of_word rfl) (hg.1 _ hcode rfl args), List.mem_singleton.mpr rfl, hg.1 _ hcode rfl args, hg.1 _ hcal.2.1 rfl args, hcal.2.2.1, hcal.len, hg.1 _ v1 rfl args⟩, hyn, hg.1 _ v2 rfl args⟩
    ⟨jPc.blind, jpre hg hR hS hA⟩ rfl qA.len hl.1 (by rw [List.reverse_reverse]) (lv_room (by rw [q3.cat]; exact hw)) hd ⟨by omega, by omega⟩
theorem J_callIN {idx r d' bc' bs' : Nat} {host : String} {Y' : jM} {As : List Value} {ls0 : List (Option Value)} {K' : jK} (hd : decode Y.1.2.1 pc = .ok (.invokespecial idx, 3)) (hv : jinN Y.1.1.cls idx host Y' As.length) (hls : ls0 = jent (.ref r :: As) Y'.2.2.1) (hn : (jflat (.ref r :: As)).length ≤ Y'.2.2.1) (hdd : d' + 1 ≤ d) (hw : (st.map fun v => v.category).sum ≤ 8)
    (hM : jJ l G (Y', []) d' bc' bs' n 0 ls0 [] h K') (kx : ∀ E n' h', ¬ K' (.inr E) n' h')
    (kk : ∀ v n' h', K' (.inl v) n' h' → jJ l G Y d bc bs n' (pc + 3) ls (v.toList ++ st) h' K) : jJ l G Y d (bc + bc') (bs + bs') n pc ls (As.reverse ++ .ref r :: st) h K := by
  intro p e R s m args below meth c A H locs cells slots C S L0 L lsR stR C0 hR hL hS hl hst h1 h2 h3 h4
  subst hls
  obtain ⟨w1, w2, e0, q1, q2⟩ := hst.split
  obtain ⟨a, sr, e1, ha, q3⟩ := q2.r
  subst e1; subst e0
  have qA : jvs L As w1.reverse := by have := q1.rev; rwa [List.reverse_reverse] at this
  have hg := C0.2.2.2.2.2.2.2.2.2.2.2.1
  have hA := C0.2.2.2.2.2.2.2.2.2.2.2.2
  have hvs : jvs L (.ref r :: As) (.ref a :: w1.reverse) := ⟨_, _, rfl, ⟨a, ha, rfl⟩, qA⟩
  obtain ⟨hcal, hyn, hret, v1, v2⟩ := hv
  have hMet := vx_nothrow (hM.met C0.2.2.2.2.2.2.2.2.1 hcal.2.2.2.2.1 hn hvs H.size) (fun E st t hx => by obtain ⟨_, _, _, z, _⟩ := hx; exact kx _ _ _ z)
  have hfr := C0.2.2.2.2.2.2.2.2.2.1
  have hlo := C0.2.2.2.2.2.2.2.2.2.2.1
  rw [hret] at hMet
  have hcode : Cond.code Y'.1 Y'.2.1 Y'.2.2.1 none ∈ lw_tbl := by rw [← hret]; exact hcal.1
  refine jrun (bc' := bc') (bs' := bs') (av := (Value.ref a :: w1.reverse).toArray) C0 hR hL hS hl h1 h2 h3 h4 q3 ?_ kk
  refine va_runIN (Ts := jgw) (n := As.length) (b := a) (As := w1.reverse) (rest := sr) (own := Y.1.1.cls) (host := host) ⟨C0.1, C0.2.1, C0.2.2.2.1, C0.2.2.2.2.1, hg.ts args⟩ hMet
    ⟨⟨⟨rfl, rfl, by show d' + 1 ≤ R.frames; omega, by show 8 + (Y'.2.2.1 + 11) + 32 * d' ≤ R.locals; have := hcal.2.2.2.2.2; omega, fun w hw a' U hW => by rw [List.mem_singleton.mp hw]; exact word_at hW (good_of_word rfl) (hg.1 _ hcode rfl args), List.mem_singleton.mpr rfl⟩, hg.1 _ hcode rfl args, hg.1 _ hcal.2.1 rfl args, hcal.2.2.1, hcal.len, va_Nw.use rfl (hg.2.1 _ _ _ _ v1)⟩, hyn, hg.1 _ v2 rfl args⟩
    ⟨jPc.blind, jpre hg hR hS hA⟩ rfl qA.len hl.1 (by rw [List.reverse_reverse]) (lv_room (by rw [q3.cat]; exact hw)) hd ⟨by omega, by omega⟩
theorem J_callS {idx d' bc' bs' : Nat} {Y' : jM} {As : List Value} {ls0 : List (Option Value)} {K' : jK} (hd : decode Y.1.2.1 pc = .ok (.invokestatic idx, 3)) (hv : jsta Y.1.1.cls idx Y' As.length) (hls : ls0 = jent As Y'.2.2.1) (hn : (jflat As).length ≤ Y'.2.2.1) (hdd : d' + 1 ≤ d) (hw : (st.map fun v => v.category).sum ≤ 8)
    (hM : jJ l G (Y', []) d' bc' bs' n 0 ls0 [] h K') (kx : ∀ E n' h', ¬ K' (.inr E) n' h')
    (kk : ∀ v n' h', K' (.inl v) n' h' → jJ l G Y d bc bs n' (pc + 3) ls (v.toList ++ st) h' K) : jJ l G Y d (bc + bc') (bs + bs') n pc ls (As.reverse ++ st) h K := by
  intro p e R s m args below meth c A H locs cells slots C S L0 L lsR stR C0 hR hL hS hl hst h1 h2 h3 h4
  subst hls
  obtain ⟨w1, w2, e0, q1, q2⟩ := hst.split
  subst e0
  have qA : jvs L As w1.reverse := by have := q1.rev; rwa [List.reverse_reverse] at this
  have hg := C0.2.2.2.2.2.2.2.2.2.2.2.1
  have hA := C0.2.2.2.2.2.2.2.2.2.2.2.2
  have hvs := qA
  obtain ⟨hcal, v1, v2⟩ := hv
  have hMet := vx_nothrow (hM.met C0.2.2.2.2.2.2.2.2.1 hcal.2.2.2.2.1 hn hvs H.size) (fun E st t hx => by obtain ⟨_, _, _, z, _⟩ := hx; exact kx _ _ _ z)
  have hfr := C0.2.2.2.2.2.2.2.2.2.1
  have hlo := C0.2.2.2.2.2.2.2.2.2.2.1
  have hcode := hcal.1
  refine jrun (bc' := bc') (bs' := bs') (av := w1.reverse.toArray) C0 hR hL hS hl h1 h2 h3 h4 q2 ?_ kk
  refine va_runS (Ts := jgw) (n := As.length) (As := w1.reverse) (rest := w2) (own := Y.1.1.cls) ⟨C0.1, C0.2.1, C0.2.2.2.1, C0.2.2.2.2.1, hg.ts args⟩ hMet
    ⟨⟨rfl, rfl, by show d' + 1 ≤ R.frames; omega, by show 8 + (Y'.2.2.1 + 11) + 32 * d' ≤ R.locals; have := hcal.2.2.2.2.2; omega, fun w hw a' U hW => by rw [List.mem_singleton.mp hw]; exact word_at hW (good_of_word rfl) (hg.1 _ hcode rfl args), List.mem_singleton.mpr rfl, hg.1 _ hcode rfl args, hg.1 _ hcal.2.1 rfl args, hcal.2.2.1, hcal.len, hg.1 _ v1 rfl args⟩, hg.1 _ v2 rfl args⟩
    ⟨jPc.blind, jpre hg hR hS hA⟩ rfl qA.len hl.1 (by rw [List.reverse_reverse]) (lv_room (by rw [q2.cat]; exact hw)) hd ⟨by omega, by omega⟩
theorem J_callSN {idx d' bc' bs' : Nat} {host : String} {Y' : jM} {As : List Value} {ls0 : List (Option Value)} {K' : jK} (hd : decode Y.1.2.1 pc = .ok (.invokestatic idx, 3)) (hv : jstN Y.1.1.cls idx host Y' As.length) (hls : ls0 = jent As Y'.2.2.1) (hn : (jflat As).length ≤ Y'.2.2.1) (hdd : d' + 1 ≤ d) (hw : (st.map fun v => v.category).sum ≤ 8)
    (hM : jJ l G (Y', []) d' bc' bs' n 0 ls0 [] h K') (kx : ∀ E n' h', ¬ K' (.inr E) n' h')
    (kk : ∀ v n' h', K' (.inl v) n' h' → jJ l G Y d bc bs n' (pc + 3) ls (v.toList ++ st) h' K) : jJ l G Y d (bc + bc') (bs + bs') n pc ls (As.reverse ++ st) h K := by
  intro p e R s m args below meth c A H locs cells slots C S L0 L lsR stR C0 hR hL hS hl hst h1 h2 h3 h4
  subst hls
  obtain ⟨w1, w2, e0, q1, q2⟩ := hst.split
  subst e0
  have qA : jvs L As w1.reverse := by have := q1.rev; rwa [List.reverse_reverse] at this
  have hg := C0.2.2.2.2.2.2.2.2.2.2.2.1
  have hA := C0.2.2.2.2.2.2.2.2.2.2.2.2
  have hvs := qA
  obtain ⟨hcal, v1, v2⟩ := hv
  have hMet := vx_nothrow (hM.met C0.2.2.2.2.2.2.2.2.1 hcal.2.2.2.2.1 hn hvs H.size) (fun E st t hx => by obtain ⟨_, _, _, z, _⟩ := hx; exact kx _ _ _ z)
  have hfr := C0.2.2.2.2.2.2.2.2.2.1
  have hlo := C0.2.2.2.2.2.2.2.2.2.2.1
  have hcode := hcal.1
  refine jrun (bc' := bc') (bs' := bs') (av := w1.reverse.toArray) C0 hR hL hS hl h1 h2 h3 h4 q2 ?_ kk
  refine va_runSN (Ts := jgw) (n := As.length) (As := w1.reverse) (rest := w2) (own := Y.1.1.cls) (host := host) ⟨C0.1, C0.2.1, C0.2.2.2.1, C0.2.2.2.2.1, hg.ts args⟩ hMet
    ⟨⟨⟨rfl, rfl, by show d' + 1 ≤ R.frames; omega, by show 8 + (Y'.2.2.1 + 11) + 32 * d' ≤ R.locals; have := hcal.2.2.2.2.2; omega, fun w hw a' U hW => by rw [List.mem_singleton.mp hw]; exact word_at hW (good_of_word rfl) (hg.1 _ hcode rfl args), List.mem_singleton.mpr rfl⟩, hg.1 _ hcode rfl args, hg.1 _ hcal.2.1 rfl args, hcal.2.2.1, hcal.len, va_Nw.use rfl (hg.2.1 _ _ _ _ v1)⟩, hg.1 _ v2 rfl args, trivial⟩
    ⟨jPc.blind, jpre hg hR hS hA⟩ rfl qA.len hl.1 (by rw [List.reverse_reverse]) (lv_room (by rw [q2.cat]; exact hw)) hd ⟨by omega, by omega⟩
end JD
end
section
/-- a word that jg keeps -/
def jok (w : Cond) : Bool := goodWord w || match w with
  | .castable _ _ => true
  | .declares _ => true
  | _ => false
theorem jg.ok {G : jG} {A : Nat → Prop} {s : State} (hg : jg G A s) {w : Cond} (hw : w ∈ lw_tbl) (h : jok w = true) (args : Array Value) : w.before args s = true := by
  simp only [jok, Bool.or_eq_true] at h
  rcases h with h | h
  · exact hg.1 w hw h args
  · split at h
    · exact va_Nw.use rfl (hg.2.2.2.2.2.2.2.2.1 _ _ hw)
    · exact va_Nw.use rfl (hg.2.2.2.2.2.2.2.2.2.1 _ hw)
    · cases h
/-- own can throw a new cls with the text at the entry is: entries ik, is, ic -/
def jthr (own : String) (ik is ic : Nat) (cls text : String) : Prop :=
  Bundle.fit cls = true ∧ Cond.classLink own ik cls ∈ lw_tbl ∧ Cond.initialized cls ∈ lw_tbl ∧ Cond.stringRef own is text ∈ lw_tbl ∧ (∀ w ∈ vx_atS own ic cls ["java/lang/RuntimeException", "java/lang/Exception"], w ∈ lw_tbl ∧ jok w = true ∧ vx_ot w = true)
theorem jthr_of {own : String} {ik is ic : Nat} {cls text : String} (h1 : Bundle.fit cls = true) (h2 : Cond.classLink own ik cls ∈ lw_tbl) (h3 : Cond.initialized cls ∈ lw_tbl) (h4 : Cond.stringRef own is text ∈ lw_tbl) (h5 : (vx_atS own ic cls ["java/lang/RuntimeException", "java/lang/Exception"]).all (fun w => decide (w ∈ lw_tbl) && (jok w && vx_ot w)) = true) : jthr own ik is ic cls text :=
  ⟨h1, h2, h3, h4, fun w hw => by
    have := List.all_eq_true.mp h5 w hw
    simp only [Bool.and_eq_true, decide_eq_true_eq] at this
    exact this⟩
section JT
variable {l : Launch} {G : jG} {Y : jY} {d bc bs n pc : Nat} {ls : List (Option Value)} {st : List Value} {h : jH} {K : jK}
theorem J_throw {ik is ic : Nat} {cls text : String} (d0 : decode Y.1.2.1 pc = .ok (.new ik, 3)) (d3 : decode Y.1.2.1 (pc + 3) = .ok (.dup, 1)) (d4 : decode Y.1.2.1 (pc + 4) = .ok (.ldc is, 2)) (d6 : decode Y.1.2.1 (pc + 6) = .ok (.invokespecial ic, 3)) (d9 : decode Y.1.2.1 (pc + 9) = .ok (.athrow, 1))
    (ht : jthr Y.1.1.cls ik is ic cls text) (hd6 : 6 ≤ d) (hw : (st.map fun v => v.category).sum ≤ 8) (hT : Y.2 = []) (hK : K (.inr cls) n h) : jJ l G Y d (bc + 1) (bs + 6) n pc ls st h K := by
  intro p e R s m args below meth c A H locs cells slots C S L0 L lsR stR C0 hR hL hS hl hst h1 h2 h3 h4
  obtain ⟨t1, t2, t3, t4, t5⟩ := ht
  have hg := C0.2.2.2.2.2.2.2.2.2.2.2.1
  have hfr := C0.2.2.2.2.2.2.2.2.2.1
  have hlo := C0.2.2.2.2.2.2.2.2.2.2.1
  obtain ⟨sa, hsa⟩ := hg.2.2.1 _ _ _ t4
  have hemp : c.exceptionTable.toList = [] := by
    have h9 := C0.2.2.2.2.2.2.2.1
    rw [hT] at h9
    exact List.map_eq_nil_iff.mp h9
  have hcat : (stR.map fun v => v.category).sum ≤ 8 := by rw [hst.cat]; exact hw
  refine vx_throwS (names := ["java/lang/RuntimeException", "java/lang/Exception"]) C0.1 C0.2.1 C0.2.2.2.2.2.2.2.2.1 C0.2.2.2.2.1 t1 (by decide) (hg.1 _ t2 rfl args) (hg.1 _ t3 rfl args) hsa (fun w hw => hg.ok (t5 w hw).1 (t5 w hw).2.1 args) ?_ hg.2.2.2.1 hg.2.2.2.2.1 hS (by rw [C0.2.2.2.1]; exact hl.1) d0 d3 d4 d6 d9 (by rw [hemp]; intro x hx; cases hx) (by show 2 + 3 < R.frames; omega) (by show _ + (13 * (2 + 1) + 43) ≤ R.locals; omega) (by omega) (by omega) C0.2.2.2.2.2.1 ?_ hS.2.2 (by omega) (by omega)
  · intro w hw
    rcases List.mem_cons.mp hw with e1 | hw
    · rw [e1]; rfl
    · rcases List.mem_cons.mp hw with e1 | hw
      · rw [e1]; rfl
      · exact (t5 w hw).2.2
  · intro t hal hsz hk
    refine ⟨L, n, h, hK, hL, ⟨hR.1, hR.2.1, fun k a ha => ?_⟩, Nat.le_trans hS.1 hsz, fun q hq hnA => (hk q (Nat.lt_of_lt_of_le hq hS.1)).trans (hS.2.1 q hq hnA)⟩
    have hcl := hR.2.2 k a ha
    exact (hcl.kept fun hx => hk a (hcl.lt hx)).mono (fun _ z => z) hal jle.rf
theorem J_mmax {idx : Nat} {x y : Int32} (hd : decode Y.1.2.1 pc = .ok (.invokestatic idx, 3)) (hw : Cond.methodLink Y.1.1.cls idx Lib.Math.max.name ∈ lw_tbl) (hw2 : Cond.static Lib.Math.max.name ∈ lw_tbl) (hw3 : Cond.initialized "java/lang/Math" ∈ lw_tbl) (hw4 : Cond.code Lib.Math.max.name Lib.Math.max.code 2 (some .int) ∈ lw_tbl) (hd1 : 1 ≤ d) (hs : (st.map fun v => v.category).sum ≤ 8) (kk : jJ l G Y d bc bs n (pc + 3) ls (.int (if x < y then y else x) :: st) h K) : jJ l G Y d bc bs n pc ls (.int y :: .int x :: st) h K := by
  intro p e R s m args below meth c A H locs cells slots C S L0 L lsR stR C0 hR hL hS hl hst h1 h2 h3 h4
  obtain ⟨s1, e1, q1⟩ := hst.i
  obtain ⟨sr, e2, q2⟩ := q1.i
  subst e2; subst e1
  have hg := C0.2.2.2.2.2.2.2.2.2.2.2.1
  have hfr := C0.2.2.2.2.2.2.2.2.2.1
  have hlo := C0.2.2.2.2.2.2.2.2.2.2.1
  have hcat : (sr.map fun v => v.category).sum ≤ 8 := by rw [q2.cat]; exact hs
  exact va_mmax C0.1 C0.2.1 (C0.2.2.2.1.trans hl.1.symm) C0.2.2.2.2.1 (hg.1 _ hw rfl args) (hg.1 _ hw2 rfl args) (hg.1 _ hw3 rfl args) (hg.1 _ hw4 rfl args) (by omega) (by omega) (by omega) (by omega) hd (kk p e R s m args below meth c A H locs cells slots C S L0 L lsR (.int (if x < y then y else x) :: sr) C0 hR hL hS hl q2.ic h1 h2 h3 h4)
end JT
end
section
/-! an exception of a callee, caught by this method's own table; the class that a row names may be resolved here for the first time -/
/-- one row that covers the place: its class is linked; either it takes the object or the search goes on -/
theorem jx_row {Q : Handler → Pre} {E : CtlPost} {e : Env} {d : Bool} {acts : List Action} {s : State} {f : JFrame} {a : Addr} {x : ExceptionTableEntry} {t : List ExceptionTableEntry} {k : ClassId} {cell : Cell} (hx : covers x f.pc = true) (h0 : x.catchType ≠ 0)
    (hl : s.vm.ClassLinks e.platform f.method.cls x.catchType k) (hcell : s.heap[a]? = some cell) (hobj : ∀ z, cell.vm ≠ .statics z) (hk : ∃ z, s.vm.classes[cell.cls]? = some z) (hc : ∃ z, s.vm.classes[k]? = some z) :
    wp (findHandler.go f a (x :: t)) Q E e d acts s ↔ if s.vm.assignable cell.cls k = true then Q (.found x.handlerPc) d acts (s.setVm (s.vm.noted f.method.cls x.catchType (.cls k))) else wp (findHandler.go f a t) Q E e d acts (s.setVm (s.vm.noted f.method.cls x.catchType (.cls k))) := by
  simp only [covers] at hx
  have hal : s.vm.Alike (s.vm.noted f.method.cls x.catchType (.cls k)) := Vm.Alike.noted (Vm.Alike.refl s.vm) _ _ _
  have hop := (resolveClass_links e.toSetting hl).op (op := VmOp.resolveClass f.method.cls x.catchType) rfl
  obtain ⟨z1, hz1⟩ := hk
  obtain ⟨z2, hz2⟩ := hc
  obtain ⟨y1, hy1, -⟩ := hal.2.2 _ _ hz1
  obtain ⟨y2, hy2, -⟩ := hal.2.2 _ _ hz2
  have has := hal.assignable cell.cls k
  by_cases hb : s.vm.assignable cell.cls k = true
  · rw [hb] at has
    simp [findHandler.go, hx, h0, hop.1, hop.2, hcell, hobj, hy1, hy2, has, hb, VmOp.dirties, VmOp.acts]
  · have hb' : s.vm.assignable cell.cls k = false := by simpa using hb
    rw [hb'] at has
    simp [findHandler.go, hx, h0, hop.1, hop.2, hcell, hobj, hy1, hy2, has, hb', VmOp.dirties, VmOp.acts]
/-- exceptions of the class E are not of the class nm -/
def jno (E nm : String) : Prop := (E = "java/lang/IllegalStateException" ∨ E = "java/lang/UnsupportedOperationException") ∧ nm = "java/lang/IllegalArgumentException"
/-- at pc the table takes an E to the handler t -/
def jcat (own : String) (pc : Nat) (E : String) : List (Nat × Nat × Nat × Nat) → Nat → Prop
  | [], _ => False
  | x :: r, t => (x.1 ≤ pc ∧ pc < x.2.1) ∧ x.2.2.2 ≠ 0 ∧ ∃ nm, Cond.classLink own x.2.2.2 nm ∈ lw_tbl ∧ ((nm = E ∧ Cond.castable E E ∈ lw_tbl ∧ t = x.2.2.1) ∨ (jno E nm ∧ jcat own pc E r t))
theorem jx_go {G : jG} {A : Nat → Prop} {s : State} {e : Env} {own E : String} {f : JFrame} {a : Addr} {cell : Cell} (hpl : e.platform.magicAccessors = ({} : Platform).magicAccessors) (hg : jg G A s) (hown : s.vm.findClass own = some f.method.cls) (hvm : cell.vm = .none) (hcl : s.vm.findClass E = some cell.cls) :
    ∀ (xs : List ExceptionTableEntry) (t : Nat) (S : State), jcat own f.pc E (xs.map fun x => (x.startPc, x.endPc, x.handlerPc, x.catchType)) t → s.WarmedH S.vm → S.heap[a]? = some cell →
      ∃ vm', s.WarmedH vm' ∧ ∀ (Q : Handler → Pre) (E : CtlPost) (d : Bool) (acts : List Action), wp (findHandler.go f a xs) Q E e d acts S ↔ Q (.found t) d acts (S.setVm vm') := by
  obtain ⟨k0, hk0⟩ := Vm.classAt_of_findClass hcl
  intro xs
  induction xs with
  | nil => intro t S h; exact h.elim
  | cons x xs ih =>
    intro t S h hW hcell
    obtain ⟨hcov, h0, nm, hnm, hor⟩ := h
    obtain ⟨k, hfk, hlk⟩ := Cond.classLink_spec hown (hg.1 _ hnm rfl #[]) e.platform hpl
    obtain ⟨dk, _, _, kt, hd, _, _, _, _, hkt, _, hopen⟩ := hlk.here
    obtain ⟨y0, hy0, -⟩ := hW.alike.2.2 _ _ hk0
    obtain ⟨y1, hy1, -⟩ := hW.alike.2.2 _ _ hkt
    have hc' : covers x f.pc = true := by simp [covers]; exact hcov
    have hrow := fun (Q : Handler → Pre) (E : CtlPost) (d : Bool) (acts : List Action) => jx_row (Q := Q) (E := E) (d := d) (acts := acts) (e := e) (s := S) (f := f) (a := a) (t := xs) (cell := cell) hc' h0 (hW.classLinks hlk) hcell (fun z hz => by rw [hvm] at hz; cases hz) ⟨y0, hy0⟩ ⟨y1, hy1⟩
    have hWn := hW.noted hd hopen (State.rightAt_cls hlk)
    rcases hor with ⟨e1, hca, e2⟩ | ⟨hno, hrest⟩
    · subst e1; subst e2
      obtain ⟨c1, c2, g1, g2, g3⟩ := Cond.castable_spec (va_Nw.use (A := #[]) rfl (hg.2.2.2.2.2.2.2.2.1 _ _ hca))
      cases g1.symm.trans hcl
      cases g2.symm.trans hcl
      cases hfk.symm.trans hcl
      refine ⟨_, hWn, fun Q E d acts => ?_⟩
      rw [hrow, if_pos (by rw [hW.alike.assignable]; exact g3)]
    · have hna : s.vm.assignable cell.cls k = false := by
        obtain ⟨hE, hn⟩ := hno
        rcases hE with hE | hE
        · obtain ⟨c1, c2, g1, g2, g3⟩ := hg.2.2.2.2.2.2.1
          rw [hE] at hcl; rw [hn] at hfk
          cases g1.symm.trans hcl
          cases g2.symm.trans hfk
          exact g3
        · obtain ⟨c1, c2, g1, g2, g3⟩ := hg.2.2.2.2.2.2.2.1
          rw [hE] at hcl; rw [hn] at hfk
          cases g1.symm.trans hcl
          cases g2.symm.trans hfk
          exact g3
      obtain ⟨vm', q1, q2⟩ := ih t (S.setVm (S.vm.noted f.method.cls x.catchType (.cls k))) hrest hWn hcell
      refine ⟨vm', q1, fun Q E d acts => ?_⟩
      rw [hrow, if_neg (by rw [hW.alike.assignable, hna]; decide)]
      exact q2 Q E d acts
/-- the thread's step: the frame goes on at the handler, the object alone on its stack -/
theorem jx_step {e : Env} {s : State} {a : Addr} {f : JFrame} {r : List Frame} {t : Nat} {vm' : Vm} (hf : ∀ (Q : Handler → Pre) (E : CtlPost) (d : Bool) (acts : List Action), wp (findHandler f a) Q E e d acts s ↔ Q (.found t) d acts (s.setVm vm')) :
    (stepThrowing e s a (.java f :: r)).Is ((s.setVm vm').setFrames (.java { f with pc := t, stack := [.ref a] } :: r)) [] := by
  simp only [stepThrowing, searchFrame, vmDo]
  generalize hr : Sem.go _ e false [] s = res
  obtain ⟨as, rfl, ha⟩ := Sem.eq_ok_of hr (a := Handler.found t) (s' := s.setVm vm') (acts' := []) (by simp [hf _ _ _ _])
  exact ⟨rfl, ha⟩
end
section
theorem jx_caught {tb : Tables} {e : Env} {s target : State} {g : JFrame} {c : Code} {below : List Frame} {a : Addr} (h : At s g.method c below) {t : Nat} {vm' : Vm}
    (hf : ∀ (Q : Handler → Pre) (E : CtlPost) (d : Bool) (acts : List Action), wp (findHandler g a) Q E e d acts ((s.setTop g).pushFrame (.throwing a)) ↔ Q (.found t) d acts (((s.setTop g).pushFrame (.throwing a)).setVm vm'))
    (hrest : Steps tb e below ((s.setVm vm').setTop { g with pc := t, stack := [.ref a] }) target) : Steps tb e below ((s.setTop g).pushFrame (.throwing a)) target := by
  obtain ⟨hgo, hw⟩ := h.throwing a
  refine Steps.head hgo hw ?_
  rw [stepThread_throwing (frames_entered h.top _), (jx_step (s := (s.setTop g).pushFrame (.throwing a)) hf).1]
  obtain ⟨g₀, hg⟩ := Option.isSome_iff_exists.mp h.top
  obtain ⟨r, hr⟩ := State.topJava?_eq_some.mp hg
  have hr2 : (s.setVm vm').frames = .java g₀ :: r := hr
  rw [State.setTop_of_frames _ hr2] at hrest
  rw [State.pushFrame, State.setTop_of_frames _ hr, State.setFrames_setFrames]
  rw [hr]
  have e1 : ((s.setFrames (Frame.throwing a :: (s.setFrames (Frame.java g :: r)).frames)).setVm vm').setFrames (Frame.java { g with pc := t, stack := [.ref a] } :: r) = (s.setVm vm').setFrames (.java { g with pc := t, stack := [.ref a] } :: r) := by
    show ((s.setVm vm').setFrames (Frame.throwing a :: (s.setFrames (Frame.java g :: r)).frames)).setFrames _ = _
    rw [State.setFrames_setFrames]
  exact e1 ▸ hrest
theorem jRel.junk {G : jG} {A : Nat → Prop} {s : State} {L : List Nat} {n : Nat} {h : jH} {H : Heap} (hR : jRel G A s L n h H) (q : Nat) : jRel G A s (L ++ [q]) (n + 1) (jup h n (30, [])) H := by
  obtain ⟨r1, r2, r3⟩ := hR
  have hin : ∀ (k b : Nat), (L ++ [q])[k]? = some b → (k < n ∧ L[k]? = some b) ∨ k = n := fun k b hk => by
    rcases Nat.lt_or_ge k n with z | z
    · rw [List.getElem?_append_left (by omega)] at hk; exact Or.inl ⟨z, hk⟩
    · have := (List.getElem?_eq_some_iff.mp hk).1
      simp at this
      exact Or.inr (by omega)
  refine ⟨by simp [r1], fun i j b hi hj h1 h2 => ?_, fun k b hk => ?_⟩
  · rcases hin i b h1 with ⟨p1, p2⟩ | p1 <;> rcases hin j b h2 with ⟨q1, q2⟩ | q1
    · rw [jup_ne (by omega)] at hi hj; exact r2 i j b hi hj p2 q2
    · rw [q1, jup_same] at hj; exact absurd rfl hj
    · rw [p1, jup_same] at hi; exact absurd rfl hi
    · omega
  · rcases hin k b hk with ⟨p1, p2⟩ | p1
    · rw [jup_ne (by omega)]
      exact (r3 k b p2).mono (fun _ z => z) (Vm.Alike.refl _) (jle.push q)
    · subst p1
      rw [jup_same]; exact ⟨[], rfl, Or.inr (Or.inr (Or.inr rfl))⟩
section JXC
variable {l : Launch} {G : jG} {Y : jY} {d bc bs n pc : Nat} {ls : List (Option Value)} {st : List Value} {h : jH} {K : jK}
/-- a call in a method with a table: what the callee throws is caught here -/
theorem J_callVX {idx r ci d' bc' bs' : Nat} {Y' : jM} {fs As : List Value} {ls0 : List (Option Value)} {K' : jK} (hd : decode Y.1.2.1 pc = .ok (.invokevirtual idx, 3)) (hv : jvir Y.1.1.cls idx ci Y' As.length) (hc : h r = (ci, fs)) (hls : ls0 = jent (.ref r :: As) Y'.2.2.1) (hn : (jflat (.ref r :: As)).length ≤ Y'.2.2.1) (hdd : d' + 1 ≤ d) (hw : (st.map fun v => v.category).sum ≤ 8)
    (hM : jJ l G (Y', []) d' bc' bs' n 0 ls0 [] h K')
    (kx : ∀ E n' h', K' (.inr E) n' h' → ∃ t, jcat Y.1.1.cls pc E Y.2 t ∧ jJ l G Y d bc bs (n' + 1) t ls [.ref n'] (jup h' n' (30, [])) K)
    (kk : ∀ v n' h', K' (.inl v) n' h' → jJ l G Y d bc bs n' (pc + 3) ls (v.toList ++ st) h' K) : jJ l G Y d (bc + bc') (bs + bs') n pc ls (As.reverse ++ .ref r :: st) h K := by
  intro p e R s m args below meth c A H locs cells slots C S L0 L lsR stR C0 hR hL hS hl hst h1 h2 h3 h4
  subst hls
  obtain ⟨w1, w2, e0, q1, q2⟩ := hst.split
  obtain ⟨a, sr, e1, ha, q3⟩ := q2.r
  subst e1; subst e0
  have qA : jvs L As w1.reverse := by have := q1.rev; rwa [List.reverse_reverse] at this
  have hcl := hR.2.2 r a ha
  rw [hc] at hcl
  obtain ⟨hcal, ⟨q, f1, f2⟩, v1, v2, v3⟩ := hv
  obtain ⟨-, -, -, hci⟩ := jcls f1
  obtain ⟨wf, -, -, r0, y1, cell, y2, y3, y4, -⟩ := hcl.obj hci
  have hg := C0.2.2.2.2.2.2.2.2.2.2.2.1
  have hA := C0.2.2.2.2.2.2.2.2.2.2.2.2
  have hvs : jvs L (.ref r :: As) (.ref a :: w1.reverse) := ⟨_, _, rfl, ⟨a, ha, rfl⟩, qA⟩
  have hMet := hM.met C0.2.2.2.2.2.2.2.2.1 hcal.2.2.2.2.1 hn hvs H.size
  have hfr := C0.2.2.2.2.2.2.2.2.2.1
  have hlo := C0.2.2.2.2.2.2.2.2.2.2.1
  have hlen : w1.reverse.length = As.length := qA.len
  have hrun := vx_runV (Ts := jgw) (n := As.length) (g := F0 m pc lsR (w1 ++ .ref a :: sr)) (b := a) (As := w1.reverse) (rest := sr) (own := Y.1.1.cls) (C := Y'.1.cls) (e := e) (below := below) (meth := meth) (locs := locs) (cells := cells) (slots := slots) ⟨C0.1, C0.2.1, C0.2.2.2.1, C0.2.2.2.2.1, hg.ts args⟩ hMet
    (R := R) ⟨⟨rfl, rfl, by show d' + 1 ≤ R.frames; omega, by show 8 + (Y'.2.2.1 + 11) + 32 * d' ≤ R.locals; have := hcal.2.2.2.2.2; omega, fun w hw a' U hW => by rw [List.mem_singleton.mp hw]; exact word_at hW (good_of_word rfl) (hg.1 _ hcal.1 rfl args), List.mem_singleton.mpr rfl, hg.1 _ hcal.1 rfl args, hg.1 _ hcal.2.1 rfl args, hcal.2.2.1, hcal.len, hg.1 _ v1 rfl args⟩, hg.1 _ v2 rfl args, hg.1 _ v3 rfl args⟩
    ⟨jPc.blind, ⟨cell, y2, by rw [y4]; rfl, by rw [y3, ← f2]; exact (hg.2.2.2.2.2.1.1 ci q f1).2.1⟩, jpre hg hR hS hA⟩ rfl hlen hl.1 (by rw [List.reverse_reverse]) (lv_room (by rw [q3.cat]; exact hw)) hd ⟨by omega, by omega⟩
  have hsub := hR.sub hS hA
  intro T hT X
  rcases hrun T hT X with ⟨v, st₀, t, T', Lc, g0, X', hLc, e1, e2, ⟨v0, v', L', n', h', z1, z2, z3, z4, z5, z6⟩, stp⟩ | ⟨qx, st₀, t, T', Lc, E, ce, g0, X', hLc, e1, e2, ⟨L', n', h', z3, z4, z5, z6⟩, hce, hcv, hcls, stp⟩
  · cases z1
    obtain ⟨k1, k2, k3⟩ := vx_keep g0 e1 hS (fun q _ hq => hsub q hq) hsub hLc z6
    have hal : t.vm.Alike s.vm := by rw [← e2]; exact X'.warmed.alike.symm
    have hR' : jRel G A s L' n' h' T'.heap := by rw [e1]; exact z5.mono hsub hal
    have hres : jvs L' (v0.toList ++ st) (v.toList ++ sr) := by
      cases v0 with
      | none => rw [show v = none from z2]; exact q3.mono z4
      | some u => obtain ⟨w', g1, g2⟩ := z2; subst g1; exact ⟨w', sr, rfl, g2, q3.mono z4⟩
    obtain ⟨t2, a1, b1⟩ := kk v0 n' h' z3 p e R s m args below meth c A T'.heap (locs ++ Lc) (cells + bc') (slots + bs') C S L0 L' lsR (v.toList ++ sr) C0 hR' (hL.tr z4) k3 ⟨hl.1, hl.2.1, fun i v z => by obtain ⟨w, g1, g2⟩ := hl.2.2 i v z; exact ⟨w, g1.mono z4, g2⟩⟩ hres (by omega) (by omega) h3 h4 T' rfl X'
    exact ⟨t2, stp t2 a1, b1⟩
  · obtain ⟨k1, k2, k3⟩ := vx_keep g0 e1 hS (fun q _ hq => hsub q hq) hsub hLc z6
    have hal : t.vm.Alike s.vm := by rw [← e2]; exact X'.warmed.alike.symm
    obtain ⟨tg, hcat, hJ⟩ := kx E n' h' z3
    have hR' : jRel G A s L' n' h' T'.heap := by rw [e1]; exact z5.mono hsub hal
    have hpl : e.platform.magicAccessors = ({} : Platform).magicAccessors := by rw [X'.admits.platform]
    have hceT : T'.heap[qx]? = some ce := by rw [e1]; exact hce
    have htab := C0.2.2.2.2.2.2.2.1
    obtain ⟨vm', hWv, hfind⟩ := jx_go (f := F0 m pc lsR sr) (a := qx) hpl hg C0.2.2.2.2.1 hcv hcls c.exceptionTable.toList tg ((T'.setTop (F0 m pc lsR sr)).pushFrame (.throwing qx)) (by rw [htab]; exact hcat) X'.warmed hceT
    have hLn : L'.length = n' := hR'.1
    have hle : jle L' (L' ++ [qx]) := jle.push qx
    have X'' := X'.noted hWv
    obtain ⟨t2, a1, b1⟩ := hJ p e R s m args below meth c A T'.heap (locs ++ Lc) (cells + bc') (slots + bs') C S L0 (L' ++ [qx]) lsR [.ref qx] C0 (hR'.junk qx) (hL.tr (z4.tr hle)) k3 ⟨hl.1, hl.2.1, fun i v z => by obtain ⟨w, g1, g2⟩ := hl.2.2 i v z; exact ⟨w, g1.mono (z4.tr hle), g2⟩⟩ ⟨_, _, rfl, ⟨qx, by rw [← hLn]; simp, rfl⟩, rfl⟩ (by omega) (by omega) h3 h4 (T'.setVm vm') rfl X''
    refine ⟨t2, stp.trans (jx_caught (g := F0 m pc lsR sr) (c := c) X'.here (fun Q E d acts => ?_) a1), b1⟩
    rw [W.findHandler_eq (meth := meth) (code := c) X'.method' X'.code]
    exact hfind Q E d acts
end JXC
section JMW
variable {l : Launch} {G : jG}
theorem jJ.metW {Y : jM} {hh : List (Nat × Nat × Nat × Nat)} {d bc bs n : Nat} {vs : List Value} {h : jH} {K : jK} (hl : l.stackTraces = false) (hpl : plainName Y.1.cls = true) (hn : (jflat vs).length ≤ Y.2.2.1) (k : jJ l G (Y, hh) d bc bs n 0 (jent vs Y.2.2.1) [] h K)
    {L : List Nat} {ws : List Value} (hv : jvs L vs ws) (sz : Nat) :
    vx_Met l Y.1 [.codeWith Y.1 Y.2.1 Y.2.2.1 Y.2.2.2 hh] { frames := d, cells := bc, slots := bs, locals := 32 * d } (jPc G L n h ws sz) (jQ G (jA L h sz) L K) (jX G (jA L h sz) L K) bc bs (jA L h sz) := by
  refine vx_ofWH (cc := Y.2.1) (maxL := Y.2.2.1) (ret := Y.2.2.2) (hh := hh) hpl rfl ?_
  intro p e s m args below meth c s₁ B hml hpc
  obtain ⟨rfl, hsz, hg, hR⟩ := hpc
  rw [lg_entry_eq]
  have htab : c.exceptionTable.toList.map (fun x => (x.startPc, x.endPc, x.handlerPc, x.catchType)) = hh := by
    obtain ⟨m9, meth9, c9, hn9, g1, g2, -, -, g3, -⟩ := Cond.codeWith_spec (atoms_spec (ws := [.codeWith Y.1 Y.2.1 Y.2.2.1 Y.2.2.2 hh]) B.pre _ (List.mem_singleton.mpr rfl))
    cases B.named.symm.trans hn9
    cases B.method.symm.trans g1
    cases (Stand.of_body B).code.symm.trans g2
    exact g3
  refine k p e _ s m _ below meth c (jA L h sz) s.heap [] 0 0 bc bs L L _ [] ⟨B.exec, B.bytes, B.returns, hml, findClass_of_methodNamed B.named, B.notSynchronized, (name_of_methodNamed B.named B.method).1, htab, hl, Nat.le_refl _, Nat.le_refl _, hg, fun q hq => Or.inr (hsz ▸ hq)⟩ hR jle.rf va_S.rf (jent_lv hv hn) rfl (by omega) (by omega) (Nat.le_refl _) (Nat.le_refl _)
end JMW
def jstW (own : String) (idx : Nat) (Y : jM) (hh : List (Nat × Nat × Nat × Nat)) (na : Nat) : Prop :=
  Cond.codeWith Y.1 Y.2.1 Y.2.2.1 Y.2.2.2 hh ∈ lw_tbl ∧ Cond.initialized Y.1.cls ∈ lw_tbl ∧ (Y.1.cls ≠ "java/lang/invoke/MethodHandle" ∧ Y.1.cls ≠ "java/lang/invoke/VarHandle") ∧ (parseMethodDescriptor Y.1.desc).map (fun d => d.parameters.length) = some na ∧ plainName Y.1.cls = true ∧ Y.2.2.1 ≤ 13 ∧ Cond.methodLink own idx Y.1 ∈ lw_tbl ∧ Cond.static Y.1 ∈ lw_tbl
section JSW
variable {l : Launch} {G : jG} {Y : jY} {d bc bs n pc : Nat} {ls : List (Option Value)} {st : List Value} {h : jH} {K : jK}
theorem J_callSW {idx d' bc' bs' : Nat} {Y' : jM} {hh : List (Nat × Nat × Nat × Nat)} {As : List Value} {ls0 : List (Option Value)} {K' : jK} (hd : decode Y.1.2.1 pc = .ok (.invokestatic idx, 3)) (hv : jstW Y.1.1.cls idx Y' hh As.length) (hls : ls0 = jent As Y'.2.2.1) (hn : (jflat As).length ≤ Y'.2.2.1) (hdd : d' + 1 ≤ d) (hw : (st.map fun v => v.category).sum ≤ 8)
    (hM : jJ l G (Y', hh) d' bc' bs' n 0 ls0 [] h K') (kx : ∀ E n' h', ¬ K' (.inr E) n' h')
    (kk : ∀ v n' h', K' (.inl v) n' h' → jJ l G Y d bc bs n' (pc + 3) ls (v.toList ++ st) h' K) : jJ l G Y d (bc + bc') (bs + bs') n pc ls (As.reverse ++ st) h K := by
  intro p e R s m args below meth c A H locs cells slots C S L0 L lsR stR C0 hR hL hS hl hst h1 h2 h3 h4
  subst hls
  obtain ⟨w1, w2, e0, q1, q2⟩ := hst.split
  subst e0
  have qA : jvs L As w1.reverse := by have := q1.rev; rwa [List.reverse_reverse] at this
  have hg := C0.2.2.2.2.2.2.2.2.2.2.2.1
  have hA := C0.2.2.2.2.2.2.2.2.2.2.2.2
  obtain ⟨y1, y2, y3, y4, y5, y6, y7, y8⟩ := hv
  have hMet := vx_nothrow (hM.metW C0.2.2.2.2.2.2.2.2.1 y5 hn qA H.size) (fun E st t hx => by obtain ⟨_, _, _, z, _⟩ := hx; exact kx _ _ _ z)
  have hfr := C0.2.2.2.2.2.2.2.2.2.1
  have hlo := C0.2.2.2.2.2.2.2.2.2.2.1
  refine jrun (bc' := bc') (bs' := bs') (av := w1.reverse.toArray) C0 hR hL hS hl h1 h2 h3 h4 q2 ?_ kk
  refine vx_runSW (Ts := jgw) (n := As.length) (As := w1.reverse) (rest := w2) (own := Y.1.1.cls) (hh := hh) ⟨C0.1, C0.2.1, C0.2.2.2.1, C0.2.2.2.2.1, hg.ts args⟩ hMet
    ⟨⟨rfl, rfl, by show d' + 1 ≤ R.frames; omega, by show 8 + (Y'.2.2.1 + 11) + 32 * d' ≤ R.locals; omega, fun w hw a' U hW => by rw [List.mem_singleton.mp hw]; exact word_at hW (good_of_word rfl) (hg.1 _ y1 rfl args), List.mem_singleton.mpr rfl⟩, hg.1 _ y1 rfl args, hg.1 _ y2 rfl args, y3, fun sig hs => by rw [hs] at y4; exact (Option.some.inj y4).symm, hg.1 _ y7 rfl args, hg.1 _ y8 rfl args⟩
    ⟨jPc.blind, jpre hg hR hS hA⟩ rfl qA.len hl.1 (by rw [List.reverse_reverse]) (lv_room (by rw [q2.cat]; exact hw)) hd ⟨by omega, by omega⟩
end JSW
end
section
/-! the start: what the Statement gives of the start is what J relies on -/
abbrev YL : jM := (yL_law, cL_law, 7, some .boolean)
/-- the first heap: the script at position 0 -/
def jh0 (xs : List Int32) : jH := fun k => if k = 0 then (20, xs.map .int) else (30, [])
theorem top_arr {args : Array Value} {s : State} {ty : FieldType} (h : (Cond.arrayClass ty).before args s = true) : ∃ c, ArrOfT s c ty ∧ s.vm.findClass ("[" ++ ty.toString) = some c := by
  obtain ⟨c, k, comp, h1, h2, h3⟩ := Cond.arrayClass_spec h
  exact ⟨c, fun n z => ⟨fun q hq => (by cases hq), k, h2, comp, h3⟩, h1⟩
theorem top_ki {args : Array Value} {s : State} (hts : ∀ w ∈ lw_tbl, w.before args s = true) : ∃ G : jG, va_K G.1 vwCl (jtys G) s := by
  obtain ⟨c0, i0, k0⟩ := u_known (C := RX0) (T := TX0) (N := 12) (n := 12) hts jw0 (hts (.instantiable RX0 12) (by decide +kernel))
  obtain ⟨c1, i1, k1⟩ := u_known (C := RX1) (T := TX1) (N := 1) (n := 1) hts jw1 (hts (.instantiable RX1 1) (by decide +kernel))
  obtain ⟨c2, i2, k2⟩ := u_known (C := RX2) (T := TX2) (N := 5) (n := 5) hts jw2 (hts (.instantiable RX2 5) (by decide +kernel))
  obtain ⟨c3, i3, k3⟩ := u_known (C := RX3) (T := TX3) (N := 2) (n := 2) hts jw3 (hts (.instantiable RX3 2) (by decide +kernel))
  obtain ⟨c4, i4, k4⟩ := u_known (C := RX4) (T := TX4) (N := 9) (n := 9) hts jw4 (hts (.instantiable RX4 9) (by decide +kernel))
  obtain ⟨c5, i5, k5⟩ := u_known (C := RX5) (T := TX5) (N := 6) (n := 6) hts jw5 (hts (.instantiable RX5 6) (by decide +kernel))
  obtain ⟨c6, i6, k6⟩ := u_known (C := RX6) (T := TX6) (N := 8) (n := 8) hts jw6 (hts (.instantiable RX6 8) (by decide +kernel))
  obtain ⟨c7, i7, k7⟩ := u_known (C := RX7) (T := TX7) (N := 53) (n := 53) hts jw7 (hts (.instantiable RX7 53) (by decide +kernel))
  obtain ⟨aI, hI1, hI2⟩ := top_arr (hts (.arrayClass .int) (by decide +kernel))
  obtain ⟨aL, hL1, hL2⟩ := top_arr (hts (.arrayClass .long) (by decide +kernel))
  obtain ⟨aZ, hZ1, hZ2⟩ := top_arr (hts (.arrayClass .boolean) (by decide +kernel))
  obtain ⟨comp, aT, kT, t1, t2, t3, t4, t5⟩ := Cond.arrayOver_spec (hts (.arrayOver (.object "InterchangeDesk$Table")) (by decide +kernel))
  have hT1 : ArrOfT s aT (.object "InterchangeDesk$Table") := fun n z => ⟨fun q hq => (by cases hq), kT, t3, comp, t4⟩
  refine ⟨((fun k => match k with | 0 => c0 | 1 => c1 | 2 => c2 | 3 => c3 | 4 => c4 | 5 => c5 | 6 => c6 | _ => c7, fun k => match k with | 0 => i0 | 1 => i1 | 2 => i2 | 3 => i3 | 4 => i4 | 5 => i5 | 6 => i6 | _ => i7), fun k => match k with | 10 => aI | 11 => aL | 12 => aZ | _ => aT), ?_, ?_⟩
  · intro k q hq
    match k, hq with
    | 0, hq => cases hq; exact k0
    | 1, hq => cases hq; exact k1
    | 2, hq => cases hq; exact k2
    | 3, hq => cases hq; exact k3
    | 4, hq => cases hq; exact k4
    | 5, hq => cases hq; exact k5
    | 6, hq => cases hq; exact k6
    | 7, hq => cases hq; exact k7
    | k + 8, hq => simp [vwCl] at hq
  · intro k q hq
    match k, hq with
    | 0, hq => cases hq; exact ⟨hI1, hI2⟩
    | 1, hq => cases hq; exact ⟨hL1, hL2⟩
    | 2, hq => cases hq; exact ⟨hZ1, hZ2⟩
    | 3, hq => cases hq; exact ⟨hT1, kT, comp, t3, t4, t1, t5⟩
    | k + 4, hq => simp [jtys] at hq
theorem top_str {args : Array Value} {s : State} {o tx : String} {k : Nat} (h : (Cond.stringRef o k tx).before args s = true) : ∃ sa, vk_R o k tx sa s := by
  cases hc : s.vm.findClass o with
  | none => simp [Cond.before, Cond.holds, Cond.value, hc] at h
  | some cur =>
    obtain ⟨_, _, _, a, _, _, _, _, _, h6⟩ := Cond.stringRef_spec hc h
    exact ⟨a, vk_R.of h h6⟩
theorem top_jg {b : Nat} {s : State} (hts : ∀ w ∈ lw_tbl, w.before #[Value.ref b] s = true) (hgv : (Jvm.Cond.and given_1 narrow_1).before #[Value.ref b] s = true) : ∃ G : jG, jg G (fun q => s.heap.size ≤ q) s := by
  obtain ⟨G, hK⟩ := top_ki hts
  have hs := flat_of_before _ hgv
  have hn : ∀ a : Nat, a < s.heap.size → ¬ (fun q => s.heap.size ≤ q) a := fun a h1 h2 => Nat.not_lt.mpr h2 h1
  refine ⟨G, fun w hw hg args => word_at (State.WarmedH.refl s) (good_of_word hg) (hts w hw), fun a i x b hm => va_Nw.of rfl (hts _ hm), fun o k tx hm => top_str (hts _ hm), ?_, ?_, hK, ?_, ?_, fun C T hm => va_Nw.of rfl (hts _ hm), fun x hm => va_Nw.of rfl (hts _ hm), va_AO.of (hts _ (by decide +kernel))⟩
  · exact vx_Zqof (hts (.laysStatic Bundle.tN "UNASSIGNED_STACK" Bundle.steD) (by decide +kernel)) (hts (.initialized Bundle.tN) (by decide +kernel)) (hs (.isRef (.static Bundle.tN "UNASSIGNED_STACK" Bundle.steD)) (by decide +kernel)) hn
  · exact vx_Zqof (hts (.laysStatic Bundle.tN "SUPPRESSED_SENTINEL" Bundle.listD) (by decide +kernel)) (hts (.initialized Bundle.tN) (by decide +kernel)) (hs (.isRef (.static Bundle.tN "SUPPRESSED_SENTINEL" Bundle.listD)) (by decide +kernel)) hn
  · exact va_Nc.of (hs (.not (.castable "java/lang/IllegalStateException" "java/lang/IllegalArgumentException")) (by decide +kernel))
  · exact va_Nc.of (hs (.not (.castable "java/lang/UnsupportedOperationException" "java/lang/IllegalArgumentException")) (by decide +kernel))
end
section
/-! ints as integers: iz is Int32.ofInt; sums and products always go through, comparisons inside the range -/
abbrev iz (a : Int) : Int32 := Int32.ofInt a
abbrev vi (a : Int) : Value := .int (Int32.ofInt a)
def rg (a : Int) : Prop := -2147483648 ≤ a ∧ a < 2147483648
theorem iz_toInt {a : Int} (h : rg a) : (iz a).toInt = a := by
  rw [Int32.toInt_ofInt]
  unfold rg at h
  have hs : ((Int32.size : Nat) : Int) = 4294967296 := by decide
  exact Int.bmod_eq_of_le (by rw [hs]; omega) (by rw [hs]; omega)
theorem iz_add (a b : Int) : iz a + iz b = iz (a + b) := by rw [iz, iz, iz, Int32.ofInt_add]
theorem iz_sub (a b : Int) : iz a - iz b = iz (a - b) := by rw [iz, iz, iz, Int32.ofInt_sub]
theorem iz_mul (a b : Int) : iz a * iz b = iz (a * b) := by rw [iz, iz, iz, Int32.ofInt_mul]
theorem iz_eq {a b : Int} (ha : rg a) (hb : rg b) : iz a = iz b ↔ a = b := by
  rw [← Int32.toInt_inj, iz_toInt ha, iz_toInt hb]
theorem iz_lt {a b : Int} (ha : rg a) (hb : rg b) : iz a < iz b ↔ a < b := by
  rw [Int32.lt_iff_toInt_lt, iz_toInt ha, iz_toInt hb]
theorem iz_le {a b : Int} (ha : rg a) (hb : rg b) : iz a ≤ iz b ↔ a ≤ b := by
  rw [Int32.le_iff_toInt_le, iz_toInt ha, iz_toInt hb]
theorem iz_nI (n : Nat) : nI n = iz (n : Int) := by
  rw [nI, iz, Int32.ofInt_eq_ofNat]
theorem iz_clamp {a : Int} (h0 : 0 ≤ a) (h : a < 2147483648) : (iz a).toNatClampNeg = a.toNat := by
  rw [Int32.toNatClampNeg, iz_toInt ⟨by omega, h⟩]
theorem iz_0 : iz 0 = 0 := by decide
theorem iz_nn {a : Int} (h0 : 0 ≤ a) (h : a < 2147483648) : ¬ iz a < 0 := by
  rw [← iz_0, iz_lt ⟨by omega, h⟩ ⟨by decide, by decide⟩]; omega
theorem iz_div {a b : Int} (ha : 0 ≤ a) (ha2 : a < 2147483648) (hb : 0 < b) (hb2 : b < 2147483648) : iz a / iz b = iz (a / b) := by
  have e1 : iz a = nI a.toNat := by rw [iz_nI]; congr 1; omega
  have e2 : iz b = nI b.toNat := by rw [iz_nI]; congr 1; omega
  rw [e1, e2, pk_div (by omega) (by omega) (by omega), iz_nI]
  congr 1
  rw [Int.natCast_ediv]
  congr 1 <;> omega
theorem iz_rem {a b : Int} (ha : 0 ≤ a) (ha2 : a < 2147483648) (hb : 0 < b) (hb2 : b < 2147483648) : iz a - iz a / iz b * iz b = iz (a % b) := by
  rw [iz_div ha ha2 hb hb2, iz_mul, iz_sub]
  congr 1
  have := Int.emod_def a b
  rw [Int.mul_comm] at this
  exact this.symm
end
section
/-! a method's walk over a state of one's own: inv says what the heap holds of it, own which positions are its -/
def jk {S : Type} (inv : jH → S → Prop) (own : Nat → Prop) (n0 : Nat) (h0 : jH) (P : jO → S → Prop) : jK := fun o n' h' => n' = n0 ∧ (∀ k, ¬ own k → h' k = h0 k) ∧ ∃ σ, inv h' σ ∧ P o σ
def CJ {S : Type} (inv : jH → S → Prop) (own : Nat → Prop) (l : Launch) (G : jG) (Y : jY) (d bc bs pc : Nat) (ls : List (Option Value)) (st : List Value) (σ : S) (P : jO → S → Prop) : Prop :=
  ∀ (n : Nat) (h0 h : jH), inv h σ → (∀ k, ¬ own k → h k = h0 k) → jJ l G Y d bc bs n pc ls st h (jk inv own n h0 P)
section CJR
variable {S : Type} {inv : jH → S → Prop} {own : Nat → Prop} {l : Launch} {G : jG} {Y : jY} {d bc bs pc : Nat} {ls : List (Option Value)} {st : List Value} {σ : S} {P : jO → S → Prop}
theorem C_iconst {i : Int} (hd : decode Y.1.2.1 pc = .ok (.iconst i, 1)) (k : CJ inv own l G Y d bc bs (pc + 1) ls (vi i :: st) σ P) : CJ inv own l G Y d bc bs pc ls (st) σ P := fun n h0 h hi hf => J_iconst hd rfl (k n h0 h hi hf)
theorem C_bipush {i : Int} (hd : decode Y.1.2.1 pc = .ok (.bipush i, 2)) (hv : (Int8.ofInt i).toInt32 = Int32.ofInt i) (k : CJ inv own l G Y d bc bs (pc + 2) ls (vi i :: st) σ P) : CJ inv own l G Y d bc bs pc ls (st) σ P := fun n h0 h hi hf => J_bipush hd hv (k n h0 h hi hf)
theorem C_sipush {i : Int} (hd : decode Y.1.2.1 pc = .ok (.sipush i, 3)) (hv : (Int16.ofInt i).toInt32 = Int32.ofInt i) (k : CJ inv own l G Y d bc bs (pc + 3) ls (vi i :: st) σ P) : CJ inv own l G Y d bc bs pc ls (st) σ P := fun n h0 h hi hf => J_sipush hd hv (k n h0 h hi hf)
theorem C_ldc {index : Nat} (v : Int) (hd : decode Y.1.2.1 pc = .ok (.ldc index, 2)) (hw : Cond.constant Y.1.1.cls index (Int32.ofInt v) ∈ lw_tbl) (k : CJ inv own l G Y d bc bs (pc + 2) ls (vi v :: st) σ P) : CJ inv own l G Y d bc bs pc ls (st) σ P := fun n h0 h hi hf => J_ldc hd hw (k n h0 h hi hf)
theorem C_ldcw {index : Nat} (v : Int) (hd : decode Y.1.2.1 pc = .ok (.ldc_w index, 3)) (hw : Cond.constant Y.1.1.cls index (Int32.ofInt v) ∈ lw_tbl) (k : CJ inv own l G Y d bc bs (pc + 3) ls (vi v :: st) σ P) : CJ inv own l G Y d bc bs pc ls (st) σ P := fun n h0 h hi hf => J_ldcw hd hw (k n h0 h hi hf)
theorem C_ldc2 {index : Nat} {v : Int64} (hd : decode Y.1.2.1 pc = .ok (.ldc2_w index, 3)) (hw : Cond.constantLong Y.1.1.cls index v ∈ lw_tbl) (k : CJ inv own l G Y d bc bs (pc + 3) ls (.long v :: st) σ P) : CJ inv own l G Y d bc bs pc ls (st) σ P := fun n h0 h hi hf => J_ldc2 hd hw (k n h0 h hi hf)
theorem C_lconst {i : Fin 2} {v : Int64} (hd : decode Y.1.2.1 pc = .ok (.lconst i, 1)) (hv : Int64.ofNat (i : Nat) = v) (k : CJ inv own l G Y d bc bs (pc + 1) ls (.long v :: st) σ P) : CJ inv own l G Y d bc bs pc ls (st) σ P := fun n h0 h hi hf => J_lconst hd hv (k n h0 h hi hf)
theorem C_null (hd : decode Y.1.2.1 pc = .ok (.aconst_null, 1)) (k : CJ inv own l G Y d bc bs (pc + 1) ls (.null :: st) σ P) : CJ inv own l G Y d bc bs pc ls (st) σ P := fun n h0 h hi hf => J_null hd (k n h0 h hi hf)
theorem C_iload_n {k0 : Fin 4} {x : Int32} (hd : decode Y.1.2.1 pc = .ok (.iload_n k0, 1)) (hv : ls[(k0 : Nat)]? = some (some (.int x))) (k : CJ inv own l G Y d bc bs (pc + 1) ls (.int x :: st) σ P) : CJ inv own l G Y d bc bs pc ls (st) σ P := fun n h0 h hi hf => J_iload_n hd hv (k n h0 h hi hf)
theorem C_lload_n {k0 : Fin 4} {x : Int64} (hd : decode Y.1.2.1 pc = .ok (.lload_n k0, 1)) (hv : ls[(k0 : Nat)]? = some (some (.long x))) (k : CJ inv own l G Y d bc bs (pc + 1) ls (.long x :: st) σ P) : CJ inv own l G Y d bc bs pc ls (st) σ P := fun n h0 h hi hf => J_lload_n hd hv (k n h0 h hi hf)
theorem C_aload_n {k0 : Fin 4} {x : Nat} (hd : decode Y.1.2.1 pc = .ok (.aload_n k0, 1)) (hv : ls[(k0 : Nat)]? = some (some (.ref x))) (k : CJ inv own l G Y d bc bs (pc + 1) ls (.ref x :: st) σ P) : CJ inv own l G Y d bc bs pc ls (st) σ P := fun n h0 h hi hf => J_aload_n hd hv (k n h0 h hi hf)
theorem C_aload_nN {k0 : Fin 4} (hd : decode Y.1.2.1 pc = .ok (.aload_n k0, 1)) (hv : ls[(k0 : Nat)]? = some (some (.null))) (k : CJ inv own l G Y d bc bs (pc + 1) ls (.null :: st) σ P) : CJ inv own l G Y d bc bs pc ls (st) σ P := fun n h0 h hi hf => J_aload_nN hd hv (k n h0 h hi hf)
theorem C_iload {i : Nat} {x : Int32} (hd : decode Y.1.2.1 pc = .ok (.iload i, 2)) (hv : ls[i]? = some (some (.int x))) (k : CJ inv own l G Y d bc bs (pc + 2) ls (.int x :: st) σ P) : CJ inv own l G Y d bc bs pc ls (st) σ P := fun n h0 h hi hf => J_iload hd hv (k n h0 h hi hf)
theorem C_aload {i : Nat} {x : Nat} (hd : decode Y.1.2.1 pc = .ok (.aload i, 2)) (hv : ls[i]? = some (some (.ref x))) (k : CJ inv own l G Y d bc bs (pc + 2) ls (.ref x :: st) σ P) : CJ inv own l G Y d bc bs pc ls (st) σ P := fun n h0 h hi hf => J_aload hd hv (k n h0 h hi hf)
theorem C_aloadN {i : Nat} (hd : decode Y.1.2.1 pc = .ok (.aload i, 2)) (hv : ls[i]? = some (some (.null))) (k : CJ inv own l G Y d bc bs (pc + 2) ls (.null :: st) σ P) : CJ inv own l G Y d bc bs pc ls (st) σ P := fun n h0 h hi hf => J_aloadN hd hv (k n h0 h hi hf)
theorem C_istore_n {k0 : Fin 4} {x : Int32} (hd : decode Y.1.2.1 pc = .ok (.istore_n k0, 1)) (hi0 : (k0 : Nat) < Y.1.2.2.1) (hn : jnl ls (k0 : Nat) = true) (k : CJ inv own l G Y d bc bs (pc + 1) (ls.set (k0 : Nat) (some (.int x))) (st) σ P) : CJ inv own l G Y d bc bs pc ls (.int x :: st) σ P := fun n h0 h hi hf => J_istore_n hd hi0 hn (k n h0 h hi hf)
theorem C_astore_n {k0 : Fin 4} {x : Nat} (hd : decode Y.1.2.1 pc = .ok (.astore_n k0, 1)) (hi0 : (k0 : Nat) < Y.1.2.2.1) (hn : jnl ls (k0 : Nat) = true) (k : CJ inv own l G Y d bc bs (pc + 1) (ls.set (k0 : Nat) (some (.ref x))) (st) σ P) : CJ inv own l G Y d bc bs pc ls (.ref x :: st) σ P := fun n h0 h hi hf => J_astore_n hd hi0 hn (k n h0 h hi hf)
theorem C_astore_nN {k0 : Fin 4} (hd : decode Y.1.2.1 pc = .ok (.astore_n k0, 1)) (hi0 : (k0 : Nat) < Y.1.2.2.1) (hn : jnl ls (k0 : Nat) = true) (k : CJ inv own l G Y d bc bs (pc + 1) (ls.set (k0 : Nat) (some (.null))) (st) σ P) : CJ inv own l G Y d bc bs pc ls (.null :: st) σ P := fun n h0 h hi hf => J_astore_nN hd hi0 hn (k n h0 h hi hf)
theorem C_istore {i : Nat} {x : Int32} (hd : decode Y.1.2.1 pc = .ok (.istore i, 2)) (hi0 : i < Y.1.2.2.1) (hn : jnl ls i = true) (k : CJ inv own l G Y d bc bs (pc + 2) (ls.set i (some (.int x))) (st) σ P) : CJ inv own l G Y d bc bs pc ls (.int x :: st) σ P := fun n h0 h hi hf => J_istore hd hi0 hn (k n h0 h hi hf)
theorem C_astore {i : Nat} {x : Nat} (hd : decode Y.1.2.1 pc = .ok (.astore i, 2)) (hi0 : i < Y.1.2.2.1) (hn : jnl ls i = true) (k : CJ inv own l G Y d bc bs (pc + 2) (ls.set i (some (.ref x))) (st) σ P) : CJ inv own l G Y d bc bs pc ls (.ref x :: st) σ P := fun n h0 h hi hf => J_astore hd hi0 hn (k n h0 h hi hf)
theorem C_astoreN {i : Nat} (hd : decode Y.1.2.1 pc = .ok (.astore i, 2)) (hi0 : i < Y.1.2.2.1) (hn : jnl ls i = true) (k : CJ inv own l G Y d bc bs (pc + 2) (ls.set i (some (.null))) (st) σ P) : CJ inv own l G Y d bc bs pc ls (.null :: st) σ P := fun n h0 h hi hf => J_astoreN hd hi0 hn (k n h0 h hi hf)
theorem C_iinc {i : Nat} {c0 a : Int} (hd : decode Y.1.2.1 pc = .ok (.iinc i c0, 3)) (hx : ls[i]? = some (some (vi a))) (hi0 : i < Y.1.2.2.1) (hn : jnl ls i = true) (k : CJ inv own l G Y d bc bs (pc + 3) (ls.set i (some (vi (a + c0)))) (st) σ P) : CJ inv own l G Y d bc bs pc ls (st) σ P := fun n h0 h hi hf => J_iinc hd hx (iz_add a c0) hi0 hn (k n h0 h hi hf)
theorem C_iadd {a b : Int} (hd : decode Y.1.2.1 pc = .ok (.iadd, 1)) (k : CJ inv own l G Y d bc bs (pc + 1) ls (vi (a + b) :: st) σ P) : CJ inv own l G Y d bc bs pc ls (vi b :: vi a :: st) σ P := fun n h0 h hi hf => J_iadd hd (by rw [iz_add]; exact (k n h0 h hi hf))
theorem C_isub {a b : Int} (hd : decode Y.1.2.1 pc = .ok (.isub, 1)) (k : CJ inv own l G Y d bc bs (pc + 1) ls (vi (a - b) :: st) σ P) : CJ inv own l G Y d bc bs pc ls (vi b :: vi a :: st) σ P := fun n h0 h hi hf => J_isub hd (by rw [iz_sub]; exact (k n h0 h hi hf))
theorem C_imul {a b : Int} (hd : decode Y.1.2.1 pc = .ok (.imul, 1)) (k : CJ inv own l G Y d bc bs (pc + 1) ls (vi (a * b) :: st) σ P) : CJ inv own l G Y d bc bs pc ls (vi b :: vi a :: st) σ P := fun n h0 h hi hf => J_imul hd (by rw [iz_mul]; exact (k n h0 h hi hf))
theorem C_idiv {a b : Int} (hd : decode Y.1.2.1 pc = .ok (.idiv, 1)) (ha : 0 ≤ a) (ha2 : a < 2147483648) (hb : 0 < b) (hb2 : b < 2147483648) (k : CJ inv own l G Y d bc bs (pc + 1) ls (vi (a / b) :: st) σ P) : CJ inv own l G Y d bc bs pc ls (vi b :: vi a :: st) σ P := fun n h0 h hi hf => J_idiv hd (by rw [← iz_0, iz_eq ⟨by omega, hb2⟩ ⟨by decide, by decide⟩]; omega) (by rw [iz_div ha ha2 hb hb2]; exact (k n h0 h hi hf))
theorem C_irem {a b : Int} (hd : decode Y.1.2.1 pc = .ok (.irem, 1)) (ha : 0 ≤ a) (ha2 : a < 2147483648) (hb : 0 < b) (hb2 : b < 2147483648) (k : CJ inv own l G Y d bc bs (pc + 1) ls (vi (a % b) :: st) σ P) : CJ inv own l G Y d bc bs pc ls (vi b :: vi a :: st) σ P := fun n h0 h hi hf => J_irem hd (by rw [← iz_0, iz_eq ⟨by omega, hb2⟩ ⟨by decide, by decide⟩]; omega) (by rw [iz_rem ha ha2 hb hb2]; exact (k n h0 h hi hf))
theorem C_iand {x y : Int32} (hd : decode Y.1.2.1 pc = .ok (.iand, 1)) (k : CJ inv own l G Y d bc bs (pc + 1) ls (.int (x &&& y) :: st) σ P) : CJ inv own l G Y d bc bs pc ls (.int y :: .int x :: st) σ P := fun n h0 h hi hf => J_iand hd (k n h0 h hi hf)
theorem C_ior {x y : Int32} (hd : decode Y.1.2.1 pc = .ok (.ior, 1)) (k : CJ inv own l G Y d bc bs (pc + 1) ls (.int (x ||| y) :: st) σ P) : CJ inv own l G Y d bc bs pc ls (.int y :: .int x :: st) σ P := fun n h0 h hi hf => J_ior hd (k n h0 h hi hf)
theorem C_ishl {x y : Int32} (hd : decode Y.1.2.1 pc = .ok (.ishl, 1)) (k : CJ inv own l G Y d bc bs (pc + 1) ls (.int (x <<< (y &&& 31)) :: st) σ P) : CJ inv own l G Y d bc bs pc ls (.int y :: .int x :: st) σ P := fun n h0 h hi hf => J_ishl hd (k n h0 h hi hf)
theorem C_ishr {x y : Int32} (hd : decode Y.1.2.1 pc = .ok (.ishr, 1)) (k : CJ inv own l G Y d bc bs (pc + 1) ls (.int (x >>> (y &&& 31)) :: st) σ P) : CJ inv own l G Y d bc bs pc ls (.int y :: .int x :: st) σ P := fun n h0 h hi hf => J_ishr hd (k n h0 h hi hf)
theorem C_iushr {x y v : Int32} (hd : decode Y.1.2.1 pc = .ok (.iushr, 1)) (hv : (x.toUInt32 >>> (y.toUInt32 &&& Int32.toUInt32 31)).toInt32 = v) (k : CJ inv own l G Y d bc bs (pc + 1) ls (.int v :: st) σ P) : CJ inv own l G Y d bc bs pc ls (.int y :: .int x :: st) σ P := fun n h0 h hi hf => J_iushr hd hv (k n h0 h hi hf)
theorem C_lor {x y : Int64} (hd : decode Y.1.2.1 pc = .ok (.lor, 1)) (k : CJ inv own l G Y d bc bs (pc + 1) ls (.long (x ||| y) :: st) σ P) : CJ inv own l G Y d bc bs pc ls (.long y :: .long x :: st) σ P := fun n h0 h hi hf => J_lor hd (k n h0 h hi hf)
theorem C_land {x y : Int64} (hd : decode Y.1.2.1 pc = .ok (.land, 1)) (k : CJ inv own l G Y d bc bs (pc + 1) ls (.long (x &&& y) :: st) σ P) : CJ inv own l G Y d bc bs pc ls (.long y :: .long x :: st) σ P := fun n h0 h hi hf => J_land hd (k n h0 h hi hf)
theorem C_lushr {x v : Int64} {y : Int32} (hd : decode Y.1.2.1 pc = .ok (.lushr, 1)) (hv : (x.toUInt64 >>> (y.toInt64.toUInt64 &&& Int64.toUInt64 63)).toInt64 = v) (k : CJ inv own l G Y d bc bs (pc + 1) ls (.long v :: st) σ P) : CJ inv own l G Y d bc bs pc ls (.int y :: .long x :: st) σ P := fun n h0 h hi hf => J_lushr hd hv (k n h0 h hi hf)
theorem C_lshl {x v : Int64} {y : Int32} (hd : decode Y.1.2.1 pc = .ok (.lshl, 1)) (hv : x <<< (y.toInt64 &&& 63) = v) (k : CJ inv own l G Y d bc bs (pc + 1) ls (.long v :: st) σ P) : CJ inv own l G Y d bc bs pc ls (.int y :: .long x :: st) σ P := fun n h0 h hi hf => J_lshl hd hv (k n h0 h hi hf)
theorem C_lshr {x v : Int64} {y : Int32} (hd : decode Y.1.2.1 pc = .ok (.lshr, 1)) (hv : x >>> (y.toInt64 &&& 63) = v) (k : CJ inv own l G Y d bc bs (pc + 1) ls (.long v :: st) σ P) : CJ inv own l G Y d bc bs pc ls (.int y :: .long x :: st) σ P := fun n h0 h hi hf => J_lshr hd hv (k n h0 h hi hf)
theorem C_i2l {x : Int32} (hd : decode Y.1.2.1 pc = .ok (.i2l, 1)) (k : CJ inv own l G Y d bc bs (pc + 1) ls (.long x.toInt64 :: st) σ P) : CJ inv own l G Y d bc bs pc ls (.int x :: st) σ P := fun n h0 h hi hf => J_i2l hd (k n h0 h hi hf)
theorem C_l2i {x : Int64} (hd : decode Y.1.2.1 pc = .ok (.l2i, 1)) (k : CJ inv own l G Y d bc bs (pc + 1) ls (.int x.toInt32 :: st) σ P) : CJ inv own l G Y d bc bs pc ls (.long x :: st) σ P := fun n h0 h hi hf => J_l2i hd (k n h0 h hi hf)
theorem C_dup {v : Value} (hd : decode Y.1.2.1 pc = .ok (.dup, 1)) (hc : v.category = 1) (k : CJ inv own l G Y d bc bs (pc + 1) ls (v :: v :: st) σ P) : CJ inv own l G Y d bc bs pc ls (v :: st) σ P := fun n h0 h hi hf => J_dup hd hc (k n h0 h hi hf)
theorem C_dup2 {v u : Value} (hd : decode Y.1.2.1 pc = .ok (.dup2, 1)) (hc : v.category = 1) (hc2 : u.category = 1) (k : CJ inv own l G Y d bc bs (pc + 1) ls (v :: u :: v :: u :: st) σ P) : CJ inv own l G Y d bc bs pc ls (v :: u :: st) σ P := fun n h0 h hi hf => J_dup2 hd hc hc2 (k n h0 h hi hf)
theorem C_if_eq {a : Int} {off : Int} {tgt : Nat} (hd : decode Y.1.2.1 pc = .ok (.ifCond .eq off, 3)) (ht : (pc : Int) + off = (tgt : Int)) (ha : rg a) (kt : a = 0 → CJ inv own l G Y d bc bs tgt ls st σ P) (kf : ¬ a = 0 → CJ inv own l G Y d bc bs (pc + 3) ls st σ P) : CJ inv own l G Y d bc bs pc ls (vi a :: st) σ P := fun n h0 h hi hf => J_if_eq hd ht (fun z => kt ((iz_eq ha (⟨by decide, by decide⟩ : rg 0)).mp (by rw [iz_0]; exact z)) n h0 h hi hf) (fun z => kf (fun q => z (by rw [← iz_0]; exact (iz_eq ha (⟨by decide, by decide⟩ : rg 0)).mpr q)) n h0 h hi hf)
theorem C_icmp_eq {a b : Int} {off : Int} {tgt : Nat} (hd : decode Y.1.2.1 pc = .ok (.if_icmp .eq off, 3)) (ht : (pc : Int) + off = (tgt : Int)) (ha : rg a) (hb : rg b) (kt : a = b → CJ inv own l G Y d bc bs tgt ls st σ P) (kf : ¬ a = b → CJ inv own l G Y d bc bs (pc + 3) ls st σ P) : CJ inv own l G Y d bc bs pc ls (vi b :: vi a :: st) σ P := fun n h0 h hi hf => J_icmp_eq hd ht (fun z => kt ((iz_eq ha hb).mp z) n h0 h hi hf) (fun z => kf (fun q => z ((iz_eq ha hb).mpr q)) n h0 h hi hf)
theorem C_if_ne {a : Int} {off : Int} {tgt : Nat} (hd : decode Y.1.2.1 pc = .ok (.ifCond .ne off, 3)) (ht : (pc : Int) + off = (tgt : Int)) (ha : rg a) (kt : ¬ a = 0 → CJ inv own l G Y d bc bs tgt ls st σ P) (kf : a = 0 → CJ inv own l G Y d bc bs (pc + 3) ls st σ P) : CJ inv own l G Y d bc bs pc ls (vi a :: st) σ P := fun n h0 h hi hf => J_if_ne hd ht (fun z => kt (fun q => z (by rw [← iz_0]; exact (iz_eq ha (⟨by decide, by decide⟩ : rg 0)).mpr q)) n h0 h hi hf) (fun z => kf ((iz_eq ha (⟨by decide, by decide⟩ : rg 0)).mp (by rw [iz_0]; exact z)) n h0 h hi hf)
theorem C_icmp_ne {a b : Int} {off : Int} {tgt : Nat} (hd : decode Y.1.2.1 pc = .ok (.if_icmp .ne off, 3)) (ht : (pc : Int) + off = (tgt : Int)) (ha : rg a) (hb : rg b) (kt : ¬ a = b → CJ inv own l G Y d bc bs tgt ls st σ P) (kf : a = b → CJ inv own l G Y d bc bs (pc + 3) ls st σ P) : CJ inv own l G Y d bc bs pc ls (vi b :: vi a :: st) σ P := fun n h0 h hi hf => J_icmp_ne hd ht (fun z => kt (fun q => z ((iz_eq ha hb).mpr q)) n h0 h hi hf) (fun z => kf ((iz_eq ha hb).mp z) n h0 h hi hf)
theorem C_if_lt {a : Int} {off : Int} {tgt : Nat} (hd : decode Y.1.2.1 pc = .ok (.ifCond .lt off, 3)) (ht : (pc : Int) + off = (tgt : Int)) (ha : rg a) (kt : a < 0 → CJ inv own l G Y d bc bs tgt ls st σ P) (kf : 0 ≤ a → CJ inv own l G Y d bc bs (pc + 3) ls st σ P) : CJ inv own l G Y d bc bs pc ls (vi a :: st) σ P := fun n h0 h hi hf => J_if_lt hd ht (fun z => kt ((iz_lt ha (⟨by decide, by decide⟩ : rg 0)).mp (by rw [iz_0]; exact z)) n h0 h hi hf) (fun z => kf (by have := mt (iz_lt ha (⟨by decide, by decide⟩ : rg 0)).mpr (by rw [iz_0]; exact z); omega) n h0 h hi hf)
theorem C_icmp_lt {a b : Int} {off : Int} {tgt : Nat} (hd : decode Y.1.2.1 pc = .ok (.if_icmp .lt off, 3)) (ht : (pc : Int) + off = (tgt : Int)) (ha : rg a) (hb : rg b) (kt : a < b → CJ inv own l G Y d bc bs tgt ls st σ P) (kf : b ≤ a → CJ inv own l G Y d bc bs (pc + 3) ls st σ P) : CJ inv own l G Y d bc bs pc ls (vi b :: vi a :: st) σ P := fun n h0 h hi hf => J_icmp_lt hd ht (fun z => kt ((iz_lt ha hb).mp z) n h0 h hi hf) (fun z => kf (by have := mt (iz_lt ha hb).mpr z; omega) n h0 h hi hf)
theorem C_if_ge {a : Int} {off : Int} {tgt : Nat} (hd : decode Y.1.2.1 pc = .ok (.ifCond .ge off, 3)) (ht : (pc : Int) + off = (tgt : Int)) (ha : rg a) (kt : 0 ≤ a → CJ inv own l G Y d bc bs tgt ls st σ P) (kf : a < 0 → CJ inv own l G Y d bc bs (pc + 3) ls st σ P) : CJ inv own l G Y d bc bs pc ls (vi a :: st) σ P := fun n h0 h hi hf => J_if_ge hd ht (fun z => kt ((iz_le (⟨by decide, by decide⟩ : rg 0) ha).mp (by rw [iz_0]; exact z)) n h0 h hi hf) (fun z => kf (by have := mt (iz_le (⟨by decide, by decide⟩ : rg 0) ha).mpr (by rw [iz_0]; exact z); omega) n h0 h hi hf)
theorem C_icmp_ge {a b : Int} {off : Int} {tgt : Nat} (hd : decode Y.1.2.1 pc = .ok (.if_icmp .ge off, 3)) (ht : (pc : Int) + off = (tgt : Int)) (ha : rg a) (hb : rg b) (kt : b ≤ a → CJ inv own l G Y d bc bs tgt ls st σ P) (kf : a < b → CJ inv own l G Y d bc bs (pc + 3) ls st σ P) : CJ inv own l G Y d bc bs pc ls (vi b :: vi a :: st) σ P := fun n h0 h hi hf => J_icmp_ge hd ht (fun z => kt ((iz_le hb ha).mp z) n h0 h hi hf) (fun z => kf (by have := mt (iz_le hb ha).mpr z; omega) n h0 h hi hf)
theorem C_if_gt {a : Int} {off : Int} {tgt : Nat} (hd : decode Y.1.2.1 pc = .ok (.ifCond .gt off, 3)) (ht : (pc : Int) + off = (tgt : Int)) (ha : rg a) (kt : 0 < a → CJ inv own l G Y d bc bs tgt ls st σ P) (kf : a ≤ 0 → CJ inv own l G Y d bc bs (pc + 3) ls st σ P) : CJ inv own l G Y d bc bs pc ls (vi a :: st) σ P := fun n h0 h hi hf => J_if_gt hd ht (fun z => kt ((iz_lt (⟨by decide, by decide⟩ : rg 0) ha).mp (by rw [iz_0]; exact z)) n h0 h hi hf) (fun z => kf (by have := mt (iz_lt (⟨by decide, by decide⟩ : rg 0) ha).mpr (by rw [iz_0]; exact z); omega) n h0 h hi hf)
theorem C_icmp_gt {a b : Int} {off : Int} {tgt : Nat} (hd : decode Y.1.2.1 pc = .ok (.if_icmp .gt off, 3)) (ht : (pc : Int) + off = (tgt : Int)) (ha : rg a) (hb : rg b) (kt : b < a → CJ inv own l G Y d bc bs tgt ls st σ P) (kf : a ≤ b → CJ inv own l G Y d bc bs (pc + 3) ls st σ P) : CJ inv own l G Y d bc bs pc ls (vi b :: vi a :: st) σ P := fun n h0 h hi hf => J_icmp_gt hd ht (fun z => kt ((iz_lt hb ha).mp z) n h0 h hi hf) (fun z => kf (by have := mt (iz_lt hb ha).mpr z; omega) n h0 h hi hf)
theorem C_if_le {a : Int} {off : Int} {tgt : Nat} (hd : decode Y.1.2.1 pc = .ok (.ifCond .le off, 3)) (ht : (pc : Int) + off = (tgt : Int)) (ha : rg a) (kt : a ≤ 0 → CJ inv own l G Y d bc bs tgt ls st σ P) (kf : 0 < a → CJ inv own l G Y d bc bs (pc + 3) ls st σ P) : CJ inv own l G Y d bc bs pc ls (vi a :: st) σ P := fun n h0 h hi hf => J_if_le hd ht (fun z => kt ((iz_le ha (⟨by decide, by decide⟩ : rg 0)).mp (by rw [iz_0]; exact z)) n h0 h hi hf) (fun z => kf (by have := mt (iz_le ha (⟨by decide, by decide⟩ : rg 0)).mpr (by rw [iz_0]; exact z); omega) n h0 h hi hf)
theorem C_icmp_le {a b : Int} {off : Int} {tgt : Nat} (hd : decode Y.1.2.1 pc = .ok (.if_icmp .le off, 3)) (ht : (pc : Int) + off = (tgt : Int)) (ha : rg a) (hb : rg b) (kt : a ≤ b → CJ inv own l G Y d bc bs tgt ls st σ P) (kf : b < a → CJ inv own l G Y d bc bs (pc + 3) ls st σ P) : CJ inv own l G Y d bc bs pc ls (vi b :: vi a :: st) σ P := fun n h0 h hi hf => J_icmp_le hd ht (fun z => kt ((iz_le ha hb).mp z) n h0 h hi hf) (fun z => kf (by have := mt (iz_le ha hb).mpr z; omega) n h0 h hi hf)
theorem C_goto {off : Int} {tgt : Nat} (hd : decode Y.1.2.1 pc = .ok (.goto off, 3)) (ht : (pc : Int) + off = (tgt : Int)) (k : CJ inv own l G Y d bc bs (tgt) ls (st) σ P) : CJ inv own l G Y d bc bs pc ls (st) σ P := fun n h0 h hi hf => J_goto hd ht (k n h0 h hi hf)
theorem C_ifnull {x : Nat} {off : Int} (hd : decode Y.1.2.1 pc = .ok (.ifnull off, 3)) (k : CJ inv own l G Y d bc bs (pc + 3) ls (st) σ P) : CJ inv own l G Y d bc bs pc ls (.ref x :: st) σ P := fun n h0 h hi hf => J_ifnull hd (k n h0 h hi hf)
theorem C_ifnullN {off : Int} {tgt : Nat} (hd : decode Y.1.2.1 pc = .ok (.ifnull off, 3)) (ht : (pc : Int) + off = (tgt : Int)) (k : CJ inv own l G Y d bc bs (tgt) ls (st) σ P) : CJ inv own l G Y d bc bs pc ls (.null :: st) σ P := fun n h0 h hi hf => J_ifnullN hd ht (k n h0 h hi hf)
theorem C_ifnonnull {x : Nat} {off : Int} {tgt : Nat} (hd : decode Y.1.2.1 pc = .ok (.ifnonnull off, 3)) (ht : (pc : Int) + off = (tgt : Int)) (k : CJ inv own l G Y d bc bs (tgt) ls (st) σ P) : CJ inv own l G Y d bc bs pc ls (.ref x :: st) σ P := fun n h0 h hi hf => J_ifnonnull hd ht (k n h0 h hi hf)
theorem C_ifnonnullN {off : Int} (hd : decode Y.1.2.1 pc = .ok (.ifnonnull off, 3)) (k : CJ inv own l G Y d bc bs (pc + 3) ls (st) σ P) : CJ inv own l G Y d bc bs pc ls (.null :: st) σ P := fun n h0 h hi hf => J_ifnonnullN hd (k n h0 h hi hf)
theorem C_tableOut {dflt lo hi0 : Int} {offs : Array Int} {len : Nat} {a : Int} {tgt : Nat} (hd : decode Y.1.2.1 pc = .ok (.tableswitch dflt lo hi0 offs, len)) (ha : rg a) (hr : a < lo ∨ hi0 < a) (ht : (pc : Int) + dflt = (tgt : Int)) (k : CJ inv own l G Y d bc bs tgt ls st σ P) : CJ inv own l G Y d bc bs pc ls (vi a :: st) σ P := fun n h0 h hi hf => J_tableOut hd (by rw [iz_toInt ha]; exact hr) ht (k n h0 h hi hf)
theorem C_tableIn {dflt lo hi0 : Int} {offs : Array Int} {len : Nat} {a : Int} {off : Int} {tgt : Nat} (hd : decode Y.1.2.1 pc = .ok (.tableswitch dflt lo hi0 offs, len)) (ha : rg a) (h1 : ¬ a < lo) (h2 : ¬ hi0 < a) (ho : offs[(a - lo).toNat]? = some off) (ht : (pc : Int) + off = (tgt : Int)) (k : CJ inv own l G Y d bc bs tgt ls st σ P) : CJ inv own l G Y d bc bs pc ls (vi a :: st) σ P := fun n h0 h hi hf => J_tableIn hd (by rw [iz_toInt ha]; exact h1) (by rw [iz_toInt ha]; exact h2) (by rw [iz_toInt ha]; exact ho) ht (k n h0 h hi hf)
theorem C_lcmp {x y : Int64} (hd : decode Y.1.2.1 pc = .ok (.lcmp, 1)) (k : CJ inv own l G Y d bc bs (pc + 1) ls (.int (lg_cmp x y) :: st) σ P) : CJ inv own l G Y d bc bs pc ls (.long y :: .long x :: st) σ P := fun n h0 h hi hf => J_lcmp hd (k n h0 h hi hf)
theorem C_iret {v : Int32} (hd : decode Y.1.2.1 pc = .ok (.ireturn, 1)) (hr : Y.1.2.2.2 = some .int) (hP : P (.inl (some (.int v))) σ) : CJ inv own l G Y d bc bs pc ls [.int v] σ P := fun n h0 h hi hf => J_iret hd hr ⟨rfl, hf, σ, hi, hP⟩
theorem C_zret {v : Int32} (hd : decode Y.1.2.1 pc = .ok (.ireturn, 1)) (hr : Y.1.2.2.2 = some .boolean) (hv : v = 0 ∨ v = 1) (hP : P (.inl (some (.int v))) σ) : CJ inv own l G Y d bc bs pc ls [.int v] σ P := fun n h0 h hi hf => J_zret hd hr hv ⟨rfl, hf, σ, hi, hP⟩
theorem C_vret (hd : decode Y.1.2.1 pc = .ok (.return_, 1)) (hr : Y.1.2.2.2 = none) (hP : P (.inl none) σ) : CJ inv own l G Y d bc bs pc ls [] σ P := fun n h0 h hi hf => J_vret hd hr ⟨rfl, hf, σ, hi, hP⟩
theorem C_aret {x : Nat} {t0 : String} (hd : decode Y.1.2.1 pc = .ok (.areturn, 1)) (hr : Y.1.2.2.2 = some (.object t0)) (hP : P (.inl (some (.ref x))) σ) : CJ inv own l G Y d bc bs pc ls [.ref x] σ P := fun n h0 h hi hf => J_aret hd hr ⟨rfl, hf, σ, hi, hP⟩
theorem C_aretN {t0 : String} (hd : decode Y.1.2.1 pc = .ok (.areturn, 1)) (hr : Y.1.2.2.2 = some (.object t0)) (hP : P (.inl (some .null)) σ) : CJ inv own l G Y d bc bs pc ls [.null] σ P := fun n h0 h hi hf => J_aretN hd hr ⟨rfl, hf, σ, hi, hP⟩
theorem C_get {r ci k idx : Nat} {v : Value} {ty : FieldType} {fin : Bool} (hd : decode Y.1.2.1 pc = .ok (.getfield idx, 3)) (hfl : jfl Y.1.1.cls idx ci k ty fin) (hc : ∀ h, inv h σ → ∃ fs, h r = (ci, fs) ∧ fs[k]? = some v) (kk : CJ inv own l G Y d bc bs (pc + 3) ls (v :: st) σ P) : CJ inv own l G Y d bc bs pc ls (.ref r :: st) σ P := fun n h0 h hi hf => by
  obtain ⟨fs, e1, e2⟩ := hc h hi
  exact J_get hd hfl e1 e2 (kk n h0 h hi hf)
theorem C_put {r ci k idx : Nat} {v : Value} {ty : FieldType} {σ' : S} (hd : decode Y.1.2.1 pc = .ok (.putfield idx, 3)) (hfl : jfl Y.1.1.cls idx ci k ty false) (hv : jfit ty v) (ho : own r) (hc : ∀ h, inv h σ → ∃ fs, h r = (ci, fs) ∧ k < fs.length ∧ inv (jup h r (ci, fs.set k v)) σ') (kk : CJ inv own l G Y d bc bs (pc + 3) ls st σ' P) : CJ inv own l G Y d bc bs pc ls (v :: .ref r :: st) σ P := fun n h0 h hi hf => by
  obtain ⟨fs, e1, e2, e3⟩ := hc h hi
  exact J_put hd hfl e1 e2 hv (kk n h0 _ e3 (fun q hq => (jup_ne (fun e => hq (by rw [e]; exact ho))).trans (hf q hq)))
theorem C_iald {r : Nat} {a : Int} {v : Value} (hd : decode Y.1.2.1 pc = .ok (.iaload, 1)) (h0a : 0 ≤ a) (h1a : a < 2147483648) (hc : ∀ h, inv h σ → ∃ vs, h r = (10, vs) ∧ vs[a.toNat]? = some v) (kk : CJ inv own l G Y d bc bs (pc + 1) ls (v :: st) σ P) : CJ inv own l G Y d bc bs pc ls (vi a :: .ref r :: st) σ P := fun n h0 h hi hf => by
  obtain ⟨vs, e1, e2⟩ := hc h hi
  exact J_iald hd e1 (iz_nn h0a h1a) (by rw [iz_clamp h0a h1a]; exact e2) (kk n h0 h hi hf)
theorem C_zald {r : Nat} {a : Int} {v : Value} (hd : decode Y.1.2.1 pc = .ok (.baload, 1)) (h0a : 0 ≤ a) (h1a : a < 2147483648) (hc : ∀ h, inv h σ → ∃ vs, h r = (12, vs) ∧ vs[a.toNat]? = some v) (kk : CJ inv own l G Y d bc bs (pc + 1) ls (v :: st) σ P) : CJ inv own l G Y d bc bs pc ls (vi a :: .ref r :: st) σ P := fun n h0 h hi hf => by
  obtain ⟨vs, e1, e2⟩ := hc h hi
  exact J_zald hd e1 (iz_nn h0a h1a) (by rw [iz_clamp h0a h1a]; exact e2) (kk n h0 h hi hf)
theorem C_lald {r : Nat} {a : Int} {v : Value} (hd : decode Y.1.2.1 pc = .ok (.laload, 1)) (h0a : 0 ≤ a) (h1a : a < 2147483648) (hc : ∀ h, inv h σ → ∃ vs, h r = (11, vs) ∧ vs[a.toNat]? = some v) (kk : CJ inv own l G Y d bc bs (pc + 1) ls (v :: st) σ P) : CJ inv own l G Y d bc bs pc ls (vi a :: .ref r :: st) σ P := fun n h0 h hi hf => by
  obtain ⟨vs, e1, e2⟩ := hc h hi
  exact J_lald hd e1 (iz_nn h0a h1a) (by rw [iz_clamp h0a h1a]; exact e2) (kk n h0 h hi hf)
theorem C_aald {r : Nat} {a : Int} {v : Value} (hd : decode Y.1.2.1 pc = .ok (.aaload, 1)) (h0a : 0 ≤ a) (h1a : a < 2147483648) (hc : ∀ h, inv h σ → ∃ vs, h r = (13, vs) ∧ vs[a.toNat]? = some v) (kk : CJ inv own l G Y d bc bs (pc + 1) ls (v :: st) σ P) : CJ inv own l G Y d bc bs pc ls (vi a :: .ref r :: st) σ P := fun n h0 h hi hf => by
  obtain ⟨vs, e1, e2⟩ := hc h hi
  exact J_aald hd e1 (iz_nn h0a h1a) (by rw [iz_clamp h0a h1a]; exact e2) (kk n h0 h hi hf)
theorem C_iast {r : Nat} {a : Int} {x : Int32} {σ' : S} (hd : decode Y.1.2.1 pc = .ok (.iastore, 1)) (h0a : 0 ≤ a) (h1a : a < 2147483648) (ho : own r) (hc : ∀ h, inv h σ → ∃ vs, h r = (10, vs) ∧ a.toNat < vs.length ∧ inv (jup h r (10, vs.set a.toNat (.int x))) σ') (kk : CJ inv own l G Y d bc bs (pc + 1) ls st σ' P) : CJ inv own l G Y d bc bs pc ls (.int x :: vi a :: .ref r :: st) σ P := fun n h0 h hi hf => by
  obtain ⟨vs, e1, e2, e3⟩ := hc h hi
  refine J_iast hd e1 (iz_nn h0a h1a) (by rw [iz_clamp h0a h1a]; exact e2) ?_
  rw [iz_clamp h0a h1a]
  exact kk n h0 _ e3 (fun q hq => (jup_ne (fun e => hq (by rw [e]; exact ho))).trans (hf q hq))
theorem C_zast {r : Nat} {a : Int} {x : Int32} {σ' : S} (hd : decode Y.1.2.1 pc = .ok (.bastore, 1)) (hx : x = 0 ∨ x = 1) (h0a : 0 ≤ a) (h1a : a < 2147483648) (ho : own r) (hc : ∀ h, inv h σ → ∃ vs, h r = (12, vs) ∧ a.toNat < vs.length ∧ inv (jup h r (12, vs.set a.toNat (.int x))) σ') (kk : CJ inv own l G Y d bc bs (pc + 1) ls st σ' P) : CJ inv own l G Y d bc bs pc ls (.int x :: vi a :: .ref r :: st) σ P := fun n h0 h hi hf => by
  obtain ⟨vs, e1, e2, e3⟩ := hc h hi
  refine J_zast hd hx e1 (iz_nn h0a h1a) (by rw [iz_clamp h0a h1a]; exact e2) ?_
  rw [iz_clamp h0a h1a]
  exact kk n h0 _ e3 (fun q hq => (jup_ne (fun e => hq (by rw [e]; exact ho))).trans (hf q hq))
theorem C_last {r : Nat} {a : Int} {x : Int64} {σ' : S} (hd : decode Y.1.2.1 pc = .ok (.lastore, 1)) (h0a : 0 ≤ a) (h1a : a < 2147483648) (ho : own r) (hc : ∀ h, inv h σ → ∃ vs, h r = (11, vs) ∧ a.toNat < vs.length ∧ inv (jup h r (11, vs.set a.toNat (.long x))) σ') (kk : CJ inv own l G Y d bc bs (pc + 1) ls st σ' P) : CJ inv own l G Y d bc bs pc ls (.long x :: vi a :: .ref r :: st) σ P := fun n h0 h hi hf => by
  obtain ⟨vs, e1, e2, e3⟩ := hc h hi
  refine J_last hd e1 (iz_nn h0a h1a) (by rw [iz_clamp h0a h1a]; exact e2) ?_
  rw [iz_clamp h0a h1a]
  exact kk n h0 _ e3 (fun q hq => (jup_ne (fun e => hq (by rw [e]; exact ho))).trans (hf q hq))
theorem C_alen {r ci m : Nat} (hd : decode Y.1.2.1 pc = .ok (.arraylength, 1)) (hci : 10 ≤ ci ∧ ci < 14) (hc : ∀ h, inv h σ → ∃ vs, h r = (ci, vs) ∧ vs.length = m) (kk : CJ inv own l G Y d bc bs (pc + 1) ls (vi m :: st) σ P) : CJ inv own l G Y d bc bs pc ls (.ref r :: st) σ P := fun n h0 h hi hf => by
  obtain ⟨vs, e1, e2⟩ := hc h hi
  refine J_alen hd e1 hci ?_
  rw [e2, iz_nI]
  exact kk n h0 h hi hf
theorem C_callV {idx r ci d' bc' bs' : Nat} {Y' : jM} {As : List Value} {ls0 : List (Option Value)} {P' : jO → S → Prop} (hd : decode Y.1.2.1 pc = .ok (.invokevirtual idx, 3)) (hv : jvir Y.1.1.cls idx ci Y' As.length) (hc : ∀ h, inv h σ → ∃ fs, h r = (ci, fs)) (hls : ls0 = jent (.ref r :: As) Y'.2.2.1) (hn : (jflat (.ref r :: As)).length ≤ Y'.2.2.1) (hdd : d' + 1 ≤ d) (hw : (st.map fun v => v.category).sum ≤ 8) (hM : CJ inv own l G (Y', []) d' bc' bs' 0 ls0 [] σ P')
    (kx : ∀ E σ', P' (.inr E) σ' → P (.inr E) σ' ∧ Y.2 = []) (kk : ∀ v σ', P' (.inl v) σ' → CJ inv own l G Y d bc bs (pc + 3) ls (v.toList ++ st) σ' P) : CJ inv own l G Y d (bc + bc') (bs + bs') pc ls (As.reverse ++ .ref r :: st) σ P := fun n h0 h hi hf => by
  obtain ⟨fs, e1⟩ := hc h hi
  refine J_callV hd hv e1 hls hn hdd hw (hM n h0 h hi hf) ?_ ?_
  · rintro E n' h' ⟨x1, x2, σ', x3, x4⟩
    obtain ⟨y1, y2⟩ := kx E σ' x4
    exact ⟨⟨x1, x2, σ', x3, y1⟩, y2⟩
  · rintro v n' h' ⟨x1, x2, σ', x3, x4⟩
    subst x1
    exact kk v σ' x4 _ h0 h' x3 x2
theorem C_callS {idx d' bc' bs' : Nat} {Y' : jM} {As : List Value} {ls0 : List (Option Value)} {P' : jO → S → Prop} (hd : decode Y.1.2.1 pc = .ok (.invokestatic idx, 3)) (hv : jsta Y.1.1.cls idx Y' As.length) (hls : ls0 = jent As Y'.2.2.1) (hn : (jflat As).length ≤ Y'.2.2.1) (hdd : d' + 1 ≤ d) (hw : (st.map fun v => v.category).sum ≤ 8) (hM : CJ inv own l G (Y', []) d' bc' bs' 0 ls0 [] σ P')
    (kx : ∀ E σ', ¬ P' (.inr E) σ') (kk : ∀ v σ', P' (.inl v) σ' → CJ inv own l G Y d bc bs (pc + 3) ls (v.toList ++ st) σ' P) : CJ inv own l G Y d (bc + bc') (bs + bs') pc ls (As.reverse ++ st) σ P := fun n h0 h hi hf => by
  refine J_callS hd hv hls hn hdd hw (hM n h0 h hi hf) ?_ ?_
  · rintro E n' h' ⟨x1, x2, σ', x3, x4⟩
    exact kx E σ' x4
  · rintro v n' h' ⟨x1, x2, σ', x3, x4⟩
    subst x1
    exact kk v σ' x4 _ h0 h' x3 x2
theorem C_callSN {idx d' bc' bs' : Nat} {host : String} {Y' : jM} {As : List Value} {ls0 : List (Option Value)} {P' : jO → S → Prop} (hd : decode Y.1.2.1 pc = .ok (.invokestatic idx, 3)) (hv : jstN Y.1.1.cls idx host Y' As.length) (hls : ls0 = jent As Y'.2.2.1) (hn : (jflat As).length ≤ Y'.2.2.1) (hdd : d' + 1 ≤ d) (hw : (st.map fun v => v.category).sum ≤ 8) (hM : CJ inv own l G (Y', []) d' bc' bs' 0 ls0 [] σ P')
    (kx : ∀ E σ', ¬ P' (.inr E) σ') (kk : ∀ v σ', P' (.inl v) σ' → CJ inv own l G Y d bc bs (pc + 3) ls (v.toList ++ st) σ' P) : CJ inv own l G Y d (bc + bc') (bs + bs') pc ls (As.reverse ++ st) σ P := fun n h0 h hi hf => by
  refine J_callSN hd hv hls hn hdd hw (hM n h0 h hi hf) ?_ ?_
  · rintro E n' h' ⟨x1, x2, σ', x3, x4⟩
    exact kx E σ' x4
  · rintro v n' h' ⟨x1, x2, σ', x3, x4⟩
    subst x1
    exact kk v σ' x4 _ h0 h' x3 x2
theorem C_throw {ik is ic : Nat} {cls text : String} (d0 : decode Y.1.2.1 pc = .ok (.new ik, 3)) (d3 : decode Y.1.2.1 (pc + 3) = .ok (.dup, 1)) (d4 : decode Y.1.2.1 (pc + 4) = .ok (.ldc is, 2)) (d6 : decode Y.1.2.1 (pc + 6) = .ok (.invokespecial ic, 3)) (d9 : decode Y.1.2.1 (pc + 9) = .ok (.athrow, 1)) (ht : jthr Y.1.1.cls ik is ic cls text) (hd6 : 6 ≤ d) (hw : (st.map fun v => v.category).sum ≤ 8) (hT : Y.2 = []) (hP : P (.inr cls) σ) : CJ inv own l G Y d (bc + 1) (bs + 6) pc ls st σ P := fun n h0 h hi hf => J_throw d0 d3 d4 d6 d9 ht hd6 hw hT ⟨rfl, hf, σ, hi, hP⟩
theorem CJ.mono {ls' : List (Option Value)} {P' : jO → S → Prop} (hls : ∀ (i : Nat) (v : Value), ls'[i]? = some (some v) → ls[i]? = some (some v)) (hP : ∀ o σ, P' o σ → P o σ) (k : CJ inv own l G Y d bc bs pc ls' st σ P') : CJ inv own l G Y d bc bs pc ls st σ P := fun n h0 h hi hf => (k n h0 h hi hf).mono hls (fun o n h ⟨x1, x2, σ', x3, x4⟩ => ⟨x1, x2, σ', x3, hP _ _ x4⟩)
theorem CJ.widen {d' bc' bs' : Nat} (hd : d' ≤ d) (hc : bc' ≤ bc) (hs : bs' ≤ bs) (k : CJ inv own l G Y d' bc' bs' pc ls st σ P) : CJ inv own l G Y d bc bs pc ls st σ P := fun n h0 h hi hf => (k n h0 h hi hf).widen hd hc hs
end CJR
end
