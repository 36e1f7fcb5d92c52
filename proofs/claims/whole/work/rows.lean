section
/-- a private method of a class that the tables say can be made, by its rows of tables_1 -/
def lw_okq (q : MethodName × Nat) : Prop := (q.1.cls ≠ "java/lang/invoke/MethodHandle" ∧ q.1.cls ≠ "java/lang/invoke/VarHandle") ∧ Cond.instantiable q.1.cls q.2 ∈ tables_1 ∧ Cond.privateMethod q.1 ∈ tables_1 ∧ Cond.instanceMethod q.1 ∈ tables_1
theorem lw_p0 : lw_okq (⟨"GazetteHouse", "refusal", "(I)Z"⟩, 11) := ⟨⟨by decide +kernel, by decide +kernel⟩, List.mem_of_getElem? (i := 23) (by decide +kernel), List.mem_of_getElem? (i := 407) (by decide +kernel), List.mem_of_getElem? (i := 408) (by decide +kernel)⟩
theorem lw_p1 : lw_okq (⟨"GazetteHouse", "acceptance", "()Z"⟩, 11) := ⟨⟨by decide +kernel, by decide +kernel⟩, List.mem_of_getElem? (i := 23) (by decide +kernel), List.mem_of_getElem? (i := 415) (by decide +kernel), List.mem_of_getElem? (i := 416) (by decide +kernel)⟩
theorem lw_p2 : lw_okq (⟨"GazetteHouse", "refused", "(I)I"⟩, 11) := ⟨⟨by decide +kernel, by decide +kernel⟩, List.mem_of_getElem? (i := 23) (by decide +kernel), List.mem_of_getElem? (i := 436) (by decide +kernel), List.mem_of_getElem? (i := 437) (by decide +kernel)⟩
theorem lw_p3 : lw_okq (⟨"GazetteHouse", "accepted", "(I)I"⟩, 11) := ⟨⟨by decide +kernel, by decide +kernel⟩, List.mem_of_getElem? (i := 23) (by decide +kernel), List.mem_of_getElem? (i := 444) (by decide +kernel), List.mem_of_getElem? (i := 445) (by decide +kernel)⟩
theorem lw_p4 : lw_okq (⟨"GazetteHouse$Calendar", "workingFrom", "(I)I"⟩, 2) := ⟨⟨by decide +kernel, by decide +kernel⟩, List.mem_of_getElem? (i := 31) (by decide +kernel), List.mem_of_getElem? (i := 457) (by decide +kernel), List.mem_of_getElem? (i := 458) (by decide +kernel)⟩
theorem lw_p5 : lw_okq (⟨"GazetteHouse$Text", "readRun", "(IIII)J"⟩, 11) := ⟨⟨by decide +kernel, by decide +kernel⟩, List.mem_of_getElem? (i := 46) (by decide +kernel), List.mem_of_getElem? (i := 490) (by decide +kernel), List.mem_of_getElem? (i := 491) (by decide +kernel)⟩
theorem lw_p6 : lw_okq (⟨"GazetteHouse$Text", "readSign", "()I"⟩, 11) := ⟨⟨by decide +kernel, by decide +kernel⟩, List.mem_of_getElem? (i := 46) (by decide +kernel), List.mem_of_getElem? (i := 494) (by decide +kernel), List.mem_of_getElem? (i := 495) (by decide +kernel)⟩
theorem lw_p7 : lw_okq (⟨"GazetteHouse$Form", "readName", "(LGazetteHouse$Text;)Z"⟩, 2) := ⟨⟨by decide +kernel, by decide +kernel⟩, List.mem_of_getElem? (i := 98) (by decide +kernel), List.mem_of_getElem? (i := 502) (by decide +kernel), List.mem_of_getElem? (i := 503) (by decide +kernel)⟩
theorem lw_p8 : lw_okq (⟨"GazetteHouse$Form", "readKind", "(LGazetteHouse$Text;LGazetteHouse$Field;)Z"⟩, 2) := ⟨⟨by decide +kernel, by decide +kernel⟩, List.mem_of_getElem? (i := 98) (by decide +kernel), List.mem_of_getElem? (i := 524) (by decide +kernel), List.mem_of_getElem? (i := 525) (by decide +kernel)⟩
theorem lw_p9 : lw_okq (⟨"GazetteHouse$Form", "readSpan", "(LGazetteHouse$Text;LGazetteHouse$Field;)Z"⟩, 2) := ⟨⟨by decide +kernel, by decide +kernel⟩, List.mem_of_getElem? (i := 98) (by decide +kernel), List.mem_of_getElem? (i := 536) (by decide +kernel), List.mem_of_getElem? (i := 537) (by decide +kernel)⟩
theorem lw_p10 : lw_okq (⟨"GazetteHouse$Field", "readOneWord", "(LGazetteHouse$Text;)Z"⟩, 7) := ⟨⟨by decide +kernel, by decide +kernel⟩, List.mem_of_getElem? (i := 105) (by decide +kernel), List.mem_of_getElem? (i := 560) (by decide +kernel), List.mem_of_getElem? (i := 561) (by decide +kernel)⟩
theorem lw_p11 : lw_okq (⟨"GazetteHouse", "formAt", "(I)LGazetteHouse$Form;"⟩, 11) := ⟨⟨by decide +kernel, by decide +kernel⟩, List.mem_of_getElem? (i := 23) (by decide +kernel), List.mem_of_getElem? (i := 573) (by decide +kernel), List.mem_of_getElem? (i := 574) (by decide +kernel)⟩
theorem lw_p12 : lw_okq (⟨"GazetteHouse$Form", "readEntry", "(LGazetteHouse$Text;[J)Z"⟩, 2) := ⟨⟨by decide +kernel, by decide +kernel⟩, List.mem_of_getElem? (i := 98) (by decide +kernel), List.mem_of_getElem? (i := 594) (by decide +kernel), List.mem_of_getElem? (i := 595) (by decide +kernel)⟩
theorem lw_p13 : lw_okq (⟨"GazetteHouse$Form", "isWhole", "(LGazetteHouse$Text;[J)Z"⟩, 2) := ⟨⟨by decide +kernel, by decide +kernel⟩, List.mem_of_getElem? (i := 98) (by decide +kernel), List.mem_of_getElem? (i := 605) (by decide +kernel), List.mem_of_getElem? (i := 606) (by decide +kernel)⟩
theorem lw_p14 : lw_okq (⟨"GazetteHouse$Pages", "bestOf", "(I)I"⟩, 7) := ⟨⟨by decide +kernel, by decide +kernel⟩, List.mem_of_getElem? (i := 294) (by decide +kernel), List.mem_of_getElem? (i := 698) (by decide +kernel), List.mem_of_getElem? (i := 699) (by decide +kernel)⟩
theorem lw_p15 : lw_okq (⟨"GazetteHouse$Pages", "laidOn", "(II)I"⟩, 7) := ⟨⟨by decide +kernel, by decide +kernel⟩, List.mem_of_getElem? (i := 294) (by decide +kernel), List.mem_of_getElem? (i := 703) (by decide +kernel), List.mem_of_getElem? (i := 704) (by decide +kernel)⟩
def lw_privs_1 : List (MethodName × Nat) := [(⟨"GazetteHouse", "refusal", "(I)Z"⟩, 11), (⟨"GazetteHouse", "acceptance", "()Z"⟩, 11), (⟨"GazetteHouse", "refused", "(I)I"⟩, 11), (⟨"GazetteHouse", "accepted", "(I)I"⟩, 11), (⟨"GazetteHouse$Calendar", "workingFrom", "(I)I"⟩, 2), (⟨"GazetteHouse$Text", "readRun", "(IIII)J"⟩, 11), (⟨"GazetteHouse$Text", "readSign", "()I"⟩, 11), (⟨"GazetteHouse$Form", "readName", "(LGazetteHouse$Text;)Z"⟩, 2), (⟨"GazetteHouse$Form", "readKind", "(LGazetteHouse$Text;LGazetteHouse$Field;)Z"⟩, 2), (⟨"GazetteHouse$Form", "readSpan", "(LGazetteHouse$Text;LGazetteHouse$Field;)Z"⟩, 2), (⟨"GazetteHouse$Field", "readOneWord", "(LGazetteHouse$Text;)Z"⟩, 7), (⟨"GazetteHouse", "formAt", "(I)LGazetteHouse$Form;"⟩, 11), (⟨"GazetteHouse$Form", "readEntry", "(LGazetteHouse$Text;[J)Z"⟩, 2), (⟨"GazetteHouse$Form", "isWhole", "(LGazetteHouse$Text;[J)Z"⟩, 2), (⟨"GazetteHouse$Pages", "bestOf", "(I)I"⟩, 7), (⟨"GazetteHouse$Pages", "laidOn", "(II)I"⟩, 7)]
theorem lw_r1 : ∀ q ∈ lw_privs_1, lw_okq q := List.forall_mem_cons.mpr ⟨lw_p0, List.forall_mem_cons.mpr ⟨lw_p1, List.forall_mem_cons.mpr ⟨lw_p2, List.forall_mem_cons.mpr ⟨lw_p3, List.forall_mem_cons.mpr ⟨lw_p4, List.forall_mem_cons.mpr ⟨lw_p5, List.forall_mem_cons.mpr ⟨lw_p6, List.forall_mem_cons.mpr ⟨lw_p7, List.forall_mem_cons.mpr ⟨lw_p8, List.forall_mem_cons.mpr ⟨lw_p9, List.forall_mem_cons.mpr ⟨lw_p10, List.forall_mem_cons.mpr ⟨lw_p11, List.forall_mem_cons.mpr ⟨lw_p12, List.forall_mem_cons.mpr ⟨lw_p13, List.forall_mem_cons.mpr ⟨lw_p14, List.forall_mem_cons.mpr ⟨lw_p15, fun _ h => absurd h List.not_mem_nil⟩⟩⟩⟩⟩⟩⟩⟩⟩⟩⟩⟩⟩⟩⟩⟩
theorem lw_p16 : lw_okq (⟨"GazetteHouse$Archive", "nextOther", "(II)I"⟩, 6) := ⟨⟨by decide +kernel, by decide +kernel⟩, List.mem_of_getElem? (i := 155) (by decide +kernel), List.mem_of_getElem? (i := 712) (by decide +kernel), List.mem_of_getElem? (i := 713) (by decide +kernel)⟩
theorem lw_p17 : lw_okq (⟨"GazetteHouse", "print", "(I)V"⟩, 11) := ⟨⟨by decide +kernel, by decide +kernel⟩, List.mem_of_getElem? (i := 23) (by decide +kernel), List.mem_of_getElem? (i := 716) (by decide +kernel), List.mem_of_getElem? (i := 717) (by decide +kernel)⟩
theorem lw_p18 : lw_okq (⟨"GazetteHouse$Archive", "lawDay", "(I)I"⟩, 6) := ⟨⟨by decide +kernel, by decide +kernel⟩, List.mem_of_getElem? (i := 155) (by decide +kernel), List.mem_of_getElem? (i := 796) (by decide +kernel), List.mem_of_getElem? (i := 797) (by decide +kernel)⟩
theorem lw_p19 : lw_okq (⟨"GazetteHouse$Archive", "addOlderNames", "(I)Z"⟩, 6) := ⟨⟨by decide +kernel, by decide +kernel⟩, List.mem_of_getElem? (i := 155) (by decide +kernel), List.mem_of_getElem? (i := 809) (by decide +kernel), List.mem_of_getElem? (i := 810) (by decide +kernel)⟩
theorem lw_p20 : lw_okq (⟨"GazetteHouse$Archive", "isName", "(J)Z"⟩, 6) := ⟨⟨by decide +kernel, by decide +kernel⟩, List.mem_of_getElem? (i := 155) (by decide +kernel), List.mem_of_getElem? (i := 813) (by decide +kernel), List.mem_of_getElem? (i := 814) (by decide +kernel)⟩
theorem lw_p21 : lw_okq (⟨"GazetteHouse$Archive", "hasName", "(LGazetteHouse$Notice;LGazetteHouse$Form;)Z"⟩, 6) := ⟨⟨by decide +kernel, by decide +kernel⟩, List.mem_of_getElem? (i := 155) (by decide +kernel), List.mem_of_getElem? (i := 821) (by decide +kernel), List.mem_of_getElem? (i := 822) (by decide +kernel)⟩
theorem lw_p22 : lw_okq (⟨"GazetteHouse", "takeBack", "()V"⟩, 11) := ⟨⟨by decide +kernel, by decide +kernel⟩, List.mem_of_getElem? (i := 23) (by decide +kernel), List.mem_of_getElem? (i := 845) (by decide +kernel), List.mem_of_getElem? (i := 846) (by decide +kernel)⟩
theorem lw_p23 : lw_okq (⟨"GazetteHouse", "takeBackSaying", "(LGazetteHouse$Notice;)V"⟩, 11) := ⟨⟨by decide +kernel, by decide +kernel⟩, List.mem_of_getElem? (i := 23) (by decide +kernel), List.mem_of_getElem? (i := 849) (by decide +kernel), List.mem_of_getElem? (i := 850) (by decide +kernel)⟩
theorem lw_p24 : lw_okq (⟨"java/lang/Throwable", "fillInStackTrace", "(I)Ljava/lang/Throwable;"⟩, 6) := ⟨⟨by decide +kernel, by decide +kernel⟩, List.mem_of_getElem? (i := 903) (by decide +kernel), List.mem_of_getElem? (i := 901) (by decide +kernel), List.mem_of_getElem? (i := 902) (by decide +kernel)⟩
theorem lw_p25 : lw_okq (⟨"GazetteHouseModel", "denied", "(I)Z"⟩, 63) := ⟨⟨by decide +kernel, by decide +kernel⟩, List.mem_of_getElem? (i := 861) (by decide +kernel), List.mem_of_getElem? (i := 1139) (by decide +kernel), List.mem_of_getElem? (i := 1140) (by decide +kernel)⟩
theorem lw_p26 : lw_okq (⟨"GazetteHouseModel", "act", "(IIJJ)V"⟩, 63) := ⟨⟨by decide +kernel, by decide +kernel⟩, List.mem_of_getElem? (i := 861) (by decide +kernel), List.mem_of_getElem? (i := 1143) (by decide +kernel), List.mem_of_getElem? (i := 1144) (by decide +kernel)⟩
theorem lw_p27 : lw_okq (⟨"GazetteHouseModel", "isWorking", "(I)Z"⟩, 63) := ⟨⟨by decide +kernel, by decide +kernel⟩, List.mem_of_getElem? (i := 861) (by decide +kernel), List.mem_of_getElem? (i := 1151) (by decide +kernel), List.mem_of_getElem? (i := 1152) (by decide +kernel)⟩
theorem lw_p28 : lw_okq (⟨"GazetteHouseModel", "done", "(I)I"⟩, 63) := ⟨⟨by decide +kernel, by decide +kernel⟩, List.mem_of_getElem? (i := 861) (by decide +kernel), List.mem_of_getElem? (i := 1155) (by decide +kernel), List.mem_of_getElem? (i := 1156) (by decide +kernel)⟩
theorem lw_p29 : lw_okq (⟨"GazetteHouseModel", "refused", "(I)I"⟩, 63) := ⟨⟨by decide +kernel, by decide +kernel⟩, List.mem_of_getElem? (i := 861) (by decide +kernel), List.mem_of_getElem? (i := 1159) (by decide +kernel), List.mem_of_getElem? (i := 1160) (by decide +kernel)⟩
theorem lw_p30 : lw_okq (⟨"GazetteHouseModel", "spanOf", "(IIZ)I"⟩, 63) := ⟨⟨by decide +kernel, by decide +kernel⟩, List.mem_of_getElem? (i := 861) (by decide +kernel), List.mem_of_getElem? (i := 1170) (by decide +kernel), List.mem_of_getElem? (i := 1171) (by decide +kernel)⟩
theorem lw_p31 : lw_okq (⟨"GazetteHouseModel", "start", "(I)V"⟩, 63) := ⟨⟨by decide +kernel, by decide +kernel⟩, List.mem_of_getElem? (i := 861) (by decide +kernel), List.mem_of_getElem? (i := 1183) (by decide +kernel), List.mem_of_getElem? (i := 1184) (by decide +kernel)⟩
def lw_privs_2 : List (MethodName × Nat) := [(⟨"GazetteHouse$Archive", "nextOther", "(II)I"⟩, 6), (⟨"GazetteHouse", "print", "(I)V"⟩, 11), (⟨"GazetteHouse$Archive", "lawDay", "(I)I"⟩, 6), (⟨"GazetteHouse$Archive", "addOlderNames", "(I)Z"⟩, 6), (⟨"GazetteHouse$Archive", "isName", "(J)Z"⟩, 6), (⟨"GazetteHouse$Archive", "hasName", "(LGazetteHouse$Notice;LGazetteHouse$Form;)Z"⟩, 6), (⟨"GazetteHouse", "takeBack", "()V"⟩, 11), (⟨"GazetteHouse", "takeBackSaying", "(LGazetteHouse$Notice;)V"⟩, 11), (⟨"java/lang/Throwable", "fillInStackTrace", "(I)Ljava/lang/Throwable;"⟩, 6), (⟨"GazetteHouseModel", "denied", "(I)Z"⟩, 63), (⟨"GazetteHouseModel", "act", "(IIJJ)V"⟩, 63), (⟨"GazetteHouseModel", "isWorking", "(I)Z"⟩, 63), (⟨"GazetteHouseModel", "done", "(I)I"⟩, 63), (⟨"GazetteHouseModel", "refused", "(I)I"⟩, 63), (⟨"GazetteHouseModel", "spanOf", "(IIZ)I"⟩, 63), (⟨"GazetteHouseModel", "start", "(I)V"⟩, 63)]
theorem lw_r2 : ∀ q ∈ lw_privs_2, lw_okq q := List.forall_mem_cons.mpr ⟨lw_p16, List.forall_mem_cons.mpr ⟨lw_p17, List.forall_mem_cons.mpr ⟨lw_p18, List.forall_mem_cons.mpr ⟨lw_p19, List.forall_mem_cons.mpr ⟨lw_p20, List.forall_mem_cons.mpr ⟨lw_p21, List.forall_mem_cons.mpr ⟨lw_p22, List.forall_mem_cons.mpr ⟨lw_p23, List.forall_mem_cons.mpr ⟨lw_p24, List.forall_mem_cons.mpr ⟨lw_p25, List.forall_mem_cons.mpr ⟨lw_p26, List.forall_mem_cons.mpr ⟨lw_p27, List.forall_mem_cons.mpr ⟨lw_p28, List.forall_mem_cons.mpr ⟨lw_p29, List.forall_mem_cons.mpr ⟨lw_p30, List.forall_mem_cons.mpr ⟨lw_p31, fun _ h => absurd h List.not_mem_nil⟩⟩⟩⟩⟩⟩⟩⟩⟩⟩⟩⟩⟩⟩⟩⟩
theorem lw_p32 : lw_okq (⟨"GazetteHouseModel", "next", "()V"⟩, 63) := ⟨⟨by decide +kernel, by decide +kernel⟩, List.mem_of_getElem? (i := 861) (by decide +kernel), List.mem_of_getElem? (i := 1187) (by decide +kernel), List.mem_of_getElem? (i := 1188) (by decide +kernel)⟩
theorem lw_p33 : lw_okq (⟨"GazetteHouseModel", "byteAt", "(I)I"⟩, 63) := ⟨⟨by decide +kernel, by decide +kernel⟩, List.mem_of_getElem? (i := 861) (by decide +kernel), List.mem_of_getElem? (i := 1191) (by decide +kernel), List.mem_of_getElem? (i := 1192) (by decide +kernel)⟩
theorem lw_p34 : lw_okq (⟨"GazetteHouseModel", "readForm", "()V"⟩, 63) := ⟨⟨by decide +kernel, by decide +kernel⟩, List.mem_of_getElem? (i := 861) (by decide +kernel), List.mem_of_getElem? (i := 1203) (by decide +kernel), List.mem_of_getElem? (i := 1204) (by decide +kernel)⟩
theorem lw_p35 : lw_okq (⟨"GazetteHouseModel", "needSort", "(I)V"⟩, 63) := ⟨⟨by decide +kernel, by decide +kernel⟩, List.mem_of_getElem? (i := 861) (by decide +kernel), List.mem_of_getElem? (i := 1207) (by decide +kernel), List.mem_of_getElem? (i := 1208) (by decide +kernel)⟩
theorem lw_p36 : lw_okq (⟨"GazetteHouseModel", "stop", "(II)LGazetteHouseModel$Stop;"⟩, 63) := ⟨⟨by decide +kernel, by decide +kernel⟩, List.mem_of_getElem? (i := 861) (by decide +kernel), List.mem_of_getElem? (i := 1211) (by decide +kernel), List.mem_of_getElem? (i := 1212) (by decide +kernel)⟩
theorem lw_p37 : lw_okq (⟨"GazetteHouseModel", "fieldOf", "(IJ)I"⟩, 63) := ⟨⟨by decide +kernel, by decide +kernel⟩, List.mem_of_getElem? (i := 861) (by decide +kernel), List.mem_of_getElem? (i := 1215) (by decide +kernel), List.mem_of_getElem? (i := 1216) (by decide +kernel)⟩
theorem lw_p38 : lw_okq (⟨"GazetteHouseModel", "need", "(I)V"⟩, 63) := ⟨⟨by decide +kernel, by decide +kernel⟩, List.mem_of_getElem? (i := 861) (by decide +kernel), List.mem_of_getElem? (i := 1219) (by decide +kernel), List.mem_of_getElem? (i := 1220) (by decide +kernel)⟩
theorem lw_p39 : lw_okq (⟨"GazetteHouseModel", "is", "(I)Z"⟩, 63) := ⟨⟨by decide +kernel, by decide +kernel⟩, List.mem_of_getElem? (i := 861) (by decide +kernel), List.mem_of_getElem? (i := 1223) (by decide +kernel), List.mem_of_getElem? (i := 1224) (by decide +kernel)⟩
theorem lw_p40 : lw_okq (⟨"GazetteHouseModel", "readKind", "(II)V"⟩, 63) := ⟨⟨by decide +kernel, by decide +kernel⟩, List.mem_of_getElem? (i := 861) (by decide +kernel), List.mem_of_getElem? (i := 1227) (by decide +kernel), List.mem_of_getElem? (i := 1228) (by decide +kernel)⟩
theorem lw_p41 : lw_okq (⟨"GazetteHouseModel", "readChoices", "(I)V"⟩, 63) := ⟨⟨by decide +kernel, by decide +kernel⟩, List.mem_of_getElem? (i := 861) (by decide +kernel), List.mem_of_getElem? (i := 1287) (by decide +kernel), List.mem_of_getElem? (i := 1288) (by decide +kernel)⟩
theorem lw_p42 : lw_okq (⟨"GazetteHouseModel", "readSpan", "(II)V"⟩, 63) := ⟨⟨by decide +kernel, by decide +kernel⟩, List.mem_of_getElem? (i := 861) (by decide +kernel), List.mem_of_getElem? (i := 1291) (by decide +kernel), List.mem_of_getElem? (i := 1292) (by decide +kernel)⟩
theorem lw_p43 : lw_okq (⟨"GazetteHouseModel", "wrong", "(LGazetteHouseModel$Stop;)I"⟩, 63) := ⟨⟨by decide +kernel, by decide +kernel⟩, List.mem_of_getElem? (i := 861) (by decide +kernel), List.mem_of_getElem? (i := 1297) (by decide +kernel), List.mem_of_getElem? (i := 1298) (by decide +kernel)⟩
theorem lw_p44 : lw_okq (⟨"GazetteHouseModel", "isForm", "(I)Z"⟩, 63) := ⟨⟨by decide +kernel, by decide +kernel⟩, List.mem_of_getElem? (i := 861) (by decide +kernel), List.mem_of_getElem? (i := 1305) (by decide +kernel), List.mem_of_getElem? (i := 1306) (by decide +kernel)⟩
theorem lw_p45 : lw_okq (⟨"GazetteHouseModel", "readNotice", "(I)V"⟩, 63) := ⟨⟨by decide +kernel, by decide +kernel⟩, List.mem_of_getElem? (i := 861) (by decide +kernel), List.mem_of_getElem? (i := 1317) (by decide +kernel), List.mem_of_getElem? (i := 1318) (by decide +kernel)⟩
theorem lw_p46 : lw_okq (⟨"GazetteHouseModel", "valueBy", "(I)J"⟩, 63) := ⟨⟨by decide +kernel, by decide +kernel⟩, List.mem_of_getElem? (i := 861) (by decide +kernel), List.mem_of_getElem? (i := 1321) (by decide +kernel), List.mem_of_getElem? (i := 1322) (by decide +kernel)⟩
theorem lw_p47 : lw_okq (⟨"GazetteHouseModel", "isNotice", "(I)Z"⟩, 63) := ⟨⟨by decide +kernel, by decide +kernel⟩, List.mem_of_getElem? (i := 861) (by decide +kernel), List.mem_of_getElem? (i := 1341) (by decide +kernel), List.mem_of_getElem? (i := 1342) (by decide +kernel)⟩
def lw_privs_3 : List (MethodName × Nat) := [(⟨"GazetteHouseModel", "next", "()V"⟩, 63), (⟨"GazetteHouseModel", "byteAt", "(I)I"⟩, 63), (⟨"GazetteHouseModel", "readForm", "()V"⟩, 63), (⟨"GazetteHouseModel", "needSort", "(I)V"⟩, 63), (⟨"GazetteHouseModel", "stop", "(II)LGazetteHouseModel$Stop;"⟩, 63), (⟨"GazetteHouseModel", "fieldOf", "(IJ)I"⟩, 63), (⟨"GazetteHouseModel", "need", "(I)V"⟩, 63), (⟨"GazetteHouseModel", "is", "(I)Z"⟩, 63), (⟨"GazetteHouseModel", "readKind", "(II)V"⟩, 63), (⟨"GazetteHouseModel", "readChoices", "(I)V"⟩, 63), (⟨"GazetteHouseModel", "readSpan", "(II)V"⟩, 63), (⟨"GazetteHouseModel", "wrong", "(LGazetteHouseModel$Stop;)I"⟩, 63), (⟨"GazetteHouseModel", "isForm", "(I)Z"⟩, 63), (⟨"GazetteHouseModel", "readNotice", "(I)V"⟩, 63), (⟨"GazetteHouseModel", "valueBy", "(I)J"⟩, 63), (⟨"GazetteHouseModel", "isNotice", "(I)Z"⟩, 63)]
theorem lw_r3 : ∀ q ∈ lw_privs_3, lw_okq q := List.forall_mem_cons.mpr ⟨lw_p32, List.forall_mem_cons.mpr ⟨lw_p33, List.forall_mem_cons.mpr ⟨lw_p34, List.forall_mem_cons.mpr ⟨lw_p35, List.forall_mem_cons.mpr ⟨lw_p36, List.forall_mem_cons.mpr ⟨lw_p37, List.forall_mem_cons.mpr ⟨lw_p38, List.forall_mem_cons.mpr ⟨lw_p39, List.forall_mem_cons.mpr ⟨lw_p40, List.forall_mem_cons.mpr ⟨lw_p41, List.forall_mem_cons.mpr ⟨lw_p42, List.forall_mem_cons.mpr ⟨lw_p43, List.forall_mem_cons.mpr ⟨lw_p44, List.forall_mem_cons.mpr ⟨lw_p45, List.forall_mem_cons.mpr ⟨lw_p46, List.forall_mem_cons.mpr ⟨lw_p47, fun _ h => absurd h List.not_mem_nil⟩⟩⟩⟩⟩⟩⟩⟩⟩⟩⟩⟩⟩⟩⟩⟩
theorem lw_p48 : lw_okq (⟨"GazetteHouseModel", "spans", "(I)V"⟩, 63) := ⟨⟨by decide +kernel, by decide +kernel⟩, List.mem_of_getElem? (i := 861) (by decide +kernel), List.mem_of_getElem? (i := 1346) (by decide +kernel), List.mem_of_getElem? (i := 1347) (by decide +kernel)⟩
theorem lw_p49 : lw_okq (⟨"GazetteHouseModel", "waits", "(I)Z"⟩, 63) := ⟨⟨by decide +kernel, by decide +kernel⟩, List.mem_of_getElem? (i := 861) (by decide +kernel), List.mem_of_getElem? (i := 1363) (by decide +kernel), List.mem_of_getElem? (i := 1364) (by decide +kernel)⟩
theorem lw_p50 : lw_okq (⟨"GazetteHouseModel", "granted", "()Z"⟩, 63) := ⟨⟨by decide +kernel, by decide +kernel⟩, List.mem_of_getElem? (i := 861) (by decide +kernel), List.mem_of_getElem? (i := 1367) (by decide +kernel), List.mem_of_getElem? (i := 1368) (by decide +kernel)⟩
theorem lw_p51 : lw_okq (⟨"GazetteHouseModel", "packs", "(III)Z"⟩, 63) := ⟨⟨by decide +kernel, by decide +kernel⟩, List.mem_of_getElem? (i := 861) (by decide +kernel), List.mem_of_getElem? (i := 1389) (by decide +kernel), List.mem_of_getElem? (i := 1390) (by decide +kernel)⟩
theorem lw_p52 : lw_okq (⟨"GazetteHouseModel", "waiting", "()I"⟩, 63) := ⟨⟨by decide +kernel, by decide +kernel⟩, List.mem_of_getElem? (i := 861) (by decide +kernel), List.mem_of_getElem? (i := 1393) (by decide +kernel), List.mem_of_getElem? (i := 1394) (by decide +kernel)⟩
theorem lw_p53 : lw_okq (⟨"GazetteHouseModel", "isIssue", "(I)Z"⟩, 63) := ⟨⟨by decide +kernel, by decide +kernel⟩, List.mem_of_getElem? (i := 861) (by decide +kernel), List.mem_of_getElem? (i := 1401) (by decide +kernel), List.mem_of_getElem? (i := 1402) (by decide +kernel)⟩
theorem lw_p54 : lw_okq (⟨"GazetteHouseModel", "sinceOf", "(III)I"⟩, 63) := ⟨⟨by decide +kernel, by decide +kernel⟩, List.mem_of_getElem? (i := 861) (by decide +kernel), List.mem_of_getElem? (i := 1413) (by decide +kernel), List.mem_of_getElem? (i := 1414) (by decide +kernel)⟩
theorem lw_p55 : lw_okq (⟨"GazetteHouseModel", "lay", "(II)V"⟩, 63) := ⟨⟨by decide +kernel, by decide +kernel⟩, List.mem_of_getElem? (i := 861) (by decide +kernel), List.mem_of_getElem? (i := 1417) (by decide +kernel), List.mem_of_getElem? (i := 1418) (by decide +kernel)⟩
theorem lw_p56 : lw_okq (⟨"GazetteHouseModel", "voids", "(I)V"⟩, 63) := ⟨⟨by decide +kernel, by decide +kernel⟩, List.mem_of_getElem? (i := 861) (by decide +kernel), List.mem_of_getElem? (i := 1421) (by decide +kernel), List.mem_of_getElem? (i := 1422) (by decide +kernel)⟩
theorem lw_p57 : lw_okq (⟨"GazetteHouseModel", "isKnown", "(II)Z"⟩, 63) := ⟨⟨by decide +kernel, by decide +kernel⟩, List.mem_of_getElem? (i := 861) (by decide +kernel), List.mem_of_getElem? (i := 1425) (by decide +kernel), List.mem_of_getElem? (i := 1426) (by decide +kernel)⟩
theorem lw_p58 : lw_okq (⟨"GazetteHouseModel", "isNamed", "(II)Z"⟩, 63) := ⟨⟨by decide +kernel, by decide +kernel⟩, List.mem_of_getElem? (i := 861) (by decide +kernel), List.mem_of_getElem? (i := 1445) (by decide +kernel), List.mem_of_getElem? (i := 1446) (by decide +kernel)⟩
def lw_privs_4 : List (MethodName × Nat) := [(⟨"GazetteHouseModel", "spans", "(I)V"⟩, 63), (⟨"GazetteHouseModel", "waits", "(I)Z"⟩, 63), (⟨"GazetteHouseModel", "granted", "()Z"⟩, 63), (⟨"GazetteHouseModel", "packs", "(III)Z"⟩, 63), (⟨"GazetteHouseModel", "waiting", "()I"⟩, 63), (⟨"GazetteHouseModel", "isIssue", "(I)Z"⟩, 63), (⟨"GazetteHouseModel", "sinceOf", "(III)I"⟩, 63), (⟨"GazetteHouseModel", "lay", "(II)V"⟩, 63), (⟨"GazetteHouseModel", "voids", "(I)V"⟩, 63), (⟨"GazetteHouseModel", "isKnown", "(II)Z"⟩, 63), (⟨"GazetteHouseModel", "isNamed", "(II)Z"⟩, 63)]
theorem lw_r4 : ∀ q ∈ lw_privs_4, lw_okq q := List.forall_mem_cons.mpr ⟨lw_p48, List.forall_mem_cons.mpr ⟨lw_p49, List.forall_mem_cons.mpr ⟨lw_p50, List.forall_mem_cons.mpr ⟨lw_p51, List.forall_mem_cons.mpr ⟨lw_p52, List.forall_mem_cons.mpr ⟨lw_p53, List.forall_mem_cons.mpr ⟨lw_p54, List.forall_mem_cons.mpr ⟨lw_p55, List.forall_mem_cons.mpr ⟨lw_p56, List.forall_mem_cons.mpr ⟨lw_p57, List.forall_mem_cons.mpr ⟨lw_p58, fun _ h => absurd h List.not_mem_nil⟩⟩⟩⟩⟩⟩⟩⟩⟩⟩⟩
def lw_privs : List (MethodName × Nat) := lw_privs_1 ++ (lw_privs_2 ++ (lw_privs_3 ++ (lw_privs_4)))
def lw_tbl : List Cond := k2_sels lw_privs ++ tables_1
theorem lw_privs_ok : ∀ q ∈ lw_privs, lw_okq q := by
  show ∀ q ∈ lw_privs_1 ++ (lw_privs_2 ++ (lw_privs_3 ++ (lw_privs_4))), lw_okq q
  exact List.forall_mem_append.mpr ⟨lw_r1, List.forall_mem_append.mpr ⟨lw_r2, List.forall_mem_append.mpr ⟨lw_r3, lw_r4⟩⟩⟩
end
section
def RX0 : String := "GazetteHouse$Acts"
def TX0 : u_T := fun k => match k with
  | 0 => ("GazetteHouse$Acts", "kinds", "[I", true)
  | 1 => ("GazetteHouse$Acts", "whichs", "[I", true)
  | 2 => ("GazetteHouse$Acts", "befores", "[J", true)
  | 3 => ("GazetteHouse$Acts", "alsoBefores", "[J", true)
  | 4 => ("GazetteHouse$Acts", "next", "I", false)
  | 5 => ("GazetteHouse$Acts", "size", "I", false)
  | 6 => ("GazetteHouse$Acts", "kind", "I", false)
  | 7 => ("GazetteHouse$Acts", "which", "I", false)
  | 8 => ("GazetteHouse$Acts", "before", "J", false)
  | _ => ("GazetteHouse$Acts", "alsoBefore", "J", false)
def tyX0 : Nat → FieldType := fun k => match k with
  | 0 => .array .int
  | 1 => .array .int
  | 2 => .array .long
  | 3 => .array .long
  | 4 => .int
  | 5 => .int
  | 6 => .int
  | 7 => .int
  | 8 => .long
  | _ => .long
abbrev wsX00 : List Cond := u_ws RX0 TX0 10
theorem nmX0 : ∀ a, a < 10 → ∀ b, b < 10 → a ≠ b → (TX0 a).2.1 ≠ (TX0 b).2.1 := by decide +kernel
theorem tyX0_ok : ∀ k, k < 10 → parseFieldDescriptor (TX0 k).2.2.1 = some (tyX0 k) := by decide +kernel
abbrev cX0_init : ByteArray := prog_2_method_1_code
def yX0_init : MethodName := ⟨RX0, "<init>", "()V"⟩
abbrev cX0_push : ByteArray := prog_2_method_2_code
def yX0_push : MethodName := ⟨RX0, "push", "(IIJJ)V"⟩
abbrev cX0_pop : ByteArray := prog_2_method_3_code
def yX0_pop : MethodName := ⟨RX0, "pop", "()V"⟩
abbrev cX0_clear : ByteArray := prog_2_method_4_code
def yX0_clear : MethodName := ⟨RX0, "clear", "()V"⟩
def RX1 : String := "GazetteHouse$Archive"
def TX1 : u_T := fun k => match k with
  | 0 => ("GazetteHouse$Archive", "notices", "[LGazetteHouse$Notice;", true)
  | 1 => ("GazetteHouse$Archive", "size", "I", false)
  | 2 => ("GazetteHouse$Archive", "names", "[J", true)
  | 3 => ("GazetteHouse$Archive", "nameCount", "I", false)
  | 4 => ("GazetteHouse$Archive", "hits", "[I", true)
  | _ => ("GazetteHouse$Archive", "hitCount", "I", false)
def tyX1 : Nat → FieldType := fun k => match k with
  | 0 => .array (.object "GazetteHouse$Notice")
  | 1 => .int
  | 2 => .array .long
  | 3 => .int
  | 4 => .array .int
  | _ => .int
abbrev wsX10 : List Cond := u_ws RX1 TX1 6
theorem nmX1 : ∀ a, a < 6 → ∀ b, b < 6 → a ≠ b → (TX1 a).2.1 ≠ (TX1 b).2.1 := by decide +kernel
theorem tyX1_ok : ∀ k, k < 6 → parseFieldDescriptor (TX1 k).2.2.1 = some (tyX1 k) := by decide +kernel
abbrev cX1_init : ByteArray := prog_3_method_1_code
def yX1_init : MethodName := ⟨RX1, "<init>", "()V"⟩
abbrev cX1_at : ByteArray := prog_3_method_2_code
def yX1_at : MethodName := ⟨RX1, "at", "(I)LGazetteHouse$Notice;"⟩
abbrev cX1_fresh : ByteArray := prog_3_method_3_code
def yX1_fresh : MethodName := ⟨RX1, "fresh", "()LGazetteHouse$Notice;"⟩
abbrev cX1_countWaiting : ByteArray := prog_3_method_4_code
def yX1_countWaiting : MethodName := ⟨RX1, "countWaiting", "()I"⟩
abbrev cX1_takeMust : ByteArray := prog_3_method_5_code
def yX1_takeMust : MethodName := ⟨RX1, "takeMust", "(LGazetteHouse$Pages;I)Z"⟩
abbrev cX1_takeOthers : ByteArray := prog_3_method_6_code
def yX1_takeOthers : MethodName := ⟨RX1, "takeOthers", "(LGazetteHouse$Pages;I)V"⟩
abbrev cX1_nextOther : ByteArray := prog_3_method_7_code
def yX1_nextOther : MethodName := ⟨RX1, "nextOther", "(II)I"⟩
abbrev cX1_list : ByteArray := prog_3_method_8_code
def yX1_list : MethodName := ⟨RX1, "list", "(ILGazetteHouse$Issue;)V"⟩
abbrev cX1_markVoid : ByteArray := prog_3_method_9_code
def yX1_markVoid : MethodName := ⟨RX1, "markVoid", "(I)V"⟩
abbrev cX1_lawPlace : ByteArray := prog_3_method_10_code
def yX1_lawPlace : MethodName := ⟨RX1, "lawPlace", "(III)I"⟩
abbrev cX1_lawValue : ByteArray := prog_3_method_11_code
def yX1_lawValue : MethodName := ⟨RX1, "lawValue", "(I)I"⟩
abbrev cX1_lawDay : ByteArray := prog_3_method_12_code
def yX1_lawDay : MethodName := ⟨RX1, "lawDay", "(I)I"⟩
abbrev cX1_countChanges : ByteArray := prog_3_method_13_code
def yX1_countChanges : MethodName := ⟨RX1, "countChanges", "(II)I"⟩
abbrev cX1_gatherNames : ByteArray := prog_3_method_14_code
def yX1_gatherNames : MethodName := ⟨RX1, "gatherNames", "(JI)V"⟩
abbrev cX1_addOlderNames : ByteArray := prog_3_method_15_code
def yX1_addOlderNames : MethodName := ⟨RX1, "addOlderNames", "(I)Z"⟩
abbrev cX1_isName : ByteArray := prog_3_method_16_code
def yX1_isName : MethodName := ⟨RX1, "isName", "(J)Z"⟩
abbrev cX1_search : ByteArray := prog_3_method_17_code
def yX1_search : MethodName := ⟨RX1, "search", "([LGazetteHouse$Form;I)V"⟩
abbrev cX1_hasName : ByteArray := prog_3_method_18_code
def yX1_hasName : MethodName := ⟨RX1, "hasName", "(LGazetteHouse$Notice;LGazetteHouse$Form;)Z"⟩
abbrev cX1_isStruck : ByteArray := prog_3_method_19_code
def yX1_isStruck : MethodName := ⟨RX1, "isStruck", "(JI)Z"⟩
def RX2 : String := "GazetteHouse$Calendar"
def TX2 : u_T := fun k => match k with
  | 0 => ("GazetteHouse$Calendar", "feasts", "[J", true)
  | _ => ("GazetteHouse$Calendar", "feastCount", "I", false)
def tyX2 : Nat → FieldType := fun k => match k with
  | 0 => .array .long
  | _ => .int
abbrev wsX20 : List Cond := u_ws RX2 TX2 2
theorem nmX2 : ∀ a, a < 2 → ∀ b, b < 2 → a ≠ b → (TX2 a).2.1 ≠ (TX2 b).2.1 := by decide +kernel
theorem tyX2_ok : ∀ k, k < 2 → parseFieldDescriptor (TX2 k).2.2.1 = some (tyX2 k) := by decide +kernel
abbrev cX2_init : ByteArray := prog_4_method_1_code
def yX2_init : MethodName := ⟨RX2, "<init>", "()V"⟩
abbrev cX2_isFeast : ByteArray := prog_4_method_2_code
def yX2_isFeast : MethodName := ⟨RX2, "isFeast", "(I)Z"⟩
abbrev cX2_setFeast : ByteArray := prog_4_method_3_code
def yX2_setFeast : MethodName := ⟨RX2, "setFeast", "(IZ)V"⟩
abbrev cX2_isWorking : ByteArray := prog_4_method_4_code
def yX2_isWorking : MethodName := ⟨RX2, "isWorking", "(I)Z"⟩
abbrev cX2_behind : ByteArray := prog_4_method_5_code
def yX2_behind : MethodName := ⟨RX2, "behind", "(IIZ)I"⟩
abbrev cX2_workingFrom : ByteArray := prog_4_method_6_code
def yX2_workingFrom : MethodName := ⟨RX2, "workingFrom", "(I)I"⟩
def RX3 : String := "GazetteHouse$Field"
def TX3 : u_T := fun k => match k with
  | 0 => ("GazetteHouse$Field", "name", "J", false)
  | 1 => ("GazetteHouse$Field", "kind", "I", false)
  | 2 => ("GazetteHouse$Field", "mayLack", "Z", false)
  | 3 => ("GazetteHouse$Field", "first", "I", false)
  | 4 => ("GazetteHouse$Field", "second", "I", false)
  | 5 => ("GazetteHouse$Field", "words", "[J", true)
  | _ => ("GazetteHouse$Field", "wordCount", "I", false)
def tyX3 : Nat → FieldType := fun k => match k with
  | 0 => .long
  | 1 => .int
  | 2 => .boolean
  | 3 => .int
  | 4 => .int
  | 5 => .array .long
  | _ => .int
abbrev wsX30 : List Cond := u_ws RX3 TX3 7
theorem nmX3 : ∀ a, a < 7 → ∀ b, b < 7 → a ≠ b → (TX3 a).2.1 ≠ (TX3 b).2.1 := by decide +kernel
theorem tyX3_ok : ∀ k, k < 7 → parseFieldDescriptor (TX3 k).2.2.1 = some (tyX3 k) := by decide +kernel
abbrev cX3_init : ByteArray := prog_5_method_1_code
def yX3_init : MethodName := ⟨RX3, "<init>", "()V"⟩
abbrev cX3_begin : ByteArray := prog_5_method_2_code
def yX3_begin : MethodName := ⟨RX3, "begin", "(J)V"⟩
abbrev cX3_isSpan : ByteArray := prog_5_method_3_code
def yX3_isSpan : MethodName := ⟨RX3, "isSpan", "()Z"⟩
abbrev cX3_hasDay : ByteArray := prog_5_method_4_code
def yX3_hasDay : MethodName := ⟨RX3, "hasDay", "()Z"⟩
abbrev cX3_placeOf : ByteArray := prog_5_method_5_code
def yX3_placeOf : MethodName := ⟨RX3, "placeOf", "(J)I"⟩
abbrev cX3_readLimits : ByteArray := prog_5_method_6_code
def yX3_readLimits : MethodName := ⟨RX3, "readLimits", "(LGazetteHouse$Text;)Z"⟩
abbrev cX3_readWords : ByteArray := prog_5_method_7_code
def yX3_readWords : MethodName := ⟨RX3, "readWords", "(LGazetteHouse$Text;)Z"⟩
abbrev cX3_readOneWord : ByteArray := prog_5_method_8_code
def yX3_readOneWord : MethodName := ⟨RX3, "readOneWord", "(LGazetteHouse$Text;)Z"⟩
abbrev cX3_valueOf : ByteArray := prog_5_method_9_code
def yX3_valueOf : MethodName := ⟨RX3, "valueOf", "(LGazetteHouse$Text;)J"⟩
def RX4 : String := "GazetteHouse$Form"
def TX4 : u_T := fun k => match k with
  | 0 => ("GazetteHouse$Form", "parts", "[LGazetteHouse$Field;", true)
  | _ => ("GazetteHouse$Form", "size", "I", false)
def tyX4 : Nat → FieldType := fun k => match k with
  | 0 => .array (.object "GazetteHouse$Field")
  | _ => .int
abbrev wsX40 : List Cond := u_ws RX4 TX4 2
theorem nmX4 : ∀ a, a < 2 → ∀ b, b < 2 → a ≠ b → (TX4 a).2.1 ≠ (TX4 b).2.1 := by decide +kernel
theorem tyX4_ok : ∀ k, k < 2 → parseFieldDescriptor (TX4 k).2.2.1 = some (tyX4 k) := by decide +kernel
abbrev cX4_init : ByteArray := prog_6_method_1_code
def yX4_init : MethodName := ⟨RX4, "<init>", "()V"⟩
abbrev cX4_placeOf : ByteArray := prog_6_method_2_code
def yX4_placeOf : MethodName := ⟨RX4, "placeOf", "(J)I"⟩
abbrev cX4_readAll : ByteArray := prog_6_method_3_code
def yX4_readAll : MethodName := ⟨RX4, "readAll", "(LGazetteHouse$Text;)Z"⟩
abbrev cX4_readName : ByteArray := prog_6_method_4_code
def yX4_readName : MethodName := ⟨RX4, "readName", "(LGazetteHouse$Text;)Z"⟩
abbrev cX4_readKind : ByteArray := prog_6_method_5_code
def yX4_readKind : MethodName := ⟨RX4, "readKind", "(LGazetteHouse$Text;LGazetteHouse$Field;)Z"⟩
abbrev cX4_isKind : ByteArray := prog_6_method_6_code
def yX4_isKind : MethodName := ⟨RX4, "isKind", "(J)Z"⟩
abbrev cX4_readSpan : ByteArray := prog_6_method_7_code
def yX4_readSpan : MethodName := ⟨RX4, "readSpan", "(LGazetteHouse$Text;LGazetteHouse$Field;)Z"⟩
abbrev cX4_readNotice : ByteArray := prog_6_method_8_code
def yX4_readNotice : MethodName := ⟨RX4, "readNotice", "(LGazetteHouse$Text;[J)Z"⟩
abbrev cX4_readEntry : ByteArray := prog_6_method_9_code
def yX4_readEntry : MethodName := ⟨RX4, "readEntry", "(LGazetteHouse$Text;[J)Z"⟩
abbrev cX4_isWhole : ByteArray := prog_6_method_10_code
def yX4_isWhole : MethodName := ⟨RX4, "isWhole", "(LGazetteHouse$Text;[J)Z"⟩
abbrev cX4_reckon : ByteArray := prog_6_method_11_code
def yX4_reckon : MethodName := ⟨RX4, "reckon", "([JLGazetteHouse$Calendar;)V"⟩
def RX5 : String := "GazetteHouse$Issue"
def TX5 : u_T := fun k => match k with
  | 0 => ("GazetteHouse$Issue", "day", "I", false)
  | 1 => ("GazetteHouse$Issue", "pages", "I", false)
  | 2 => ("GazetteHouse$Issue", "late", "I", false)
  | 3 => ("GazetteHouse$Issue", "waitedOn", "I", false)
  | 4 => ("GazetteHouse$Issue", "size", "I", false)
  | _ => ("GazetteHouse$Issue", "numbers", "[I", true)
def tyX5 : Nat → FieldType := fun k => match k with
  | 0 => .int
  | 1 => .int
  | 2 => .int
  | 3 => .int
  | 4 => .int
  | _ => .array .int
abbrev wsX50 : List Cond := u_ws RX5 TX5 6
theorem nmX5 : ∀ a, a < 6 → ∀ b, b < 6 → a ≠ b → (TX5 a).2.1 ≠ (TX5 b).2.1 := by decide +kernel
theorem tyX5_ok : ∀ k, k < 6 → parseFieldDescriptor (TX5 k).2.2.1 = some (tyX5 k) := by decide +kernel
abbrev cX5_init : ByteArray := prog_7_method_1_code
def yX5_init : MethodName := ⟨RX5, "<init>", "()V"⟩
abbrev cX5_begin : ByteArray := prog_7_method_2_code
def yX5_begin : MethodName := ⟨RX5, "begin", "(II)V"⟩
abbrev cX5_addNotice : ByteArray := prog_7_method_3_code
def yX5_addNotice : MethodName := ⟨RX5, "addNotice", "(II)V"⟩
def RX6 : String := "GazetteHouse$Notice"
def TX6 : u_T := fun k => match k with
  | 0 => ("GazetteHouse$Notice", "form", "I", false)
  | 1 => ("GazetteHouse$Notice", "lines", "I", false)
  | 2 => ("GazetteHouse$Notice", "due", "I", false)
  | 3 => ("GazetteHouse$Notice", "issue", "I", false)
  | 4 => ("GazetteHouse$Notice", "printedOn", "I", false)
  | 5 => ("GazetteHouse$Notice", "values", "[J", true)
  | 6 => ("GazetteHouse$Notice", "lawCount", "I", false)
  | 7 => ("GazetteHouse$Notice", "lawKeys", "[I", true)
  | 8 => ("GazetteHouse$Notice", "lawValues", "[I", true)
  | 9 => ("GazetteHouse$Notice", "lawDays", "[I", true)
  | 10 => ("GazetteHouse$Notice", "corrected", "I", false)
  | 11 => ("GazetteHouse$Notice", "oldName", "J", false)
  | 12 => ("GazetteHouse$Notice", "newName", "J", false)
  | 13 => ("GazetteHouse$Notice", "struckWord", "J", false)
  | _ => ("GazetteHouse$Notice", "isVoid", "Z", false)
def tyX6 : Nat → FieldType := fun k => match k with
  | 0 => .int
  | 1 => .int
  | 2 => .int
  | 3 => .int
  | 4 => .int
  | 5 => .array .long
  | 6 => .int
  | 7 => .array .int
  | 8 => .array .int
  | 9 => .array .int
  | 10 => .int
  | 11 => .long
  | 12 => .long
  | 13 => .long
  | _ => .boolean
abbrev wsX60 : List Cond := u_ws RX6 TX6 15
theorem nmX6 : ∀ a, a < 15 → ∀ b, b < 15 → a ≠ b → (TX6 a).2.1 ≠ (TX6 b).2.1 := by decide +kernel
theorem tyX6_ok : ∀ k, k < 15 → parseFieldDescriptor (TX6 k).2.2.1 = some (tyX6 k) := by decide +kernel
abbrev cX6_init : ByteArray := prog_8_method_1_code
def yX6_init : MethodName := ⟨RX6, "<init>", "()V"⟩
abbrev cX6_begin : ByteArray := prog_8_method_2_code
def yX6_begin : MethodName := ⟨RX6, "begin", "(III)V"⟩
abbrev cX6_waits : ByteArray := prog_8_method_3_code
def yX6_waits : MethodName := ⟨RX6, "waits", "()Z"⟩
abbrev cX6_isKnown : ByteArray := prog_8_method_4_code
def yX6_isKnown : MethodName := ⟨RX6, "isKnown", "(I)Z"⟩
abbrev cX6_addLaw : ByteArray := prog_8_method_5_code
def yX6_addLaw : MethodName := ⟨RX6, "addLaw", "(III)V"⟩
abbrev cX6_print : ByteArray := prog_8_method_6_code
def yX6_print : MethodName := ⟨RX6, "print", "(II)V"⟩
def RX7 : String := "GazetteHouse$Pages"
def TX7 : u_T := fun k => match k with
  | 0 => ("GazetteHouse$Pages", "best", "[I", true)
  | 1 => ("GazetteHouse$Pages", "numbers", "[I", true)
  | 2 => ("GazetteHouse$Pages", "sizes", "[I", true)
  | 3 => ("GazetteHouse$Pages", "size", "I", false)
  | 4 => ("GazetteHouse$Pages", "total", "I", false)
  | 5 => ("GazetteHouse$Pages", "mostPages", "I", false)
  | _ => ("GazetteHouse$Pages", "pageLines", "I", false)
def tyX7 : Nat → FieldType := fun k => match k with
  | 0 => .array .int
  | 1 => .array .int
  | 2 => .array .int
  | 3 => .int
  | 4 => .int
  | 5 => .int
  | _ => .int
abbrev wsX70 : List Cond := u_ws RX7 TX7 7
theorem nmX7 : ∀ a, a < 7 → ∀ b, b < 7 → a ≠ b → (TX7 a).2.1 ≠ (TX7 b).2.1 := by decide +kernel
theorem tyX7_ok : ∀ k, k < 7 → parseFieldDescriptor (TX7 k).2.2.1 = some (tyX7 k) := by decide +kernel
abbrev cX7_init : ByteArray := prog_9_method_1_code
def yX7_init : MethodName := ⟨RX7, "<init>", "()V"⟩
abbrev cX7_start : ByteArray := prog_9_method_2_code
def yX7_start : MethodName := ⟨RX7, "start", "(II)V"⟩
abbrev cX7_take : ByteArray := prog_9_method_3_code
def yX7_take : MethodName := ⟨RX7, "take", "(II)Z"⟩
abbrev cX7_pagesNeeded : ByteArray := prog_9_method_4_code
def yX7_pagesNeeded : MethodName := ⟨RX7, "pagesNeeded", "()I"⟩
abbrev cX7_bestOf : ByteArray := prog_9_method_5_code
def yX7_bestOf : MethodName := ⟨RX7, "bestOf", "(I)I"⟩
abbrev cX7_laidOn : ByteArray := prog_9_method_6_code
def yX7_laidOn : MethodName := ⟨RX7, "laidOn", "(II)I"⟩
def RX8 : String := "GazetteHouse$Text"
def TX8 : u_T := fun k => match k with
  | 0 => ("GazetteHouse$Text", "tape", "[B", true)
  | 1 => ("GazetteHouse$Text", "fed", "I", false)
  | 2 => ("GazetteHouse$Text", "end", "I", false)
  | 3 => ("GazetteHouse$Text", "at", "I", false)
  | 4 => ("GazetteHouse$Text", "kind", "I", false)
  | 5 => ("GazetteHouse$Text", "place", "I", false)
  | 6 => ("GazetteHouse$Text", "number", "I", false)
  | 7 => ("GazetteHouse$Text", "word", "J", false)
  | 8 => ("GazetteHouse$Text", "fault", "I", false)
  | 9 => ("GazetteHouse$Text", "faultPlace", "I", false)
  | _ => ("GazetteHouse$Text", "lacking", "I", false)
def tyX8 : Nat → FieldType := fun k => match k with
  | 0 => .array .byte
  | 1 => .int
  | 2 => .int
  | 3 => .int
  | 4 => .int
  | 5 => .int
  | 6 => .int
  | 7 => .long
  | 8 => .int
  | 9 => .int
  | _ => .int
abbrev wsX80 : List Cond := u_ws RX8 TX8 11
theorem nmX8 : ∀ a, a < 11 → ∀ b, b < 11 → a ≠ b → (TX8 a).2.1 ≠ (TX8 b).2.1 := by decide +kernel
theorem tyX8_ok : ∀ k, k < 11 → parseFieldDescriptor (TX8 k).2.2.1 = some (tyX8 k) := by decide +kernel
abbrev cX8_init : ByteArray := prog_10_method_1_code
def yX8_init : MethodName := ⟨RX8, "<init>", "()V"⟩
abbrev cX8_put : ByteArray := prog_10_method_2_code
def yX8_put : MethodName := ⟨RX8, "put", "(I)V"⟩
abbrev cX8_holds : ByteArray := prog_10_method_3_code
def yX8_holds : MethodName := ⟨RX8, "holds", "(I)Z"⟩
abbrev cX8_start : ByteArray := prog_10_method_4_code
def yX8_start : MethodName := ⟨RX8, "start", "(I)V"⟩
abbrev cX8_fail : ByteArray := prog_10_method_5_code
def yX8_fail : MethodName := ⟨RX8, "fail", "(I)Z"⟩
abbrev cX8_take : ByteArray := prog_10_method_6_code
def yX8_take : MethodName := ⟨RX8, "take", "(I)Z"⟩
abbrev cX8_step : ByteArray := prog_10_method_7_code
def yX8_step : MethodName := ⟨RX8, "step", "()V"⟩
abbrev cX8_readRun : ByteArray := prog_10_method_8_code
def yX8_readRun : MethodName := ⟨RX8, "readRun", "(IIII)J"⟩
abbrev cX8_readSign : ByteArray := prog_10_method_9_code
def yX8_readSign : MethodName := ⟨RX8, "readSign", "()I"⟩
def RX9 : String := "GazetteHouse"
def TX9 : u_T := fun k => match k with
  | 0 => ("GazetteHouse", "calendar", "LGazetteHouse$Calendar;", true)
  | 1 => ("GazetteHouse", "text", "LGazetteHouse$Text;", true)
  | 2 => ("GazetteHouse", "forms", "[LGazetteHouse$Form;", true)
  | 3 => ("GazetteHouse", "formCount", "I", false)
  | 4 => ("GazetteHouse", "archive", "LGazetteHouse$Archive;", true)
  | 5 => ("GazetteHouse", "issues", "[LGazetteHouse$Issue;", true)
  | 6 => ("GazetteHouse", "issueCount", "I", false)
  | 7 => ("GazetteHouse", "latestDay", "I", false)
  | 8 => ("GazetteHouse", "paper", "LGazetteHouse$Pages;", true)
  | 9 => ("GazetteHouse", "acts", "LGazetteHouse$Acts;", true)
  | _ => ("GazetteHouse", "trouble", "I", false)
def tyX9 : Nat → FieldType := fun k => match k with
  | 0 => .object "GazetteHouse$Calendar"
  | 1 => .object "GazetteHouse$Text"
  | 2 => .array (.object "GazetteHouse$Form")
  | 3 => .int
  | 4 => .object "GazetteHouse$Archive"
  | 5 => .array (.object "GazetteHouse$Issue")
  | 6 => .int
  | 7 => .int
  | 8 => .object "GazetteHouse$Pages"
  | 9 => .object "GazetteHouse$Acts"
  | _ => .int
abbrev wsX90 : List Cond := u_ws RX9 TX9 11
theorem nmX9 : ∀ a, a < 11 → ∀ b, b < 11 → a ≠ b → (TX9 a).2.1 ≠ (TX9 b).2.1 := by decide +kernel
theorem tyX9_ok : ∀ k, k < 11 → parseFieldDescriptor (TX9 k).2.2.1 = some (tyX9 k) := by decide +kernel
abbrev cX9_init : ByteArray := prog_1_method_1_code
def yX9_init : MethodName := ⟨RX9, "<init>", "()V"⟩
abbrev cX9_feast : ByteArray := prog_1_method_2_code
def yX9_feast : MethodName := ⟨RX9, "feast", "(IZ)Z"⟩
abbrev cX9_working : ByteArray := prog_1_method_3_code
def yX9_working : MethodName := ⟨RX9, "working", "(I)I"⟩
abbrev cX9_after : ByteArray := prog_1_method_4_code
def yX9_after : MethodName := ⟨RX9, "after", "(IIZ)I"⟩
abbrev cX9_feed : ByteArray := prog_1_method_5_code
def yX9_feed : MethodName := ⟨RX9, "feed", "(IIIII)I"⟩
abbrev cX9_form : ByteArray := prog_1_method_6_code
def yX9_form : MethodName := ⟨RX9, "form", "(I)I"⟩
abbrev cX9_notice : ByteArray := prog_1_method_7_code
def yX9_notice : MethodName := ⟨RX9, "notice", "(IIII)I"⟩
abbrev cX9_fault : ByteArray := prog_1_method_8_code
def yX9_fault : MethodName := ⟨RX9, "fault", "()I"⟩
abbrev cX9_where : ByteArray := prog_1_method_9_code
def yX9_where : MethodName := ⟨RX9, "where", "()I"⟩
abbrev cX9_lacks : ByteArray := prog_1_method_10_code
def yX9_lacks : MethodName := ⟨RX9, "lacks", "()I"⟩
abbrev cX9_field : ByteArray := prog_1_method_11_code
def yX9_field : MethodName := ⟨RX9, "field", "(III)I"⟩
abbrev cX9_fields : ByteArray := prog_1_method_12_code
def yX9_fields : MethodName := ⟨RX9, "fields", "(I)I"⟩
abbrev cX9_value : ByteArray := prog_1_method_13_code
def yX9_value : MethodName := ⟨RX9, "value", "(II)J"⟩
abbrev cX9_about : ByteArray := prog_1_method_14_code
def yX9_about : MethodName := ⟨RX9, "about", "(II)I"⟩
abbrev cX9_says : ByteArray := prog_1_method_15_code
def yX9_says : MethodName := ⟨RX9, "says", "(IIII)I"⟩
abbrev cX9_corrects : ByteArray := prog_1_method_16_code
def yX9_corrects : MethodName := ⟨RX9, "corrects", "(II)Z"⟩
abbrev cX9_renames : ByteArray := prog_1_method_17_code
def yX9_renames : MethodName := ⟨RX9, "renames", "(IJJ)Z"⟩
abbrev cX9_strikes : ByteArray := prog_1_method_18_code
def yX9_strikes : MethodName := ⟨RX9, "strikes", "(IJ)Z"⟩
abbrev cX9_issue : ByteArray := prog_1_method_19_code
def yX9_issue : MethodName := ⟨RX9, "issue", "(IIII)I"⟩
abbrev cX9_issued : ByteArray := prog_1_method_20_code
def yX9_issued : MethodName := ⟨RX9, "issued", "(II)I"⟩
abbrev cX9_printed : ByteArray := prog_1_method_21_code
def yX9_printed : MethodName := ⟨RX9, "printed", "(II)I"⟩
abbrev cX9_law : ByteArray := prog_1_method_22_code
def yX9_law : MethodName := ⟨RX9, "law", "(III)I"⟩
abbrev cX9_source : ByteArray := prog_1_method_23_code
def yX9_source : MethodName := ⟨RX9, "source", "(III)I"⟩
abbrev cX9_isVoid : ByteArray := prog_1_method_24_code
def yX9_isVoid : MethodName := ⟨RX9, "isVoid", "(II)I"⟩
abbrev cX9_changes : ByteArray := prog_1_method_25_code
def yX9_changes : MethodName := ⟨RX9, "changes", "(II)I"⟩
abbrev cX9_find : ByteArray := prog_1_method_26_code
def yX9_find : MethodName := ⟨RX9, "find", "(JI)I"⟩
abbrev cX9_found : ByteArray := prog_1_method_27_code
def yX9_found : MethodName := ⟨RX9, "found", "(I)I"⟩
abbrev cX9_struck : ByteArray := prog_1_method_28_code
def yX9_struck : MethodName := ⟨RX9, "struck", "(JI)I"⟩
abbrev cX9_undo : ByteArray := prog_1_method_29_code
def yX9_undo : MethodName := ⟨RX9, "undo", "()I"⟩
abbrev cX9_count : ByteArray := prog_1_method_30_code
def yX9_count : MethodName := ⟨RX9, "count", "(I)I"⟩
abbrev cX9_trouble : ByteArray := prog_1_method_31_code
def yX9_trouble : MethodName := ⟨RX9, "trouble", "()I"⟩
abbrev cX9_refused : ByteArray := prog_1_method_32_code
def yX9_refused : MethodName := ⟨RX9, "refused", "(I)I"⟩
abbrev cX9_refusal : ByteArray := prog_1_method_33_code
def yX9_refusal : MethodName := ⟨RX9, "refusal", "(I)Z"⟩
abbrev cX9_accepted : ByteArray := prog_1_method_34_code
def yX9_accepted : MethodName := ⟨RX9, "accepted", "(I)I"⟩
abbrev cX9_acceptance : ByteArray := prog_1_method_35_code
def yX9_acceptance : MethodName := ⟨RX9, "acceptance", "()Z"⟩
abbrev cX9_isDay : ByteArray := prog_1_method_36_code
def yX9_isDay : MethodName := ⟨RX9, "isDay", "(I)Z"⟩
abbrev cX9_isKey : ByteArray := prog_1_method_37_code
def yX9_isKey : MethodName := ⟨RX9, "isKey", "(I)Z"⟩
abbrev cX9_isWord : ByteArray := prog_1_method_38_code
def yX9_isWord : MethodName := ⟨RX9, "isWord", "(J)Z"⟩
abbrev cX9_formAt : ByteArray := prog_1_method_39_code
def yX9_formAt : MethodName := ⟨RX9, "formAt", "(I)LGazetteHouse$Form;"⟩
abbrev cX9_print : ByteArray := prog_1_method_40_code
def yX9_print : MethodName := ⟨RX9, "print", "(I)V"⟩
abbrev cX9_takeBack : ByteArray := prog_1_method_41_code
def yX9_takeBack : MethodName := ⟨RX9, "takeBack", "()V"⟩
abbrev cX9_takeBackSaying : ByteArray := prog_1_method_42_code
def yX9_takeBackSaying : MethodName := ⟨RX9, "takeBackSaying", "(LGazetteHouse$Notice;)V"⟩
def RX10 : String := "GazetteHouseModel$Stop"
def TX10 : u_T := fun k => match k with
  | 0 => ("java/lang/Throwable", "cause", "Ljava/lang/Throwable;", false)
  | 1 => ("java/lang/Throwable", "stackTrace", "[Ljava/lang/StackTraceElement;", false)
  | 2 => ("java/lang/Throwable", "suppressedExceptions", "Ljava/util/List;", false)
  | 3 => ("java/lang/Throwable", "detailMessage", "Ljava/lang/String;", false)
  | 4 => ("java/lang/Throwable", "backtrace", "Ljava/lang/Object;", false)
  | 5 => ("java/lang/Throwable", "depth", "I", false)
  | 6 => ("GazetteHouseModel$Stop", "kind", "I", false)
  | _ => ("GazetteHouseModel$Stop", "place", "I", false)
def tyX10 : Nat → FieldType := fun k => match k with
  | 0 => .object "java/lang/Throwable"
  | 1 => .array (.object "java/lang/StackTraceElement")
  | 2 => .object "java/util/List"
  | 3 => .object "java/lang/String"
  | 4 => .object "java/lang/Object"
  | 5 => .int
  | 6 => .int
  | _ => .int
abbrev wsX100 : List Cond := u_ws RX10 TX10 8
theorem nmX10 : ∀ a, a < 8 → ∀ b, b < 8 → a ≠ b → (TX10 a).2.1 ≠ (TX10 b).2.1 := by decide +kernel
theorem tyX10_ok : ∀ k, k < 8 → parseFieldDescriptor (TX10 k).2.2.1 = some (tyX10 k) := by decide +kernel
abbrev cX10_init : ByteArray := prog_13_method_1_code
def yX10_init : MethodName := ⟨RX10, "<init>", "()V"⟩
def RX11 : String := "GazetteHouseModel"
def TX11 : u_T := fun k => match k with
  | 0 => ("GazetteHouseModel", "thrown", "I", false)
  | 1 => ("GazetteHouseModel", "trouble", "I", false)
  | 2 => ("GazetteHouseModel", "where", "I", false)
  | 3 => ("GazetteHouseModel", "fault", "I", false)
  | 4 => ("GazetteHouseModel", "lacks", "I", false)
  | 5 => ("GazetteHouseModel", "actWhat", "[I", true)
  | 6 => ("GazetteHouseModel", "actWhich", "[I", true)
  | 7 => ("GazetteHouseModel", "actOne", "[J", true)
  | 8 => ("GazetteHouseModel", "actTwo", "[J", true)
  | 9 => ("GazetteHouseModel", "acts", "I", false)
  | 10 => ("GazetteHouseModel", "feast", "[Z", true)
  | 11 => ("GazetteHouseModel", "feasts", "I", false)
  | 12 => ("GazetteHouseModel", "stop", "LGazetteHouseModel$Stop;", true)
  | 13 => ("GazetteHouseModel", "tape", "[B", true)
  | 14 => ("GazetteHouseModel", "taped", "I", false)
  | 15 => ("GazetteHouseModel", "length", "I", false)
  | 16 => ("GazetteHouseModel", "at", "I", false)
  | 17 => ("GazetteHouseModel", "sort", "I", false)
  | 18 => ("GazetteHouseModel", "place", "I", false)
  | 19 => ("GazetteHouseModel", "sign", "I", false)
  | 20 => ("GazetteHouseModel", "value", "J", false)
  | 21 => ("GazetteHouseModel", "forms", "I", false)
  | 22 => ("GazetteHouseModel", "fields", "[I", true)
  | 23 => ("GazetteHouseModel", "kind", "[I", true)
  | 24 => ("GazetteHouseModel", "first", "[I", true)
  | 25 => ("GazetteHouseModel", "second", "[I", true)
  | 26 => ("GazetteHouseModel", "may", "[Z", true)
  | 27 => ("GazetteHouseModel", "name", "[J", true)
  | 28 => ("GazetteHouseModel", "choice", "[J", true)
  | 29 => ("GazetteHouseModel", "notices", "I", false)
  | 30 => ("GazetteHouseModel", "issues", "I", false)
  | 31 => ("GazetteHouseModel", "latest", "I", false)
  | 32 => ("GazetteHouseModel", "formOf", "[I", true)
  | 33 => ("GazetteHouseModel", "lines", "[I", true)
  | 34 => ("GazetteHouseModel", "due", "[I", true)
  | 35 => ("GazetteHouseModel", "issueOf", "[I", true)
  | 36 => ("GazetteHouseModel", "laws", "[I", true)
  | 37 => ("GazetteHouseModel", "corrects", "[I", true)
  | 38 => ("GazetteHouseModel", "values", "[J", true)
  | 39 => ("GazetteHouseModel", "renamed", "[J", true)
  | 40 => ("GazetteHouseModel", "becomes", "[J", true)
  | 41 => ("GazetteHouseModel", "strikes", "[J", true)
  | 42 => ("GazetteHouseModel", "has", "[Z", true)
  | 43 => ("GazetteHouseModel", "key", "[I", true)
  | 44 => ("GazetteHouseModel", "told", "[I", true)
  | 45 => ("GazetteHouseModel", "since", "[I", true)
  | 46 => ("GazetteHouseModel", "issueDay", "[I", true)
  | 47 => ("GazetteHouseModel", "issueMany", "[I", true)
  | 48 => ("GazetteHouseModel", "issuePages", "[I", true)
  | 49 => ("GazetteHouseModel", "issueLate", "[I", true)
  | 50 => ("GazetteHouseModel", "issueWaits", "[I", true)
  | 51 => ("GazetteHouseModel", "issueNotice", "[I", true)
  | 52 => ("GazetteHouseModel", "packed", "[I", true)
  | 53 => ("GazetteHouseModel", "fewest", "[I", true)
  | 54 => ("GazetteHouseModel", "left", "[I", true)
  | 55 => ("GazetteHouseModel", "packs", "I", false)
  | 56 => ("GazetteHouseModel", "isVoid", "[Z", true)
  | 57 => ("GazetteHouseModel", "begins", "[I", true)
  | 58 => ("GazetteHouseModel", "beginsOf", "[I", true)
  | 59 => ("GazetteHouseModel", "isBegun", "[Z", true)
  | 60 => ("GazetteHouseModel", "names", "[J", true)
  | 61 => ("GazetteHouseModel", "found", "[I", true)
  | _ => ("GazetteHouseModel", "founds", "I", false)
def tyX11 : Nat → FieldType := fun k => match k with
  | 0 => .int
  | 1 => .int
  | 2 => .int
  | 3 => .int
  | 4 => .int
  | 5 => .array .int
  | 6 => .array .int
  | 7 => .array .long
  | 8 => .array .long
  | 9 => .int
  | 10 => .array .boolean
  | 11 => .int
  | 12 => .object "GazetteHouseModel$Stop"
  | 13 => .array .byte
  | 14 => .int
  | 15 => .int
  | 16 => .int
  | 17 => .int
  | 18 => .int
  | 19 => .int
  | 20 => .long
  | 21 => .int
  | 22 => .array .int
  | 23 => .array .int
  | 24 => .array .int
  | 25 => .array .int
  | 26 => .array .boolean
  | 27 => .array .long
  | 28 => .array .long
  | 29 => .int
  | 30 => .int
  | 31 => .int
  | 32 => .array .int
  | 33 => .array .int
  | 34 => .array .int
  | 35 => .array .int
  | 36 => .array .int
  | 37 => .array .int
  | 38 => .array .long
  | 39 => .array .long
  | 40 => .array .long
  | 41 => .array .long
  | 42 => .array .boolean
  | 43 => .array .int
  | 44 => .array .int
  | 45 => .array .int
  | 46 => .array .int
  | 47 => .array .int
  | 48 => .array .int
  | 49 => .array .int
  | 50 => .array .int
  | 51 => .array .int
  | 52 => .array .int
  | 53 => .array .int
  | 54 => .array .int
  | 55 => .int
  | 56 => .array .boolean
  | 57 => .array .int
  | 58 => .array .int
  | 59 => .array .boolean
  | 60 => .array .long
  | 61 => .array .int
  | _ => .int
abbrev wsX110 : List Cond := u_ws RX11 TX11 63
theorem nmX11 : ∀ a, a < 63 → ∀ b, b < 63 → a ≠ b → (TX11 a).2.1 ≠ (TX11 b).2.1 := by decide +kernel
theorem tyX11_ok : ∀ k, k < 63 → parseFieldDescriptor (TX11 k).2.2.1 = some (tyX11 k) := by decide +kernel
abbrev cX11_init : ByteArray := prog_12_method_1_code
def yX11_init : MethodName := ⟨RX11, "<init>", "()V"⟩
abbrev cX11_refused : ByteArray := prog_12_method_3_code
def yX11_refused : MethodName := ⟨RX11, "refused", "(I)I"⟩
abbrev cX11_denied : ByteArray := prog_12_method_4_code
def yX11_denied : MethodName := ⟨RX11, "denied", "(I)Z"⟩
abbrev cX11_done : ByteArray := prog_12_method_5_code
def yX11_done : MethodName := ⟨RX11, "done", "(I)I"⟩
abbrev cX11_in : ByteArray := prog_12_method_6_code
def yX11_in : MethodName := ⟨RX11, "in", "(III)Z"⟩
abbrev cX11_act : ByteArray := prog_12_method_7_code
def yX11_act : MethodName := ⟨RX11, "act", "(IIJJ)V"⟩
abbrev cX11_undo : ByteArray := prog_12_method_8_code
def yX11_undo : MethodName := ⟨RX11, "undo", "()I"⟩
abbrev cX11_isDay : ByteArray := prog_12_method_9_code
def yX11_isDay : MethodName := ⟨RX11, "isDay", "(I)Z"⟩
abbrev cX11_isWorking : ByteArray := prog_12_method_10_code
def yX11_isWorking : MethodName := ⟨RX11, "isWorking", "(I)Z"⟩
abbrev cX11_feast : ByteArray := prog_12_method_11_code
def yX11_feast : MethodName := ⟨RX11, "feast", "(IZ)Z"⟩
abbrev cX11_working : ByteArray := prog_12_method_12_code
def yX11_working : MethodName := ⟨RX11, "working", "(I)I"⟩
abbrev cX11_spanOf : ByteArray := prog_12_method_13_code
def yX11_spanOf : MethodName := ⟨RX11, "spanOf", "(IIZ)I"⟩
abbrev cX11_after : ByteArray := prog_12_method_14_code
def yX11_after : MethodName := ⟨RX11, "after", "(IIZ)I"⟩
abbrev cX11_stop : ByteArray := prog_12_method_15_code
def yX11_stop : MethodName := ⟨RX11, "stop", "(II)LGazetteHouseModel$Stop;"⟩
abbrev cX11_byteAt : ByteArray := prog_12_method_16_code
def yX11_byteAt : MethodName := ⟨RX11, "byteAt", "(I)I"⟩
abbrev cX11_isLetter : ByteArray := prog_12_method_17_code
def yX11_isLetter : MethodName := ⟨RX11, "isLetter", "(I)Z"⟩
abbrev cX11_isDigit : ByteArray := prog_12_method_18_code
def yX11_isDigit : MethodName := ⟨RX11, "isDigit", "(I)Z"⟩
abbrev cX11_next : ByteArray := prog_12_method_19_code
def yX11_next : MethodName := ⟨RX11, "next", "()V"⟩
abbrev cX11_is : ByteArray := prog_12_method_20_code
def yX11_is : MethodName := ⟨RX11, "is", "(I)Z"⟩
abbrev cX11_need : ByteArray := prog_12_method_21_code
def yX11_need : MethodName := ⟨RX11, "need", "(I)V"⟩
abbrev cX11_needSort : ByteArray := prog_12_method_22_code
def yX11_needSort : MethodName := ⟨RX11, "needSort", "(I)V"⟩
abbrev cX11_word : ByteArray := prog_12_method_23_code
def yX11_word : MethodName := ⟨RX11, "word", "(Ljava/lang/String;)J"⟩
abbrev cX11_fieldOf : ByteArray := prog_12_method_24_code
def yX11_fieldOf : MethodName := ⟨RX11, "fieldOf", "(IJ)I"⟩
abbrev cX11_start : ByteArray := prog_12_method_25_code
def yX11_start : MethodName := ⟨RX11, "start", "(I)V"⟩
abbrev cX11_readForm : ByteArray := prog_12_method_26_code
def yX11_readForm : MethodName := ⟨RX11, "readForm", "()V"⟩
abbrev cX11_readKind : ByteArray := prog_12_method_27_code
def yX11_readKind : MethodName := ⟨RX11, "readKind", "(II)V"⟩
abbrev cX11_readChoices : ByteArray := prog_12_method_28_code
def yX11_readChoices : MethodName := ⟨RX11, "readChoices", "(I)V"⟩
abbrev cX11_readSpan : ByteArray := prog_12_method_29_code
def yX11_readSpan : MethodName := ⟨RX11, "readSpan", "(II)V"⟩
abbrev cX11_feed : ByteArray := prog_12_method_30_code
def yX11_feed : MethodName := ⟨RX11, "feed", "(IIIII)I"⟩
abbrev cX11_wrong : ByteArray := prog_12_method_31_code
def yX11_wrong : MethodName := ⟨RX11, "wrong", "(LGazetteHouseModel$Stop;)I"⟩
abbrev cX11_form : ByteArray := prog_12_method_32_code
def yX11_form : MethodName := ⟨RX11, "form", "(I)I"⟩
abbrev cX11_isForm : ByteArray := prog_12_method_33_code
def yX11_isForm : MethodName := ⟨RX11, "isForm", "(I)Z"⟩
abbrev cX11_field : ByteArray := prog_12_method_34_code
def yX11_field : MethodName := ⟨RX11, "field", "(III)I"⟩
abbrev cX11_fields : ByteArray := prog_12_method_35_code
def yX11_fields : MethodName := ⟨RX11, "fields", "(I)I"⟩
abbrev cX11_readNotice : ByteArray := prog_12_method_36_code
def yX11_readNotice : MethodName := ⟨RX11, "readNotice", "(I)V"⟩
abbrev cX11_valueBy : ByteArray := prog_12_method_37_code
def yX11_valueBy : MethodName := ⟨RX11, "valueBy", "(I)J"⟩
abbrev cX11_notice : ByteArray := prog_12_method_38_code
def yX11_notice : MethodName := ⟨RX11, "notice", "(IIII)I"⟩
abbrev cX11_fault : ByteArray := prog_12_method_39_code
def yX11_fault : MethodName := ⟨RX11, "fault", "()I"⟩
abbrev cX11_where : ByteArray := prog_12_method_40_code
def yX11_where : MethodName := ⟨RX11, "where", "()I"⟩
abbrev cX11_lacks : ByteArray := prog_12_method_41_code
def yX11_lacks : MethodName := ⟨RX11, "lacks", "()I"⟩
abbrev cX11_isNotice : ByteArray := prog_12_method_42_code
def yX11_isNotice : MethodName := ⟨RX11, "isNotice", "(I)Z"⟩
abbrev cX11_spans : ByteArray := prog_12_method_43_code
def yX11_spans : MethodName := ⟨RX11, "spans", "(I)V"⟩
abbrev cX11_value : ByteArray := prog_12_method_44_code
def yX11_value : MethodName := ⟨RX11, "value", "(II)J"⟩
abbrev cX11_about : ByteArray := prog_12_method_45_code
def yX11_about : MethodName := ⟨RX11, "about", "(II)I"⟩
abbrev cX11_says : ByteArray := prog_12_method_46_code
def yX11_says : MethodName := ⟨RX11, "says", "(IIII)I"⟩
abbrev cX11_waits : ByteArray := prog_12_method_47_code
def yX11_waits : MethodName := ⟨RX11, "waits", "(I)Z"⟩
abbrev cX11_granted : ByteArray := prog_12_method_48_code
def yX11_granted : MethodName := ⟨RX11, "granted", "()Z"⟩
abbrev cX11_corrects : ByteArray := prog_12_method_49_code
def yX11_corrects : MethodName := ⟨RX11, "corrects", "(II)Z"⟩
abbrev cX11_isWord : ByteArray := prog_12_method_50_code
def yX11_isWord : MethodName := ⟨RX11, "isWord", "(J)Z"⟩
abbrev cX11_renames : ByteArray := prog_12_method_51_code
def yX11_renames : MethodName := ⟨RX11, "renames", "(IJJ)Z"⟩
abbrev cX11_strikes : ByteArray := prog_12_method_52_code
def yX11_strikes : MethodName := ⟨RX11, "strikes", "(IJ)Z"⟩
abbrev cX11_packs : ByteArray := prog_12_method_53_code
def yX11_packs : MethodName := ⟨RX11, "packs", "(III)Z"⟩
abbrev cX11_issue : ByteArray := prog_12_method_54_code
def yX11_issue : MethodName := ⟨RX11, "issue", "(IIII)I"⟩
abbrev cX11_waiting : ByteArray := prog_12_method_55_code
def yX11_waiting : MethodName := ⟨RX11, "waiting", "()I"⟩
abbrev cX11_isIssue : ByteArray := prog_12_method_56_code
def yX11_isIssue : MethodName := ⟨RX11, "isIssue", "(I)Z"⟩
abbrev cX11_issued : ByteArray := prog_12_method_57_code
def yX11_issued : MethodName := ⟨RX11, "issued", "(II)I"⟩
abbrev cX11_printed : ByteArray := prog_12_method_58_code
def yX11_printed : MethodName := ⟨RX11, "printed", "(II)I"⟩
abbrev cX11_isKnown : ByteArray := prog_12_method_59_code
def yX11_isKnown : MethodName := ⟨RX11, "isKnown", "(II)Z"⟩
abbrev cX11_voids : ByteArray := prog_12_method_60_code
def yX11_voids : MethodName := ⟨RX11, "voids", "(I)V"⟩
abbrev cX11_lay : ByteArray := prog_12_method_61_code
def yX11_lay : MethodName := ⟨RX11, "lay", "(II)V"⟩
abbrev cX11_sinceOf : ByteArray := prog_12_method_62_code
def yX11_sinceOf : MethodName := ⟨RX11, "sinceOf", "(III)I"⟩
abbrev cX11_law : ByteArray := prog_12_method_63_code
def yX11_law : MethodName := ⟨RX11, "law", "(III)I"⟩
abbrev cX11_source : ByteArray := prog_12_method_64_code
def yX11_source : MethodName := ⟨RX11, "source", "(III)I"⟩
abbrev cX11_isVoid : ByteArray := prog_12_method_65_code
def yX11_isVoid : MethodName := ⟨RX11, "isVoid", "(II)I"⟩
abbrev cX11_changes : ByteArray := prog_12_method_66_code
def yX11_changes : MethodName := ⟨RX11, "changes", "(II)I"⟩
abbrev cX11_find : ByteArray := prog_12_method_67_code
def yX11_find : MethodName := ⟨RX11, "find", "(JI)I"⟩
abbrev cX11_isNamed : ByteArray := prog_12_method_68_code
def yX11_isNamed : MethodName := ⟨RX11, "isNamed", "(II)Z"⟩
abbrev cX11_found : ByteArray := prog_12_method_69_code
def yX11_found : MethodName := ⟨RX11, "found", "(I)I"⟩
abbrev cX11_struck : ByteArray := prog_12_method_70_code
def yX11_struck : MethodName := ⟨RX11, "struck", "(JI)I"⟩
abbrev cX11_count : ByteArray := prog_12_method_71_code
def yX11_count : MethodName := ⟨RX11, "count", "(I)I"⟩
abbrev cX11_trouble : ByteArray := prog_12_method_72_code
def yX11_trouble : MethodName := ⟨RX11, "trouble", "()I"⟩
def RJx145de : String := "java/io/Serializable"
def TJx145de : u_T := fun k => match k with
  | _ => ("", "", "", false)
def tyJx145de : Nat → FieldType := fun k => match k with
  | _ => .int
abbrev wsJx145de0 : List Cond := u_ws RJx145de TJx145de 0
theorem nmJx145de : ∀ a, a < 0 → ∀ b, b < 0 → a ≠ b → (TJx145de a).2.1 ≠ (TJx145de b).2.1 := by decide +kernel
theorem tyJx145de_ok : ∀ k, k < 0 → parseFieldDescriptor (TJx145de k).2.2.1 = some (tyJx145de k) := by decide +kernel
def RJx9f9b0 : String := "java/lang/CharSequence"
def TJx9f9b0 : u_T := fun k => match k with
  | _ => ("", "", "", false)
def tyJx9f9b0 : Nat → FieldType := fun k => match k with
  | _ => .int
abbrev wsJx9f9b00 : List Cond := u_ws RJx9f9b0 TJx9f9b0 0
theorem nmJx9f9b0 : ∀ a, a < 0 → ∀ b, b < 0 → a ≠ b → (TJx9f9b0 a).2.1 ≠ (TJx9f9b0 b).2.1 := by decide +kernel
theorem tyJx9f9b0_ok : ∀ k, k < 0 → parseFieldDescriptor (TJx9f9b0 k).2.2.1 = some (tyJx9f9b0 k) := by decide +kernel
def RJxb160c : String := "java/lang/Comparable"
def TJxb160c : u_T := fun k => match k with
  | _ => ("", "", "", false)
def tyJxb160c : Nat → FieldType := fun k => match k with
  | _ => .int
abbrev wsJxb160c0 : List Cond := u_ws RJxb160c TJxb160c 0
theorem nmJxb160c : ∀ a, a < 0 → ∀ b, b < 0 → a ≠ b → (TJxb160c a).2.1 ≠ (TJxb160c b).2.1 := by decide +kernel
theorem tyJxb160c_ok : ∀ k, k < 0 → parseFieldDescriptor (TJxb160c k).2.2.1 = some (tyJxb160c k) := by decide +kernel
def RJ9 : String := "java/lang/Math"
def TJ9 : u_T := fun k => match k with
  | _ => ("", "", "", false)
def tyJ9 : Nat → FieldType := fun k => match k with
  | _ => .int
abbrev wsJ90 : List Cond := u_ws RJ9 TJ9 0
theorem nmJ9 : ∀ a, a < 0 → ∀ b, b < 0 → a ≠ b → (TJ9 a).2.1 ≠ (TJ9 b).2.1 := by decide +kernel
theorem tyJ9_ok : ∀ k, k < 0 → parseFieldDescriptor (TJ9 k).2.2.1 = some (tyJ9 k) := by decide +kernel
abbrev cJ9_max_7cf53 : ByteArray := prog_15_method_65_code
def yJ9_max_7cf53 : MethodName := ⟨RJ9, "max", "(II)I"⟩
abbrev cJ9_min_7cf53 : ByteArray := prog_15_method_69_code
def yJ9_min_7cf53 : MethodName := ⟨RJ9, "min", "(II)I"⟩
def RJ0 : String := "java/lang/String"
def TJ0 : u_T := fun k => match k with
  | _ => ("", "", "", false)
def tyJ0 : Nat → FieldType := fun k => match k with
  | _ => .int
abbrev wsJ00 : List Cond := u_ws RJ0 TJ0 0
theorem nmJ0 : ∀ a, a < 0 → ∀ b, b < 0 → a ≠ b → (TJ0 a).2.1 ≠ (TJ0 b).2.1 := by decide +kernel
theorem tyJ0_ok : ∀ k, k < 0 → parseFieldDescriptor (TJ0 k).2.2.1 = some (tyJ0 k) := by decide +kernel
abbrev cJ0_length_8abf5 : ByteArray := prog_17_method_54_code
def yJ0_length_8abf5 : MethodName := ⟨RJ0, "length", "()I"⟩
abbrev cJ0_charAt_5068e : ByteArray := prog_17_method_56_code
def yJ0_charAt_5068e : MethodName := ⟨RJ0, "charAt", "(I)C"⟩
abbrev cJ0_coder_7d493 : ByteArray := prog_17_method_152_code
def yJ0_coder_7d493 : MethodName := ⟨RJ0, "coder", "()B"⟩
abbrev cJ0_isLatin1_aae02 : ByteArray := prog_17_method_154_code
def yJ0_isLatin1_aae02 : MethodName := ⟨RJ0, "isLatin1", "()Z"⟩
abbrev cJ0_checkIndex_df160 : ByteArray := prog_17_method_155_code
def yJ0_checkIndex_df160 : MethodName := ⟨RJ0, "checkIndex", "(II)V"⟩
def RJ1 : String := "java/lang/StringLatin1"
def TJ1 : u_T := fun k => match k with
  | _ => ("", "", "", false)
def tyJ1 : Nat → FieldType := fun k => match k with
  | _ => .int
abbrev wsJ10 : List Cond := u_ws RJ1 TJ1 0
theorem nmJ1 : ∀ a, a < 0 → ∀ b, b < 0 → a ≠ b → (TJ1 a).2.1 ≠ (TJ1 b).2.1 := by decide +kernel
theorem tyJ1_ok : ∀ k, k < 0 → parseFieldDescriptor (TJ1 k).2.2.1 = some (tyJ1 k) := by decide +kernel
abbrev cJ1_charAt_3b067 : ByteArray := prog_18_method_2_code
def yJ1_charAt_3b067 : MethodName := ⟨RJ1, "charAt", "([BI)C"⟩
def RJ2 : String := "java/lang/StringUTF16"
def TJ2 : u_T := fun k => match k with
  | _ => ("", "", "", false)
def tyJ2 : Nat → FieldType := fun k => match k with
  | _ => .int
abbrev wsJ20 : List Cond := u_ws RJ2 TJ2 0
theorem nmJ2 : ∀ a, a < 0 → ∀ b, b < 0 → a ≠ b → (TJ2 a).2.1 ≠ (TJ2 b).2.1 := by decide +kernel
theorem tyJ2_ok : ∀ k, k < 0 → parseFieldDescriptor (TJ2 k).2.2.1 = some (tyJ2 k) := by decide +kernel
abbrev cJ2_getChar_3b067 : ByteArray := prog_19_method_5_code
def yJ2_getChar_3b067 : MethodName := ⟨RJ2, "getChar", "([BI)C"⟩
abbrev cJ2_length_9d52b : ByteArray := prog_19_method_6_code
def yJ2_length_9d52b : MethodName := ⟨RJ2, "length", "([B)I"⟩
abbrev cJ2_charAt_3b067 : ByteArray := prog_19_method_83_code
def yJ2_charAt_3b067 : MethodName := ⟨RJ2, "charAt", "([BI)C"⟩
abbrev cJ2_checkIndex_2214a : ByteArray := prog_19_method_91_code
def yJ2_checkIndex_2214a : MethodName := ⟨RJ2, "checkIndex", "(I[B)V"⟩
def RJxfd54e : String := "java/lang/constant/Constable"
def TJxfd54e : u_T := fun k => match k with
  | _ => ("", "", "", false)
def tyJxfd54e : Nat → FieldType := fun k => match k with
  | _ => .int
abbrev wsJxfd54e0 : List Cond := u_ws RJxfd54e TJxfd54e 0
theorem nmJxfd54e : ∀ a, a < 0 → ∀ b, b < 0 → a ≠ b → (TJxfd54e a).2.1 ≠ (TJxfd54e b).2.1 := by decide +kernel
theorem tyJxfd54e_ok : ∀ k, k < 0 → parseFieldDescriptor (TJxfd54e k).2.2.1 = some (tyJxfd54e k) := by decide +kernel
def RJx3cf43 : String := "java/lang/constant/ConstantDesc"
def TJx3cf43 : u_T := fun k => match k with
  | _ => ("", "", "", false)
def tyJx3cf43 : Nat → FieldType := fun k => match k with
  | _ => .int
abbrev wsJx3cf430 : List Cond := u_ws RJx3cf43 TJx3cf43 0
theorem nmJx3cf43 : ∀ a, a < 0 → ∀ b, b < 0 → a ≠ b → (TJx3cf43 a).2.1 ≠ (TJx3cf43 b).2.1 := by decide +kernel
theorem tyJx3cf43_ok : ∀ k, k < 0 → parseFieldDescriptor (TJx3cf43 k).2.2.1 = some (tyJx3cf43 k) := by decide +kernel
def RJ7 : String := "java/util/Arrays"
def TJ7 : u_T := fun k => match k with
  | _ => ("", "", "", false)
def tyJ7 : Nat → FieldType := fun k => match k with
  | _ => .int
abbrev wsJ70 : List Cond := u_ws RJ7 TJ7 0
theorem nmJ7 : ∀ a, a < 0 → ∀ b, b < 0 → a ≠ b → (TJ7 a).2.1 ≠ (TJ7 b).2.1 := by decide +kernel
theorem tyJ7_ok : ∀ k, k < 0 → parseFieldDescriptor (TJ7 k).2.2.1 = some (tyJ7 k) := by decide +kernel
abbrev cJ7_fill_d0a16 : ByteArray := prog_21_method_101_code
def yJ7_fill_d0a16 : MethodName := ⟨RJ7, "fill", "([JJ)V"⟩
def RJ3 : String := "jdk/internal/util/Preconditions"
def TJ3 : u_T := fun k => match k with
  | _ => ("", "", "", false)
def tyJ3 : Nat → FieldType := fun k => match k with
  | _ => .int
abbrev wsJ30 : List Cond := u_ws RJ3 TJ3 0
theorem nmJ3 : ∀ a, a < 0 → ∀ b, b < 0 → a ≠ b → (TJ3 a).2.1 ≠ (TJ3 b).2.1 := by decide +kernel
theorem tyJ3_ok : ∀ k, k < 0 → parseFieldDescriptor (TJ3 k).2.2.1 = some (tyJ3 k) := by decide +kernel
abbrev cJ3_checkIndex_8e157 : ByteArray := prog_22_method_11_code
def yJ3_checkIndex_8e157 : MethodName := ⟨RJ3, "checkIndex", "(IILjava/util/function/BiFunction;)I"⟩
def RL : String := "GazetteHouseLaw"
abbrev cL_law : ByteArray := code
def yL_law : MethodName := ⟨RL, "law", "([I)Z"⟩
abbrev vwCl : List vw_C := [(RX0, TX0, 10), (RX1, TX1, 6), (RX2, TX2, 2), (RX3, TX3, 7), (RX4, TX4, 2), (RX5, TX5, 6), (RX6, TX6, 15), (RX7, TX7, 7), (RX8, TX8, 11), (RX9, TX9, 11), (RX10, TX10, 8), (RX11, TX11, 63)]
end
section
theorem dX0_init_0 : decode cX0_init 0 = .ok (.aload_n 0, 1) := by decide +kernel
theorem dX0_init_1 : decode cX0_init 1 = .ok (.invokespecial 3, 3) := by decide +kernel
theorem dX0_init_4 : decode cX0_init 4 = .ok (.aload_n 0, 1) := by decide +kernel
theorem dX0_init_5 : decode cX0_init 5 = .ok (.bipush 100, 2) := by decide +kernel
theorem dX0_init_7 : decode cX0_init 7 = .ok (.newarray .int, 2) := by decide +kernel
theorem dX0_init_9 : decode cX0_init 9 = .ok (.putfield 9, 3) := by decide +kernel
theorem dX0_init_12 : decode cX0_init 12 = .ok (.aload_n 0, 1) := by decide +kernel
theorem dX0_init_13 : decode cX0_init 13 = .ok (.bipush 100, 2) := by decide +kernel
theorem dX0_init_15 : decode cX0_init 15 = .ok (.newarray .int, 2) := by decide +kernel
theorem dX0_init_17 : decode cX0_init 17 = .ok (.putfield 15, 3) := by decide +kernel
theorem dX0_init_20 : decode cX0_init 20 = .ok (.aload_n 0, 1) := by decide +kernel
theorem dX0_init_21 : decode cX0_init 21 = .ok (.bipush 100, 2) := by decide +kernel
theorem dX0_init_23 : decode cX0_init 23 = .ok (.newarray .long, 2) := by decide +kernel
theorem dX0_init_25 : decode cX0_init 25 = .ok (.putfield 18, 3) := by decide +kernel
theorem dX0_init_28 : decode cX0_init 28 = .ok (.aload_n 0, 1) := by decide +kernel
theorem dX0_init_29 : decode cX0_init 29 = .ok (.bipush 100, 2) := by decide +kernel
theorem dX0_init_31 : decode cX0_init 31 = .ok (.newarray .long, 2) := by decide +kernel
theorem dX0_init_33 : decode cX0_init 33 = .ok (.putfield 22, 3) := by decide +kernel
theorem dX0_init_36 : decode cX0_init 36 = .ok (.return_, 1) := by decide +kernel
theorem dX0_push_0 : decode cX0_push 0 = .ok (.aload_n 0, 1) := by decide +kernel
theorem dX0_push_1 : decode cX0_push 1 = .ok (.getfield 9, 3) := by decide +kernel
theorem dX0_push_4 : decode cX0_push 4 = .ok (.aload_n 0, 1) := by decide +kernel
theorem dX0_push_5 : decode cX0_push 5 = .ok (.getfield 25, 3) := by decide +kernel
theorem dX0_push_8 : decode cX0_push 8 = .ok (.iload_n 1, 1) := by decide +kernel
theorem dX0_push_9 : decode cX0_push 9 = .ok (.iastore, 1) := by decide +kernel
theorem dX0_push_10 : decode cX0_push 10 = .ok (.aload_n 0, 1) := by decide +kernel
theorem dX0_push_11 : decode cX0_push 11 = .ok (.getfield 15, 3) := by decide +kernel
theorem dX0_push_14 : decode cX0_push 14 = .ok (.aload_n 0, 1) := by decide +kernel
theorem dX0_push_15 : decode cX0_push 15 = .ok (.getfield 25, 3) := by decide +kernel
theorem dX0_push_18 : decode cX0_push 18 = .ok (.iload_n 2, 1) := by decide +kernel
theorem dX0_push_19 : decode cX0_push 19 = .ok (.iastore, 1) := by decide +kernel
theorem dX0_push_20 : decode cX0_push 20 = .ok (.aload_n 0, 1) := by decide +kernel
theorem dX0_push_21 : decode cX0_push 21 = .ok (.getfield 18, 3) := by decide +kernel
theorem dX0_push_24 : decode cX0_push 24 = .ok (.aload_n 0, 1) := by decide +kernel
theorem dX0_push_25 : decode cX0_push 25 = .ok (.getfield 25, 3) := by decide +kernel
theorem dX0_push_28 : decode cX0_push 28 = .ok (.lload_n 3, 1) := by decide +kernel
theorem dX0_push_29 : decode cX0_push 29 = .ok (.lastore, 1) := by decide +kernel
theorem dX0_push_30 : decode cX0_push 30 = .ok (.aload_n 0, 1) := by decide +kernel
theorem dX0_push_31 : decode cX0_push 31 = .ok (.getfield 22, 3) := by decide +kernel
theorem dX0_push_34 : decode cX0_push 34 = .ok (.aload_n 0, 1) := by decide +kernel
theorem dX0_push_35 : decode cX0_push 35 = .ok (.getfield 25, 3) := by decide +kernel
theorem dX0_push_38 : decode cX0_push 38 = .ok (.lload 5, 2) := by decide +kernel
theorem dX0_push_40 : decode cX0_push 40 = .ok (.lastore, 1) := by decide +kernel
theorem dX0_push_41 : decode cX0_push 41 = .ok (.aload_n 0, 1) := by decide +kernel
theorem dX0_push_42 : decode cX0_push 42 = .ok (.aload_n 0, 1) := by decide +kernel
theorem dX0_push_43 : decode cX0_push 43 = .ok (.getfield 25, 3) := by decide +kernel
theorem dX0_push_46 : decode cX0_push 46 = .ok (.iconst 1, 1) := by decide +kernel
theorem dX0_push_47 : decode cX0_push 47 = .ok (.iadd, 1) := by decide +kernel
theorem dX0_push_48 : decode cX0_push 48 = .ok (.bipush 100, 2) := by decide +kernel
theorem dX0_push_50 : decode cX0_push 50 = .ok (.irem, 1) := by decide +kernel
theorem dX0_push_51 : decode cX0_push 51 = .ok (.putfield 25, 3) := by decide +kernel
theorem dX0_push_54 : decode cX0_push 54 = .ok (.aload_n 0, 1) := by decide +kernel
theorem dX0_push_55 : decode cX0_push 55 = .ok (.aload_n 0, 1) := by decide +kernel
theorem dX0_push_56 : decode cX0_push 56 = .ok (.getfield 29, 3) := by decide +kernel
theorem dX0_push_59 : decode cX0_push 59 = .ok (.iconst 1, 1) := by decide +kernel
theorem dX0_push_60 : decode cX0_push 60 = .ok (.iadd, 1) := by decide +kernel
theorem dX0_push_61 : decode cX0_push 61 = .ok (.bipush 100, 2) := by decide +kernel
theorem dX0_push_63 : decode cX0_push 63 = .ok (.invokestatic 32, 3) := by decide +kernel
theorem dX0_push_66 : decode cX0_push 66 = .ok (.putfield 29, 3) := by decide +kernel
theorem dX0_push_69 : decode cX0_push 69 = .ok (.return_, 1) := by decide +kernel
theorem dX0_pop_0 : decode cX0_pop 0 = .ok (.aload_n 0, 1) := by decide +kernel
theorem dX0_pop_1 : decode cX0_pop 1 = .ok (.aload_n 0, 1) := by decide +kernel
theorem dX0_pop_2 : decode cX0_pop 2 = .ok (.getfield 25, 3) := by decide +kernel
theorem dX0_pop_5 : decode cX0_pop 5 = .ok (.bipush 100, 2) := by decide +kernel
theorem dX0_pop_7 : decode cX0_pop 7 = .ok (.iadd, 1) := by decide +kernel
theorem dX0_pop_8 : decode cX0_pop 8 = .ok (.iconst 1, 1) := by decide +kernel
theorem dX0_pop_9 : decode cX0_pop 9 = .ok (.isub, 1) := by decide +kernel
theorem dX0_pop_10 : decode cX0_pop 10 = .ok (.bipush 100, 2) := by decide +kernel
theorem dX0_pop_12 : decode cX0_pop 12 = .ok (.irem, 1) := by decide +kernel
theorem dX0_pop_13 : decode cX0_pop 13 = .ok (.putfield 25, 3) := by decide +kernel
theorem dX0_pop_16 : decode cX0_pop 16 = .ok (.aload_n 0, 1) := by decide +kernel
theorem dX0_pop_17 : decode cX0_pop 17 = .ok (.dup, 1) := by decide +kernel
theorem dX0_pop_18 : decode cX0_pop 18 = .ok (.getfield 29, 3) := by decide +kernel
theorem dX0_pop_21 : decode cX0_pop 21 = .ok (.iconst 1, 1) := by decide +kernel
theorem dX0_pop_22 : decode cX0_pop 22 = .ok (.isub, 1) := by decide +kernel
theorem dX0_pop_23 : decode cX0_pop 23 = .ok (.putfield 29, 3) := by decide +kernel
theorem dX0_pop_26 : decode cX0_pop 26 = .ok (.aload_n 0, 1) := by decide +kernel
theorem dX0_pop_27 : decode cX0_pop 27 = .ok (.aload_n 0, 1) := by decide +kernel
theorem dX0_pop_28 : decode cX0_pop 28 = .ok (.getfield 9, 3) := by decide +kernel
theorem dX0_pop_31 : decode cX0_pop 31 = .ok (.aload_n 0, 1) := by decide +kernel
theorem dX0_pop_32 : decode cX0_pop 32 = .ok (.getfield 25, 3) := by decide +kernel
theorem dX0_pop_35 : decode cX0_pop 35 = .ok (.iaload, 1) := by decide +kernel
theorem dX0_pop_36 : decode cX0_pop 36 = .ok (.putfield 38, 3) := by decide +kernel
theorem dX0_pop_39 : decode cX0_pop 39 = .ok (.aload_n 0, 1) := by decide +kernel
theorem dX0_pop_40 : decode cX0_pop 40 = .ok (.aload_n 0, 1) := by decide +kernel
theorem dX0_pop_41 : decode cX0_pop 41 = .ok (.getfield 15, 3) := by decide +kernel
theorem dX0_pop_44 : decode cX0_pop 44 = .ok (.aload_n 0, 1) := by decide +kernel
theorem dX0_pop_45 : decode cX0_pop 45 = .ok (.getfield 25, 3) := by decide +kernel
theorem dX0_pop_48 : decode cX0_pop 48 = .ok (.iaload, 1) := by decide +kernel
theorem dX0_pop_49 : decode cX0_pop 49 = .ok (.putfield 41, 3) := by decide +kernel
theorem dX0_pop_52 : decode cX0_pop 52 = .ok (.aload_n 0, 1) := by decide +kernel
theorem dX0_pop_53 : decode cX0_pop 53 = .ok (.aload_n 0, 1) := by decide +kernel
theorem dX0_pop_54 : decode cX0_pop 54 = .ok (.getfield 18, 3) := by decide +kernel
theorem dX0_pop_57 : decode cX0_pop 57 = .ok (.aload_n 0, 1) := by decide +kernel
theorem dX0_pop_58 : decode cX0_pop 58 = .ok (.getfield 25, 3) := by decide +kernel
theorem dX0_pop_61 : decode cX0_pop 61 = .ok (.laload, 1) := by decide +kernel
theorem dX0_pop_62 : decode cX0_pop 62 = .ok (.putfield 44, 3) := by decide +kernel
theorem dX0_pop_65 : decode cX0_pop 65 = .ok (.aload_n 0, 1) := by decide +kernel
theorem dX0_pop_66 : decode cX0_pop 66 = .ok (.aload_n 0, 1) := by decide +kernel
theorem dX0_pop_67 : decode cX0_pop 67 = .ok (.getfield 22, 3) := by decide +kernel
theorem dX0_pop_70 : decode cX0_pop 70 = .ok (.aload_n 0, 1) := by decide +kernel
theorem dX0_pop_71 : decode cX0_pop 71 = .ok (.getfield 25, 3) := by decide +kernel
theorem dX0_pop_74 : decode cX0_pop 74 = .ok (.laload, 1) := by decide +kernel
theorem dX0_pop_75 : decode cX0_pop 75 = .ok (.putfield 48, 3) := by decide +kernel
theorem dX0_pop_78 : decode cX0_pop 78 = .ok (.return_, 1) := by decide +kernel
theorem dX0_clear_0 : decode cX0_clear 0 = .ok (.aload_n 0, 1) := by decide +kernel
theorem dX0_clear_1 : decode cX0_clear 1 = .ok (.iconst 0, 1) := by decide +kernel
theorem dX0_clear_2 : decode cX0_clear 2 = .ok (.putfield 25, 3) := by decide +kernel
theorem dX0_clear_5 : decode cX0_clear 5 = .ok (.aload_n 0, 1) := by decide +kernel
theorem dX0_clear_6 : decode cX0_clear 6 = .ok (.iconst 0, 1) := by decide +kernel
theorem dX0_clear_7 : decode cX0_clear 7 = .ok (.putfield 29, 3) := by decide +kernel
theorem dX0_clear_10 : decode cX0_clear 10 = .ok (.return_, 1) := by decide +kernel
theorem dX1_init_0 : decode cX1_init 0 = .ok (.aload_n 0, 1) := by decide +kernel
theorem dX1_init_1 : decode cX1_init 1 = .ok (.invokespecial 3, 3) := by decide +kernel
theorem dX1_init_4 : decode cX1_init 4 = .ok (.aload_n 0, 1) := by decide +kernel
theorem dX1_init_5 : decode cX1_init 5 = .ok (.bipush 61, 2) := by decide +kernel
theorem dX1_init_7 : decode cX1_init 7 = .ok (.anewarray 9, 3) := by decide +kernel
theorem dX1_init_10 : decode cX1_init 10 = .ok (.putfield 11, 3) := by decide +kernel
theorem dX1_init_13 : decode cX1_init 13 = .ok (.aload_n 0, 1) := by decide +kernel
theorem dX1_init_14 : decode cX1_init 14 = .ok (.bipush 61, 2) := by decide +kernel
theorem dX1_init_16 : decode cX1_init 16 = .ok (.newarray .long, 2) := by decide +kernel
theorem dX1_init_18 : decode cX1_init 18 = .ok (.putfield 17, 3) := by decide +kernel
theorem dX1_init_21 : decode cX1_init 21 = .ok (.aload_n 0, 1) := by decide +kernel
theorem dX1_init_22 : decode cX1_init 22 = .ok (.bipush 60, 2) := by decide +kernel
theorem dX1_init_24 : decode cX1_init 24 = .ok (.newarray .int, 2) := by decide +kernel
theorem dX1_init_26 : decode cX1_init 26 = .ok (.putfield 21, 3) := by decide +kernel
theorem dX1_init_29 : decode cX1_init 29 = .ok (.iconst 0, 1) := by decide +kernel
theorem dX1_init_30 : decode cX1_init 30 = .ok (.istore_n 1, 1) := by decide +kernel
theorem dX1_init_31 : decode cX1_init 31 = .ok (.iload_n 1, 1) := by decide +kernel
theorem dX1_init_32 : decode cX1_init 32 = .ok (.aload_n 0, 1) := by decide +kernel
theorem dX1_init_33 : decode cX1_init 33 = .ok (.getfield 11, 3) := by decide +kernel
theorem dX1_init_36 : decode cX1_init 36 = .ok (.arraylength, 1) := by decide +kernel
theorem dX1_init_37 : decode cX1_init 37 = .ok (.if_icmp .ge 22, 3) := by decide +kernel
theorem dX1_init_40 : decode cX1_init 40 = .ok (.aload_n 0, 1) := by decide +kernel
theorem dX1_init_41 : decode cX1_init 41 = .ok (.getfield 11, 3) := by decide +kernel
theorem dX1_init_44 : decode cX1_init 44 = .ok (.iload_n 1, 1) := by decide +kernel
theorem dX1_init_45 : decode cX1_init 45 = .ok (.new 9, 3) := by decide +kernel
theorem dX1_init_48 : decode cX1_init 48 = .ok (.dup, 1) := by decide +kernel
theorem dX1_init_49 : decode cX1_init 49 = .ok (.invokespecial 25, 3) := by decide +kernel
theorem dX1_init_52 : decode cX1_init 52 = .ok (.aastore, 1) := by decide +kernel
theorem dX1_init_53 : decode cX1_init 53 = .ok (.iinc 1 1, 3) := by decide +kernel
theorem dX1_init_56 : decode cX1_init 56 = .ok (.goto (-25), 3) := by decide +kernel
theorem dX1_init_59 : decode cX1_init 59 = .ok (.return_, 1) := by decide +kernel
theorem dX1_at_0 : decode cX1_at 0 = .ok (.iload_n 1, 1) := by decide +kernel
theorem dX1_at_1 : decode cX1_at 1 = .ok (.ifCond .lt 11, 3) := by decide +kernel
theorem dX1_at_4 : decode cX1_at 4 = .ok (.iload_n 1, 1) := by decide +kernel
theorem dX1_at_5 : decode cX1_at 5 = .ok (.aload_n 0, 1) := by decide +kernel
theorem dX1_at_6 : decode cX1_at 6 = .ok (.getfield 26, 3) := by decide +kernel
theorem dX1_at_9 : decode cX1_at 9 = .ok (.if_icmp .lt 7, 3) := by decide +kernel
theorem dX1_at_12 : decode cX1_at 12 = .ok (.aconst_null, 1) := by decide +kernel
theorem dX1_at_13 : decode cX1_at 13 = .ok (.goto 9, 3) := by decide +kernel
theorem dX1_at_16 : decode cX1_at 16 = .ok (.aload_n 0, 1) := by decide +kernel
theorem dX1_at_17 : decode cX1_at 17 = .ok (.getfield 11, 3) := by decide +kernel
theorem dX1_at_20 : decode cX1_at 20 = .ok (.iload_n 1, 1) := by decide +kernel
theorem dX1_at_21 : decode cX1_at 21 = .ok (.aaload, 1) := by decide +kernel
theorem dX1_at_22 : decode cX1_at 22 = .ok (.areturn, 1) := by decide +kernel
theorem dX1_fresh_0 : decode cX1_fresh 0 = .ok (.aload_n 0, 1) := by decide +kernel
theorem dX1_fresh_1 : decode cX1_fresh 1 = .ok (.getfield 11, 3) := by decide +kernel
theorem dX1_fresh_4 : decode cX1_fresh 4 = .ok (.aload_n 0, 1) := by decide +kernel
theorem dX1_fresh_5 : decode cX1_fresh 5 = .ok (.getfield 26, 3) := by decide +kernel
theorem dX1_fresh_8 : decode cX1_fresh 8 = .ok (.bipush 60, 2) := by decide +kernel
theorem dX1_fresh_10 : decode cX1_fresh 10 = .ok (.invokestatic 30, 3) := by decide +kernel
theorem dX1_fresh_13 : decode cX1_fresh 13 = .ok (.aaload, 1) := by decide +kernel
theorem dX1_fresh_14 : decode cX1_fresh 14 = .ok (.areturn, 1) := by decide +kernel
theorem dX1_countWaiting_0 : decode cX1_countWaiting 0 = .ok (.iconst 0, 1) := by decide +kernel
theorem dX1_countWaiting_1 : decode cX1_countWaiting 1 = .ok (.istore_n 1, 1) := by decide +kernel
theorem dX1_countWaiting_2 : decode cX1_countWaiting 2 = .ok (.iconst 0, 1) := by decide +kernel
theorem dX1_countWaiting_3 : decode cX1_countWaiting 3 = .ok (.istore_n 2, 1) := by decide +kernel
theorem dX1_countWaiting_4 : decode cX1_countWaiting 4 = .ok (.iload_n 2, 1) := by decide +kernel
theorem dX1_countWaiting_5 : decode cX1_countWaiting 5 = .ok (.aload_n 0, 1) := by decide +kernel
theorem dX1_countWaiting_6 : decode cX1_countWaiting 6 = .ok (.getfield 26, 3) := by decide +kernel
theorem dX1_countWaiting_9 : decode cX1_countWaiting 9 = .ok (.if_icmp .ge 29, 3) := by decide +kernel
theorem dX1_countWaiting_12 : decode cX1_countWaiting 12 = .ok (.iload_n 1, 1) := by decide +kernel
theorem dX1_countWaiting_13 : decode cX1_countWaiting 13 = .ok (.aload_n 0, 1) := by decide +kernel
theorem dX1_countWaiting_14 : decode cX1_countWaiting 14 = .ok (.getfield 11, 3) := by decide +kernel
theorem dX1_countWaiting_17 : decode cX1_countWaiting 17 = .ok (.iload_n 2, 1) := by decide +kernel
theorem dX1_countWaiting_18 : decode cX1_countWaiting 18 = .ok (.aaload, 1) := by decide +kernel
theorem dX1_countWaiting_19 : decode cX1_countWaiting 19 = .ok (.invokevirtual 36, 3) := by decide +kernel
theorem dX1_countWaiting_22 : decode cX1_countWaiting 22 = .ok (.ifCond .eq 7, 3) := by decide +kernel
theorem dX1_countWaiting_25 : decode cX1_countWaiting 25 = .ok (.iconst 1, 1) := by decide +kernel
theorem dX1_countWaiting_26 : decode cX1_countWaiting 26 = .ok (.goto 4, 3) := by decide +kernel
theorem dX1_countWaiting_29 : decode cX1_countWaiting 29 = .ok (.iconst 0, 1) := by decide +kernel
theorem dX1_countWaiting_30 : decode cX1_countWaiting 30 = .ok (.iadd, 1) := by decide +kernel
theorem dX1_countWaiting_31 : decode cX1_countWaiting 31 = .ok (.istore_n 1, 1) := by decide +kernel
theorem dX1_countWaiting_32 : decode cX1_countWaiting 32 = .ok (.iinc 2 1, 3) := by decide +kernel
theorem dX1_countWaiting_35 : decode cX1_countWaiting 35 = .ok (.goto (-31), 3) := by decide +kernel
theorem dX1_countWaiting_38 : decode cX1_countWaiting 38 = .ok (.iload_n 1, 1) := by decide +kernel
theorem dX1_countWaiting_39 : decode cX1_countWaiting 39 = .ok (.ireturn, 1) := by decide +kernel
theorem dX1_takeMust_0 : decode cX1_takeMust 0 = .ok (.iconst 0, 1) := by decide +kernel
theorem dX1_takeMust_1 : decode cX1_takeMust 1 = .ok (.istore_n 3, 1) := by decide +kernel
theorem dX1_takeMust_2 : decode cX1_takeMust 2 = .ok (.iload_n 3, 1) := by decide +kernel
theorem dX1_takeMust_3 : decode cX1_takeMust 3 = .ok (.aload_n 0, 1) := by decide +kernel
theorem dX1_takeMust_4 : decode cX1_takeMust 4 = .ok (.getfield 26, 3) := by decide +kernel
theorem dX1_takeMust_7 : decode cX1_takeMust 7 = .ok (.if_icmp .ge 49, 3) := by decide +kernel
theorem dX1_takeMust_10 : decode cX1_takeMust 10 = .ok (.aload_n 0, 1) := by decide +kernel
theorem dX1_takeMust_11 : decode cX1_takeMust 11 = .ok (.getfield 11, 3) := by decide +kernel
theorem dX1_takeMust_14 : decode cX1_takeMust 14 = .ok (.iload_n 3, 1) := by decide +kernel
theorem dX1_takeMust_15 : decode cX1_takeMust 15 = .ok (.aaload, 1) := by decide +kernel
theorem dX1_takeMust_16 : decode cX1_takeMust 16 = .ok (.astore 4, 2) := by decide +kernel
theorem dX1_takeMust_18 : decode cX1_takeMust 18 = .ok (.aload 4, 2) := by decide +kernel
theorem dX1_takeMust_20 : decode cX1_takeMust 20 = .ok (.invokevirtual 36, 3) := by decide +kernel
theorem dX1_takeMust_23 : decode cX1_takeMust 23 = .ok (.ifCond .eq 27, 3) := by decide +kernel
theorem dX1_takeMust_26 : decode cX1_takeMust 26 = .ok (.aload 4, 2) := by decide +kernel
theorem dX1_takeMust_28 : decode cX1_takeMust 28 = .ok (.getfield 40, 3) := by decide +kernel
theorem dX1_takeMust_31 : decode cX1_takeMust 31 = .ok (.iload_n 2, 1) := by decide +kernel
theorem dX1_takeMust_32 : decode cX1_takeMust 32 = .ok (.if_icmp .ge 18, 3) := by decide +kernel
theorem dX1_takeMust_35 : decode cX1_takeMust 35 = .ok (.aload_n 1, 1) := by decide +kernel
theorem dX1_takeMust_36 : decode cX1_takeMust 36 = .ok (.iload_n 3, 1) := by decide +kernel
theorem dX1_takeMust_37 : decode cX1_takeMust 37 = .ok (.aload 4, 2) := by decide +kernel
theorem dX1_takeMust_39 : decode cX1_takeMust 39 = .ok (.getfield 43, 3) := by decide +kernel
theorem dX1_takeMust_42 : decode cX1_takeMust 42 = .ok (.invokevirtual 46, 3) := by decide +kernel
theorem dX1_takeMust_45 : decode cX1_takeMust 45 = .ok (.ifCond .ne 5, 3) := by decide +kernel
theorem dX1_takeMust_48 : decode cX1_takeMust 48 = .ok (.iconst 0, 1) := by decide +kernel
theorem dX1_takeMust_49 : decode cX1_takeMust 49 = .ok (.ireturn, 1) := by decide +kernel
theorem dX1_takeMust_50 : decode cX1_takeMust 50 = .ok (.iinc 3 1, 3) := by decide +kernel
theorem dX1_takeMust_53 : decode cX1_takeMust 53 = .ok (.goto (-51), 3) := by decide +kernel
theorem dX1_takeMust_56 : decode cX1_takeMust 56 = .ok (.iconst 1, 1) := by decide +kernel
theorem dX1_takeMust_57 : decode cX1_takeMust 57 = .ok (.ireturn, 1) := by decide +kernel
theorem dX1_takeOthers_0 : decode cX1_takeOthers 0 = .ok (.iconst (-1), 1) := by decide +kernel
theorem dX1_takeOthers_1 : decode cX1_takeOthers 1 = .ok (.istore_n 3, 1) := by decide +kernel
theorem dX1_takeOthers_2 : decode cX1_takeOthers 2 = .ok (.iconst 0, 1) := by decide +kernel
theorem dX1_takeOthers_3 : decode cX1_takeOthers 3 = .ok (.istore 4, 2) := by decide +kernel
theorem dX1_takeOthers_5 : decode cX1_takeOthers 5 = .ok (.iload 4, 2) := by decide +kernel
theorem dX1_takeOthers_7 : decode cX1_takeOthers 7 = .ok (.aload_n 0, 1) := by decide +kernel
theorem dX1_takeOthers_8 : decode cX1_takeOthers 8 = .ok (.getfield 26, 3) := by decide +kernel
theorem dX1_takeOthers_11 : decode cX1_takeOthers 11 = .ok (.if_icmp .ge 37, 3) := by decide +kernel
theorem dX1_takeOthers_14 : decode cX1_takeOthers 14 = .ok (.aload_n 0, 1) := by decide +kernel
theorem dX1_takeOthers_15 : decode cX1_takeOthers 15 = .ok (.iload_n 3, 1) := by decide +kernel
theorem dX1_takeOthers_16 : decode cX1_takeOthers 16 = .ok (.iload_n 2, 1) := by decide +kernel
theorem dX1_takeOthers_17 : decode cX1_takeOthers 17 = .ok (.invokevirtual 52, 3) := by decide +kernel
theorem dX1_takeOthers_20 : decode cX1_takeOthers 20 = .ok (.istore_n 3, 1) := by decide +kernel
theorem dX1_takeOthers_21 : decode cX1_takeOthers 21 = .ok (.iload_n 3, 1) := by decide +kernel
theorem dX1_takeOthers_22 : decode cX1_takeOthers 22 = .ok (.iconst (-1), 1) := by decide +kernel
theorem dX1_takeOthers_23 : decode cX1_takeOthers 23 = .ok (.if_icmp .ne 4, 3) := by decide +kernel
theorem dX1_takeOthers_26 : decode cX1_takeOthers 26 = .ok (.return_, 1) := by decide +kernel
theorem dX1_takeOthers_27 : decode cX1_takeOthers 27 = .ok (.aload_n 1, 1) := by decide +kernel
theorem dX1_takeOthers_28 : decode cX1_takeOthers 28 = .ok (.iload_n 3, 1) := by decide +kernel
theorem dX1_takeOthers_29 : decode cX1_takeOthers 29 = .ok (.aload_n 0, 1) := by decide +kernel
theorem dX1_takeOthers_30 : decode cX1_takeOthers 30 = .ok (.getfield 11, 3) := by decide +kernel
theorem dX1_takeOthers_33 : decode cX1_takeOthers 33 = .ok (.iload_n 3, 1) := by decide +kernel
theorem dX1_takeOthers_34 : decode cX1_takeOthers 34 = .ok (.aaload, 1) := by decide +kernel
theorem dX1_takeOthers_35 : decode cX1_takeOthers 35 = .ok (.getfield 43, 3) := by decide +kernel
theorem dX1_takeOthers_38 : decode cX1_takeOthers 38 = .ok (.invokevirtual 46, 3) := by decide +kernel
theorem dX1_takeOthers_41 : decode cX1_takeOthers 41 = .ok (.pop, 1) := by decide +kernel
theorem dX1_takeOthers_42 : decode cX1_takeOthers 42 = .ok (.iinc 4 1, 3) := by decide +kernel
theorem dX1_takeOthers_45 : decode cX1_takeOthers 45 = .ok (.goto (-40), 3) := by decide +kernel
theorem dX1_takeOthers_48 : decode cX1_takeOthers 48 = .ok (.return_, 1) := by decide +kernel
theorem dX1_nextOther_0 : decode cX1_nextOther 0 = .ok (.iload_n 1, 1) := by decide +kernel
theorem dX1_nextOther_1 : decode cX1_nextOther 1 = .ok (.iconst (-1), 1) := by decide +kernel
theorem dX1_nextOther_2 : decode cX1_nextOther 2 = .ok (.if_icmp .ne 9, 3) := by decide +kernel
theorem dX1_nextOther_5 : decode cX1_nextOther 5 = .ok (.iload_n 2, 1) := by decide +kernel
theorem dX1_nextOther_6 : decode cX1_nextOther 6 = .ok (.iconst 1, 1) := by decide +kernel
theorem dX1_nextOther_7 : decode cX1_nextOther 7 = .ok (.isub, 1) := by decide +kernel
theorem dX1_nextOther_8 : decode cX1_nextOther 8 = .ok (.goto 12, 3) := by decide +kernel
theorem dX1_nextOther_11 : decode cX1_nextOther 11 = .ok (.aload_n 0, 1) := by decide +kernel
theorem dX1_nextOther_12 : decode cX1_nextOther 12 = .ok (.getfield 11, 3) := by decide +kernel
theorem dX1_nextOther_15 : decode cX1_nextOther 15 = .ok (.iload_n 1, 1) := by decide +kernel
theorem dX1_nextOther_16 : decode cX1_nextOther 16 = .ok (.aaload, 1) := by decide +kernel
theorem dX1_nextOther_17 : decode cX1_nextOther 17 = .ok (.getfield 40, 3) := by decide +kernel
theorem dX1_nextOther_20 : decode cX1_nextOther 20 = .ok (.istore_n 3, 1) := by decide +kernel
theorem dX1_nextOther_21 : decode cX1_nextOther 21 = .ok (.iconst (-1), 1) := by decide +kernel
theorem dX1_nextOther_22 : decode cX1_nextOther 22 = .ok (.istore 4, 2) := by decide +kernel
theorem dX1_nextOther_24 : decode cX1_nextOther 24 = .ok (.iconst 0, 1) := by decide +kernel
theorem dX1_nextOther_25 : decode cX1_nextOther 25 = .ok (.istore 5, 2) := by decide +kernel
theorem dX1_nextOther_27 : decode cX1_nextOther 27 = .ok (.iload 5, 2) := by decide +kernel
theorem dX1_nextOther_29 : decode cX1_nextOther 29 = .ok (.aload_n 0, 1) := by decide +kernel
theorem dX1_nextOther_30 : decode cX1_nextOther 30 = .ok (.getfield 26, 3) := by decide +kernel
theorem dX1_nextOther_33 : decode cX1_nextOther 33 = .ok (.if_icmp .ge 99, 3) := by decide +kernel
theorem dX1_nextOther_36 : decode cX1_nextOther 36 = .ok (.aload_n 0, 1) := by decide +kernel
theorem dX1_nextOther_37 : decode cX1_nextOther 37 = .ok (.getfield 11, 3) := by decide +kernel
theorem dX1_nextOther_40 : decode cX1_nextOther 40 = .ok (.iload 5, 2) := by decide +kernel
theorem dX1_nextOther_42 : decode cX1_nextOther 42 = .ok (.aaload, 1) := by decide +kernel
theorem dX1_nextOther_43 : decode cX1_nextOther 43 = .ok (.astore 6, 2) := by decide +kernel
theorem dX1_nextOther_45 : decode cX1_nextOther 45 = .ok (.aload 6, 2) := by decide +kernel
theorem dX1_nextOther_47 : decode cX1_nextOther 47 = .ok (.getfield 40, 3) := by decide +kernel
theorem dX1_nextOther_50 : decode cX1_nextOther 50 = .ok (.iload_n 3, 1) := by decide +kernel
theorem dX1_nextOther_51 : decode cX1_nextOther 51 = .ok (.if_icmp .gt 18, 3) := by decide +kernel
theorem dX1_nextOther_54 : decode cX1_nextOther 54 = .ok (.aload 6, 2) := by decide +kernel
theorem dX1_nextOther_56 : decode cX1_nextOther 56 = .ok (.getfield 40, 3) := by decide +kernel
theorem dX1_nextOther_59 : decode cX1_nextOther 59 = .ok (.iload_n 3, 1) := by decide +kernel
theorem dX1_nextOther_60 : decode cX1_nextOther 60 = .ok (.if_icmp .ne 13, 3) := by decide +kernel
theorem dX1_nextOther_63 : decode cX1_nextOther 63 = .ok (.iload 5, 2) := by decide +kernel
theorem dX1_nextOther_65 : decode cX1_nextOther 65 = .ok (.iload_n 1, 1) := by decide +kernel
theorem dX1_nextOther_66 : decode cX1_nextOther 66 = .ok (.if_icmp .le 7, 3) := by decide +kernel
theorem dX1_nextOther_69 : decode cX1_nextOther 69 = .ok (.iconst 1, 1) := by decide +kernel
theorem dX1_nextOther_70 : decode cX1_nextOther 70 = .ok (.goto 4, 3) := by decide +kernel
theorem dX1_nextOther_73 : decode cX1_nextOther 73 = .ok (.iconst 0, 1) := by decide +kernel
theorem dX1_nextOther_74 : decode cX1_nextOther 74 = .ok (.istore 7, 2) := by decide +kernel
theorem dX1_nextOther_76 : decode cX1_nextOther 76 = .ok (.aload 6, 2) := by decide +kernel
theorem dX1_nextOther_78 : decode cX1_nextOther 78 = .ok (.invokevirtual 36, 3) := by decide +kernel
theorem dX1_nextOther_81 : decode cX1_nextOther 81 = .ok (.ifCond .eq 45, 3) := by decide +kernel
theorem dX1_nextOther_84 : decode cX1_nextOther 84 = .ok (.aload 6, 2) := by decide +kernel
theorem dX1_nextOther_86 : decode cX1_nextOther 86 = .ok (.getfield 40, 3) := by decide +kernel
theorem dX1_nextOther_89 : decode cX1_nextOther 89 = .ok (.iload_n 2, 1) := by decide +kernel
theorem dX1_nextOther_90 : decode cX1_nextOther 90 = .ok (.if_icmp .lt 36, 3) := by decide +kernel
theorem dX1_nextOther_93 : decode cX1_nextOther 93 = .ok (.iload 7, 2) := by decide +kernel
theorem dX1_nextOther_95 : decode cX1_nextOther 95 = .ok (.ifCond .eq 31, 3) := by decide +kernel
theorem dX1_nextOther_98 : decode cX1_nextOther 98 = .ok (.iload 4, 2) := by decide +kernel
theorem dX1_nextOther_100 : decode cX1_nextOther 100 = .ok (.iconst (-1), 1) := by decide +kernel
theorem dX1_nextOther_101 : decode cX1_nextOther 101 = .ok (.if_icmp .eq 21, 3) := by decide +kernel
theorem dX1_nextOther_104 : decode cX1_nextOther 104 = .ok (.aload 6, 2) := by decide +kernel
theorem dX1_nextOther_106 : decode cX1_nextOther 106 = .ok (.getfield 40, 3) := by decide +kernel
theorem dX1_nextOther_109 : decode cX1_nextOther 109 = .ok (.aload_n 0, 1) := by decide +kernel
theorem dX1_nextOther_110 : decode cX1_nextOther 110 = .ok (.getfield 11, 3) := by decide +kernel
theorem dX1_nextOther_113 : decode cX1_nextOther 113 = .ok (.iload 4, 2) := by decide +kernel
theorem dX1_nextOther_115 : decode cX1_nextOther 115 = .ok (.aaload, 1) := by decide +kernel
theorem dX1_nextOther_116 : decode cX1_nextOther 116 = .ok (.getfield 40, 3) := by decide +kernel
theorem dX1_nextOther_119 : decode cX1_nextOther 119 = .ok (.if_icmp .ge 7, 3) := by decide +kernel
theorem dX1_nextOther_122 : decode cX1_nextOther 122 = .ok (.iload 5, 2) := by decide +kernel
theorem dX1_nextOther_124 : decode cX1_nextOther 124 = .ok (.istore 4, 2) := by decide +kernel
theorem dX1_nextOther_126 : decode cX1_nextOther 126 = .ok (.iinc 5 1, 3) := by decide +kernel
theorem dX1_nextOther_129 : decode cX1_nextOther 129 = .ok (.goto (-102), 3) := by decide +kernel
theorem dX1_nextOther_132 : decode cX1_nextOther 132 = .ok (.iload 4, 2) := by decide +kernel
theorem dX1_nextOther_134 : decode cX1_nextOther 134 = .ok (.ireturn, 1) := by decide +kernel
theorem dX1_list_0 : decode cX1_list 0 = .ok (.iconst 0, 1) := by decide +kernel
theorem dX1_list_1 : decode cX1_list 1 = .ok (.istore_n 3, 1) := by decide +kernel
theorem dX1_list_2 : decode cX1_list 2 = .ok (.iload_n 3, 1) := by decide +kernel
theorem dX1_list_3 : decode cX1_list 3 = .ok (.aload_n 0, 1) := by decide +kernel
theorem dX1_list_4 : decode cX1_list 4 = .ok (.getfield 26, 3) := by decide +kernel
theorem dX1_list_7 : decode cX1_list 7 = .ok (.if_icmp .ge 36, 3) := by decide +kernel
theorem dX1_list_10 : decode cX1_list 10 = .ok (.aload_n 0, 1) := by decide +kernel
theorem dX1_list_11 : decode cX1_list 11 = .ok (.getfield 11, 3) := by decide +kernel
theorem dX1_list_14 : decode cX1_list 14 = .ok (.iload_n 3, 1) := by decide +kernel
theorem dX1_list_15 : decode cX1_list 15 = .ok (.aaload, 1) := by decide +kernel
theorem dX1_list_16 : decode cX1_list 16 = .ok (.getfield 55, 3) := by decide +kernel
theorem dX1_list_19 : decode cX1_list 19 = .ok (.iload_n 1, 1) := by decide +kernel
theorem dX1_list_20 : decode cX1_list 20 = .ok (.if_icmp .ne 17, 3) := by decide +kernel
theorem dX1_list_23 : decode cX1_list 23 = .ok (.aload_n 2, 1) := by decide +kernel
theorem dX1_list_24 : decode cX1_list 24 = .ok (.iload_n 3, 1) := by decide +kernel
theorem dX1_list_25 : decode cX1_list 25 = .ok (.aload_n 0, 1) := by decide +kernel
theorem dX1_list_26 : decode cX1_list 26 = .ok (.getfield 11, 3) := by decide +kernel
theorem dX1_list_29 : decode cX1_list 29 = .ok (.iload_n 3, 1) := by decide +kernel
theorem dX1_list_30 : decode cX1_list 30 = .ok (.aaload, 1) := by decide +kernel
theorem dX1_list_31 : decode cX1_list 31 = .ok (.getfield 40, 3) := by decide +kernel
theorem dX1_list_34 : decode cX1_list 34 = .ok (.invokevirtual 58, 3) := by decide +kernel
theorem dX1_list_37 : decode cX1_list 37 = .ok (.iinc 3 1, 3) := by decide +kernel
theorem dX1_list_40 : decode cX1_list 40 = .ok (.goto (-38), 3) := by decide +kernel
theorem dX1_list_43 : decode cX1_list 43 = .ok (.return_, 1) := by decide +kernel
theorem dX1_markVoid_0 : decode cX1_markVoid 0 = .ok (.iconst 0, 1) := by decide +kernel
theorem dX1_markVoid_1 : decode cX1_markVoid 1 = .ok (.istore_n 2, 1) := by decide +kernel
theorem dX1_markVoid_2 : decode cX1_markVoid 2 = .ok (.iload_n 2, 1) := by decide +kernel
theorem dX1_markVoid_3 : decode cX1_markVoid 3 = .ok (.aload_n 0, 1) := by decide +kernel
theorem dX1_markVoid_4 : decode cX1_markVoid 4 = .ok (.getfield 26, 3) := by decide +kernel
theorem dX1_markVoid_7 : decode cX1_markVoid 7 = .ok (.if_icmp .ge 19, 3) := by decide +kernel
theorem dX1_markVoid_10 : decode cX1_markVoid 10 = .ok (.aload_n 0, 1) := by decide +kernel
theorem dX1_markVoid_11 : decode cX1_markVoid 11 = .ok (.getfield 11, 3) := by decide +kernel
theorem dX1_markVoid_14 : decode cX1_markVoid 14 = .ok (.iload_n 2, 1) := by decide +kernel
theorem dX1_markVoid_15 : decode cX1_markVoid 15 = .ok (.aaload, 1) := by decide +kernel
theorem dX1_markVoid_16 : decode cX1_markVoid 16 = .ok (.iconst 0, 1) := by decide +kernel
theorem dX1_markVoid_17 : decode cX1_markVoid 17 = .ok (.putfield 64, 3) := by decide +kernel
theorem dX1_markVoid_20 : decode cX1_markVoid 20 = .ok (.iinc 2 1, 3) := by decide +kernel
theorem dX1_markVoid_23 : decode cX1_markVoid 23 = .ok (.goto (-21), 3) := by decide +kernel
theorem dX1_markVoid_26 : decode cX1_markVoid 26 = .ok (.aload_n 0, 1) := by decide +kernel
theorem dX1_markVoid_27 : decode cX1_markVoid 27 = .ok (.getfield 26, 3) := by decide +kernel
theorem dX1_markVoid_30 : decode cX1_markVoid 30 = .ok (.iconst 1, 1) := by decide +kernel
theorem dX1_markVoid_31 : decode cX1_markVoid 31 = .ok (.isub, 1) := by decide +kernel
theorem dX1_markVoid_32 : decode cX1_markVoid 32 = .ok (.istore_n 2, 1) := by decide +kernel
theorem dX1_markVoid_33 : decode cX1_markVoid 33 = .ok (.iload_n 2, 1) := by decide +kernel
theorem dX1_markVoid_34 : decode cX1_markVoid 34 = .ok (.ifCond .lt 52, 3) := by decide +kernel
theorem dX1_markVoid_37 : decode cX1_markVoid 37 = .ok (.aload_n 0, 1) := by decide +kernel
theorem dX1_markVoid_38 : decode cX1_markVoid 38 = .ok (.getfield 11, 3) := by decide +kernel
theorem dX1_markVoid_41 : decode cX1_markVoid 41 = .ok (.iload_n 2, 1) := by decide +kernel
theorem dX1_markVoid_42 : decode cX1_markVoid 42 = .ok (.aaload, 1) := by decide +kernel
theorem dX1_markVoid_43 : decode cX1_markVoid 43 = .ok (.astore_n 3, 1) := by decide +kernel
theorem dX1_markVoid_44 : decode cX1_markVoid 44 = .ok (.aload_n 0, 1) := by decide +kernel
theorem dX1_markVoid_45 : decode cX1_markVoid 45 = .ok (.aload_n 3, 1) := by decide +kernel
theorem dX1_markVoid_46 : decode cX1_markVoid 46 = .ok (.getfield 68, 3) := by decide +kernel
theorem dX1_markVoid_49 : decode cX1_markVoid 49 = .ok (.invokevirtual 71, 3) := by decide +kernel
theorem dX1_markVoid_52 : decode cX1_markVoid 52 = .ok (.astore 4, 2) := by decide +kernel
theorem dX1_markVoid_54 : decode cX1_markVoid 54 = .ok (.aload 4, 2) := by decide +kernel
theorem dX1_markVoid_56 : decode cX1_markVoid 56 = .ok (.ifnull 24, 3) := by decide +kernel
theorem dX1_markVoid_59 : decode cX1_markVoid 59 = .ok (.aload_n 3, 1) := by decide +kernel
theorem dX1_markVoid_60 : decode cX1_markVoid 60 = .ok (.iload_n 1, 1) := by decide +kernel
theorem dX1_markVoid_61 : decode cX1_markVoid 61 = .ok (.invokevirtual 75, 3) := by decide +kernel
theorem dX1_markVoid_64 : decode cX1_markVoid 64 = .ok (.ifCond .eq 16, 3) := by decide +kernel
theorem dX1_markVoid_67 : decode cX1_markVoid 67 = .ok (.aload_n 3, 1) := by decide +kernel
theorem dX1_markVoid_68 : decode cX1_markVoid 68 = .ok (.getfield 64, 3) := by decide +kernel
theorem dX1_markVoid_71 : decode cX1_markVoid 71 = .ok (.ifCond .ne 9, 3) := by decide +kernel
theorem dX1_markVoid_74 : decode cX1_markVoid 74 = .ok (.aload 4, 2) := by decide +kernel
theorem dX1_markVoid_76 : decode cX1_markVoid 76 = .ok (.iconst 1, 1) := by decide +kernel
theorem dX1_markVoid_77 : decode cX1_markVoid 77 = .ok (.putfield 64, 3) := by decide +kernel
theorem dX1_markVoid_80 : decode cX1_markVoid 80 = .ok (.iinc 2 (-1), 3) := by decide +kernel
theorem dX1_markVoid_83 : decode cX1_markVoid 83 = .ok (.goto (-50), 3) := by decide +kernel
theorem dX1_markVoid_86 : decode cX1_markVoid 86 = .ok (.return_, 1) := by decide +kernel
theorem dX1_lawPlace_0 : decode cX1_lawPlace 0 = .ok (.iconst (-1), 1) := by decide +kernel
theorem dX1_lawPlace_1 : decode cX1_lawPlace 1 = .ok (.istore 4, 2) := by decide +kernel
theorem dX1_lawPlace_3 : decode cX1_lawPlace 3 = .ok (.iconst (-1), 1) := by decide +kernel
theorem dX1_lawPlace_4 : decode cX1_lawPlace 4 = .ok (.istore 5, 2) := by decide +kernel
theorem dX1_lawPlace_6 : decode cX1_lawPlace 6 = .ok (.iconst 0, 1) := by decide +kernel
theorem dX1_lawPlace_7 : decode cX1_lawPlace 7 = .ok (.istore 6, 2) := by decide +kernel
theorem dX1_lawPlace_9 : decode cX1_lawPlace 9 = .ok (.iload 6, 2) := by decide +kernel
theorem dX1_lawPlace_11 : decode cX1_lawPlace 11 = .ok (.aload_n 0, 1) := by decide +kernel
theorem dX1_lawPlace_12 : decode cX1_lawPlace 12 = .ok (.getfield 26, 3) := by decide +kernel
theorem dX1_lawPlace_15 : decode cX1_lawPlace 15 = .ok (.if_icmp .ge 122, 3) := by decide +kernel
theorem dX1_lawPlace_18 : decode cX1_lawPlace 18 = .ok (.aload_n 0, 1) := by decide +kernel
theorem dX1_lawPlace_19 : decode cX1_lawPlace 19 = .ok (.getfield 11, 3) := by decide +kernel
theorem dX1_lawPlace_22 : decode cX1_lawPlace 22 = .ok (.iload 6, 2) := by decide +kernel
theorem dX1_lawPlace_24 : decode cX1_lawPlace 24 = .ok (.aaload, 1) := by decide +kernel
theorem dX1_lawPlace_25 : decode cX1_lawPlace 25 = .ok (.astore 7, 2) := by decide +kernel
theorem dX1_lawPlace_27 : decode cX1_lawPlace 27 = .ok (.aload 7, 2) := by decide +kernel
theorem dX1_lawPlace_29 : decode cX1_lawPlace 29 = .ok (.iload_n 3, 1) := by decide +kernel
theorem dX1_lawPlace_30 : decode cX1_lawPlace 30 = .ok (.invokevirtual 75, 3) := by decide +kernel
theorem dX1_lawPlace_33 : decode cX1_lawPlace 33 = .ok (.ifCond .eq 15, 3) := by decide +kernel
theorem dX1_lawPlace_36 : decode cX1_lawPlace 36 = .ok (.aload 7, 2) := by decide +kernel
theorem dX1_lawPlace_38 : decode cX1_lawPlace 38 = .ok (.getfield 64, 3) := by decide +kernel
theorem dX1_lawPlace_41 : decode cX1_lawPlace 41 = .ok (.ifCond .ne 7, 3) := by decide +kernel
theorem dX1_lawPlace_44 : decode cX1_lawPlace 44 = .ok (.iconst 1, 1) := by decide +kernel
theorem dX1_lawPlace_45 : decode cX1_lawPlace 45 = .ok (.goto 4, 3) := by decide +kernel
theorem dX1_lawPlace_48 : decode cX1_lawPlace 48 = .ok (.iconst 0, 1) := by decide +kernel
theorem dX1_lawPlace_49 : decode cX1_lawPlace 49 = .ok (.istore 8, 2) := by decide +kernel
theorem dX1_lawPlace_51 : decode cX1_lawPlace 51 = .ok (.iconst 0, 1) := by decide +kernel
theorem dX1_lawPlace_52 : decode cX1_lawPlace 52 = .ok (.istore 9, 2) := by decide +kernel
theorem dX1_lawPlace_54 : decode cX1_lawPlace 54 = .ok (.iload 8, 2) := by decide +kernel
theorem dX1_lawPlace_56 : decode cX1_lawPlace 56 = .ok (.ifCond .eq 75, 3) := by decide +kernel
theorem dX1_lawPlace_59 : decode cX1_lawPlace 59 = .ok (.iload 9, 2) := by decide +kernel
theorem dX1_lawPlace_61 : decode cX1_lawPlace 61 = .ok (.aload 7, 2) := by decide +kernel
theorem dX1_lawPlace_63 : decode cX1_lawPlace 63 = .ok (.getfield 79, 3) := by decide +kernel
theorem dX1_lawPlace_66 : decode cX1_lawPlace 66 = .ok (.if_icmp .ge 65, 3) := by decide +kernel
theorem dX1_lawPlace_69 : decode cX1_lawPlace 69 = .ok (.aload 7, 2) := by decide +kernel
theorem dX1_lawPlace_71 : decode cX1_lawPlace 71 = .ok (.getfield 82, 3) := by decide +kernel
theorem dX1_lawPlace_74 : decode cX1_lawPlace 74 = .ok (.iload 9, 2) := by decide +kernel
theorem dX1_lawPlace_76 : decode cX1_lawPlace 76 = .ok (.iaload, 1) := by decide +kernel
theorem dX1_lawPlace_77 : decode cX1_lawPlace 77 = .ok (.iload_n 1, 1) := by decide +kernel
theorem dX1_lawPlace_78 : decode cX1_lawPlace 78 = .ok (.if_icmp .ne 47, 3) := by decide +kernel
theorem dX1_lawPlace_81 : decode cX1_lawPlace 81 = .ok (.aload 7, 2) := by decide +kernel
theorem dX1_lawPlace_83 : decode cX1_lawPlace 83 = .ok (.getfield 85, 3) := by decide +kernel
theorem dX1_lawPlace_86 : decode cX1_lawPlace 86 = .ok (.iload 9, 2) := by decide +kernel
theorem dX1_lawPlace_88 : decode cX1_lawPlace 88 = .ok (.iaload, 1) := by decide +kernel
theorem dX1_lawPlace_89 : decode cX1_lawPlace 89 = .ok (.iload_n 2, 1) := by decide +kernel
theorem dX1_lawPlace_90 : decode cX1_lawPlace 90 = .ok (.if_icmp .gt 35, 3) := by decide +kernel
theorem dX1_lawPlace_93 : decode cX1_lawPlace 93 = .ok (.aload 7, 2) := by decide +kernel
theorem dX1_lawPlace_95 : decode cX1_lawPlace 95 = .ok (.getfield 85, 3) := by decide +kernel
theorem dX1_lawPlace_98 : decode cX1_lawPlace 98 = .ok (.iload 9, 2) := by decide +kernel
theorem dX1_lawPlace_100 : decode cX1_lawPlace 100 = .ok (.iaload, 1) := by decide +kernel
theorem dX1_lawPlace_101 : decode cX1_lawPlace 101 = .ok (.iload 5, 2) := by decide +kernel
theorem dX1_lawPlace_103 : decode cX1_lawPlace 103 = .ok (.if_icmp .lt 22, 3) := by decide +kernel
theorem dX1_lawPlace_106 : decode cX1_lawPlace 106 = .ok (.aload 7, 2) := by decide +kernel
theorem dX1_lawPlace_108 : decode cX1_lawPlace 108 = .ok (.getfield 85, 3) := by decide +kernel
theorem dX1_lawPlace_111 : decode cX1_lawPlace 111 = .ok (.iload 9, 2) := by decide +kernel
theorem dX1_lawPlace_113 : decode cX1_lawPlace 113 = .ok (.iaload, 1) := by decide +kernel
theorem dX1_lawPlace_114 : decode cX1_lawPlace 114 = .ok (.istore 5, 2) := by decide +kernel
theorem dX1_lawPlace_116 : decode cX1_lawPlace 116 = .ok (.iload 6, 2) := by decide +kernel
theorem dX1_lawPlace_118 : decode cX1_lawPlace 118 = .ok (.iconst 4, 1) := by decide +kernel
theorem dX1_lawPlace_119 : decode cX1_lawPlace 119 = .ok (.imul, 1) := by decide +kernel
theorem dX1_lawPlace_120 : decode cX1_lawPlace 120 = .ok (.iload 9, 2) := by decide +kernel
theorem dX1_lawPlace_122 : decode cX1_lawPlace 122 = .ok (.iadd, 1) := by decide +kernel
theorem dX1_lawPlace_123 : decode cX1_lawPlace 123 = .ok (.istore 4, 2) := by decide +kernel
theorem dX1_lawPlace_125 : decode cX1_lawPlace 125 = .ok (.iinc 9 1, 3) := by decide +kernel
theorem dX1_lawPlace_128 : decode cX1_lawPlace 128 = .ok (.goto (-74), 3) := by decide +kernel
theorem dX1_lawPlace_131 : decode cX1_lawPlace 131 = .ok (.iinc 6 1, 3) := by decide +kernel
theorem dX1_lawPlace_134 : decode cX1_lawPlace 134 = .ok (.goto (-125), 3) := by decide +kernel
theorem dX1_lawPlace_137 : decode cX1_lawPlace 137 = .ok (.iload 4, 2) := by decide +kernel
theorem dX1_lawPlace_139 : decode cX1_lawPlace 139 = .ok (.ireturn, 1) := by decide +kernel
theorem dX1_lawValue_0 : decode cX1_lawValue 0 = .ok (.iload_n 1, 1) := by decide +kernel
theorem dX1_lawValue_1 : decode cX1_lawValue 1 = .ok (.ifCond .ge 7, 3) := by decide +kernel
theorem dX1_lawValue_4 : decode cX1_lawValue 4 = .ok (.aconst_null, 1) := by decide +kernel
theorem dX1_lawValue_5 : decode cX1_lawValue 5 = .ok (.goto 10, 3) := by decide +kernel
theorem dX1_lawValue_8 : decode cX1_lawValue 8 = .ok (.aload_n 0, 1) := by decide +kernel
theorem dX1_lawValue_9 : decode cX1_lawValue 9 = .ok (.iload_n 1, 1) := by decide +kernel
theorem dX1_lawValue_10 : decode cX1_lawValue 10 = .ok (.iconst 4, 1) := by decide +kernel
theorem dX1_lawValue_11 : decode cX1_lawValue 11 = .ok (.idiv, 1) := by decide +kernel
theorem dX1_lawValue_12 : decode cX1_lawValue 12 = .ok (.invokevirtual 71, 3) := by decide +kernel
theorem dX1_lawValue_15 : decode cX1_lawValue 15 = .ok (.astore_n 2, 1) := by decide +kernel
theorem dX1_lawValue_16 : decode cX1_lawValue 16 = .ok (.aload_n 2, 1) := by decide +kernel
theorem dX1_lawValue_17 : decode cX1_lawValue 17 = .ok (.ifnonnull 8, 3) := by decide +kernel
theorem dX1_lawValue_20 : decode cX1_lawValue 20 = .ok (.ldc 88, 2) := by decide +kernel
theorem dX1_lawValue_22 : decode cX1_lawValue 22 = .ok (.goto 11, 3) := by decide +kernel
theorem dX1_lawValue_25 : decode cX1_lawValue 25 = .ok (.aload_n 2, 1) := by decide +kernel
theorem dX1_lawValue_26 : decode cX1_lawValue 26 = .ok (.getfield 89, 3) := by decide +kernel
theorem dX1_lawValue_29 : decode cX1_lawValue 29 = .ok (.iload_n 1, 1) := by decide +kernel
theorem dX1_lawValue_30 : decode cX1_lawValue 30 = .ok (.iconst 4, 1) := by decide +kernel
theorem dX1_lawValue_31 : decode cX1_lawValue 31 = .ok (.irem, 1) := by decide +kernel
theorem dX1_lawValue_32 : decode cX1_lawValue 32 = .ok (.iaload, 1) := by decide +kernel
theorem dX1_lawValue_33 : decode cX1_lawValue 33 = .ok (.ireturn, 1) := by decide +kernel
theorem dX1_lawDay_0 : decode cX1_lawDay 0 = .ok (.iload_n 1, 1) := by decide +kernel
theorem dX1_lawDay_1 : decode cX1_lawDay 1 = .ok (.ifCond .ge 7, 3) := by decide +kernel
theorem dX1_lawDay_4 : decode cX1_lawDay 4 = .ok (.aconst_null, 1) := by decide +kernel
theorem dX1_lawDay_5 : decode cX1_lawDay 5 = .ok (.goto 10, 3) := by decide +kernel
theorem dX1_lawDay_8 : decode cX1_lawDay 8 = .ok (.aload_n 0, 1) := by decide +kernel
theorem dX1_lawDay_9 : decode cX1_lawDay 9 = .ok (.iload_n 1, 1) := by decide +kernel
theorem dX1_lawDay_10 : decode cX1_lawDay 10 = .ok (.iconst 4, 1) := by decide +kernel
theorem dX1_lawDay_11 : decode cX1_lawDay 11 = .ok (.idiv, 1) := by decide +kernel
theorem dX1_lawDay_12 : decode cX1_lawDay 12 = .ok (.invokevirtual 71, 3) := by decide +kernel
theorem dX1_lawDay_15 : decode cX1_lawDay 15 = .ok (.astore_n 2, 1) := by decide +kernel
theorem dX1_lawDay_16 : decode cX1_lawDay 16 = .ok (.aload_n 2, 1) := by decide +kernel
theorem dX1_lawDay_17 : decode cX1_lawDay 17 = .ok (.ifnonnull 7, 3) := by decide +kernel
theorem dX1_lawDay_20 : decode cX1_lawDay 20 = .ok (.iconst (-1), 1) := by decide +kernel
theorem dX1_lawDay_21 : decode cX1_lawDay 21 = .ok (.goto 11, 3) := by decide +kernel
theorem dX1_lawDay_24 : decode cX1_lawDay 24 = .ok (.aload_n 2, 1) := by decide +kernel
theorem dX1_lawDay_25 : decode cX1_lawDay 25 = .ok (.getfield 85, 3) := by decide +kernel
theorem dX1_lawDay_28 : decode cX1_lawDay 28 = .ok (.iload_n 1, 1) := by decide +kernel
theorem dX1_lawDay_29 : decode cX1_lawDay 29 = .ok (.iconst 4, 1) := by decide +kernel
theorem dX1_lawDay_30 : decode cX1_lawDay 30 = .ok (.irem, 1) := by decide +kernel
theorem dX1_lawDay_31 : decode cX1_lawDay 31 = .ok (.iaload, 1) := by decide +kernel
theorem dX1_lawDay_32 : decode cX1_lawDay 32 = .ok (.ireturn, 1) := by decide +kernel
theorem dX1_countChanges_0 : decode cX1_countChanges 0 = .ok (.iconst 0, 1) := by decide +kernel
theorem dX1_countChanges_1 : decode cX1_countChanges 1 = .ok (.istore_n 3, 1) := by decide +kernel
theorem dX1_countChanges_2 : decode cX1_countChanges 2 = .ok (.aload_n 0, 1) := by decide +kernel
theorem dX1_countChanges_3 : decode cX1_countChanges 3 = .ok (.iload_n 1, 1) := by decide +kernel
theorem dX1_countChanges_4 : decode cX1_countChanges 4 = .ok (.sipush 9999, 3) := by decide +kernel
theorem dX1_countChanges_7 : decode cX1_countChanges 7 = .ok (.iload_n 2, 1) := by decide +kernel
theorem dX1_countChanges_8 : decode cX1_countChanges 8 = .ok (.invokevirtual 92, 3) := by decide +kernel
theorem dX1_countChanges_11 : decode cX1_countChanges 11 = .ok (.istore 4, 2) := by decide +kernel
theorem dX1_countChanges_13 : decode cX1_countChanges 13 = .ok (.iconst 0, 1) := by decide +kernel
theorem dX1_countChanges_14 : decode cX1_countChanges 14 = .ok (.istore 5, 2) := by decide +kernel
theorem dX1_countChanges_16 : decode cX1_countChanges 16 = .ok (.iload 5, 2) := by decide +kernel
theorem dX1_countChanges_18 : decode cX1_countChanges 18 = .ok (.sipush 240, 3) := by decide +kernel
theorem dX1_countChanges_21 : decode cX1_countChanges 21 = .ok (.if_icmp .ge 58, 3) := by decide +kernel
theorem dX1_countChanges_24 : decode cX1_countChanges 24 = .ok (.iload 4, 2) := by decide +kernel
theorem dX1_countChanges_26 : decode cX1_countChanges 26 = .ok (.iconst (-1), 1) := by decide +kernel
theorem dX1_countChanges_27 : decode cX1_countChanges 27 = .ok (.if_icmp .eq 52, 3) := by decide +kernel
theorem dX1_countChanges_30 : decode cX1_countChanges 30 = .ok (.aload_n 0, 1) := by decide +kernel
theorem dX1_countChanges_31 : decode cX1_countChanges 31 = .ok (.iload_n 1, 1) := by decide +kernel
theorem dX1_countChanges_32 : decode cX1_countChanges 32 = .ok (.aload_n 0, 1) := by decide +kernel
theorem dX1_countChanges_33 : decode cX1_countChanges 33 = .ok (.iload 4, 2) := by decide +kernel
theorem dX1_countChanges_35 : decode cX1_countChanges 35 = .ok (.invokevirtual 96, 3) := by decide +kernel
theorem dX1_countChanges_38 : decode cX1_countChanges 38 = .ok (.iconst 1, 1) := by decide +kernel
theorem dX1_countChanges_39 : decode cX1_countChanges 39 = .ok (.isub, 1) := by decide +kernel
theorem dX1_countChanges_40 : decode cX1_countChanges 40 = .ok (.iload_n 2, 1) := by decide +kernel
theorem dX1_countChanges_41 : decode cX1_countChanges 41 = .ok (.invokevirtual 92, 3) := by decide +kernel
theorem dX1_countChanges_44 : decode cX1_countChanges 44 = .ok (.istore 6, 2) := by decide +kernel
theorem dX1_countChanges_46 : decode cX1_countChanges 46 = .ok (.iload_n 3, 1) := by decide +kernel
theorem dX1_countChanges_47 : decode cX1_countChanges 47 = .ok (.aload_n 0, 1) := by decide +kernel
theorem dX1_countChanges_48 : decode cX1_countChanges 48 = .ok (.iload 6, 2) := by decide +kernel
theorem dX1_countChanges_50 : decode cX1_countChanges 50 = .ok (.invokevirtual 100, 3) := by decide +kernel
theorem dX1_countChanges_53 : decode cX1_countChanges 53 = .ok (.aload_n 0, 1) := by decide +kernel
theorem dX1_countChanges_54 : decode cX1_countChanges 54 = .ok (.iload 4, 2) := by decide +kernel
theorem dX1_countChanges_56 : decode cX1_countChanges 56 = .ok (.invokevirtual 100, 3) := by decide +kernel
theorem dX1_countChanges_59 : decode cX1_countChanges 59 = .ok (.if_icmp .eq 7, 3) := by decide +kernel
theorem dX1_countChanges_62 : decode cX1_countChanges 62 = .ok (.iconst 1, 1) := by decide +kernel
theorem dX1_countChanges_63 : decode cX1_countChanges 63 = .ok (.goto 4, 3) := by decide +kernel
theorem dX1_countChanges_66 : decode cX1_countChanges 66 = .ok (.iconst 0, 1) := by decide +kernel
theorem dX1_countChanges_67 : decode cX1_countChanges 67 = .ok (.iadd, 1) := by decide +kernel
theorem dX1_countChanges_68 : decode cX1_countChanges 68 = .ok (.istore_n 3, 1) := by decide +kernel
theorem dX1_countChanges_69 : decode cX1_countChanges 69 = .ok (.iload 6, 2) := by decide +kernel
theorem dX1_countChanges_71 : decode cX1_countChanges 71 = .ok (.istore 4, 2) := by decide +kernel
theorem dX1_countChanges_73 : decode cX1_countChanges 73 = .ok (.iinc 5 1, 3) := by decide +kernel
theorem dX1_countChanges_76 : decode cX1_countChanges 76 = .ok (.goto (-60), 3) := by decide +kernel
theorem dX1_countChanges_79 : decode cX1_countChanges 79 = .ok (.iload_n 3, 1) := by decide +kernel
theorem dX1_countChanges_80 : decode cX1_countChanges 80 = .ok (.ireturn, 1) := by decide +kernel
theorem dX1_gatherNames_0 : decode cX1_gatherNames 0 = .ok (.aload_n 0, 1) := by decide +kernel
theorem dX1_gatherNames_1 : decode cX1_gatherNames 1 = .ok (.getfield 17, 3) := by decide +kernel
theorem dX1_gatherNames_4 : decode cX1_gatherNames 4 = .ok (.iconst 0, 1) := by decide +kernel
theorem dX1_gatherNames_5 : decode cX1_gatherNames 5 = .ok (.lload_n 1, 1) := by decide +kernel
theorem dX1_gatherNames_6 : decode cX1_gatherNames 6 = .ok (.lastore, 1) := by decide +kernel
theorem dX1_gatherNames_7 : decode cX1_gatherNames 7 = .ok (.aload_n 0, 1) := by decide +kernel
theorem dX1_gatherNames_8 : decode cX1_gatherNames 8 = .ok (.iconst 1, 1) := by decide +kernel
theorem dX1_gatherNames_9 : decode cX1_gatherNames 9 = .ok (.putfield 103, 3) := by decide +kernel
theorem dX1_gatherNames_12 : decode cX1_gatherNames 12 = .ok (.iconst 1, 1) := by decide +kernel
theorem dX1_gatherNames_13 : decode cX1_gatherNames 13 = .ok (.istore 4, 2) := by decide +kernel
theorem dX1_gatherNames_15 : decode cX1_gatherNames 15 = .ok (.iconst 0, 1) := by decide +kernel
theorem dX1_gatherNames_16 : decode cX1_gatherNames 16 = .ok (.istore 5, 2) := by decide +kernel
theorem dX1_gatherNames_18 : decode cX1_gatherNames 18 = .ok (.iload 5, 2) := by decide +kernel
theorem dX1_gatherNames_20 : decode cX1_gatherNames 20 = .ok (.bipush 60, 2) := by decide +kernel
theorem dX1_gatherNames_22 : decode cX1_gatherNames 22 = .ok (.if_icmp .gt 21, 3) := by decide +kernel
theorem dX1_gatherNames_25 : decode cX1_gatherNames 25 = .ok (.iload 4, 2) := by decide +kernel
theorem dX1_gatherNames_27 : decode cX1_gatherNames 27 = .ok (.ifCond .eq 16, 3) := by decide +kernel
theorem dX1_gatherNames_30 : decode cX1_gatherNames 30 = .ok (.aload_n 0, 1) := by decide +kernel
theorem dX1_gatherNames_31 : decode cX1_gatherNames 31 = .ok (.iload_n 3, 1) := by decide +kernel
theorem dX1_gatherNames_32 : decode cX1_gatherNames 32 = .ok (.invokevirtual 106, 3) := by decide +kernel
theorem dX1_gatherNames_35 : decode cX1_gatherNames 35 = .ok (.istore 4, 2) := by decide +kernel
theorem dX1_gatherNames_37 : decode cX1_gatherNames 37 = .ok (.iinc 5 1, 3) := by decide +kernel
theorem dX1_gatherNames_40 : decode cX1_gatherNames 40 = .ok (.goto (-22), 3) := by decide +kernel
theorem dX1_gatherNames_43 : decode cX1_gatherNames 43 = .ok (.return_, 1) := by decide +kernel
theorem dX1_addOlderNames_0 : decode cX1_addOlderNames 0 = .ok (.aload_n 0, 1) := by decide +kernel
theorem dX1_addOlderNames_1 : decode cX1_addOlderNames 1 = .ok (.getfield 103, 3) := by decide +kernel
theorem dX1_addOlderNames_4 : decode cX1_addOlderNames 4 = .ok (.istore_n 2, 1) := by decide +kernel
theorem dX1_addOlderNames_5 : decode cX1_addOlderNames 5 = .ok (.iconst 0, 1) := by decide +kernel
theorem dX1_addOlderNames_6 : decode cX1_addOlderNames 6 = .ok (.istore_n 3, 1) := by decide +kernel
theorem dX1_addOlderNames_7 : decode cX1_addOlderNames 7 = .ok (.iload_n 3, 1) := by decide +kernel
theorem dX1_addOlderNames_8 : decode cX1_addOlderNames 8 = .ok (.aload_n 0, 1) := by decide +kernel
theorem dX1_addOlderNames_9 : decode cX1_addOlderNames 9 = .ok (.getfield 26, 3) := by decide +kernel
theorem dX1_addOlderNames_12 : decode cX1_addOlderNames 12 = .ok (.if_icmp .ge 96, 3) := by decide +kernel
theorem dX1_addOlderNames_15 : decode cX1_addOlderNames 15 = .ok (.aload_n 0, 1) := by decide +kernel
theorem dX1_addOlderNames_16 : decode cX1_addOlderNames 16 = .ok (.getfield 103, 3) := by decide +kernel
theorem dX1_addOlderNames_19 : decode cX1_addOlderNames 19 = .ok (.aload_n 0, 1) := by decide +kernel
theorem dX1_addOlderNames_20 : decode cX1_addOlderNames 20 = .ok (.getfield 17, 3) := by decide +kernel
theorem dX1_addOlderNames_23 : decode cX1_addOlderNames 23 = .ok (.arraylength, 1) := by decide +kernel
theorem dX1_addOlderNames_24 : decode cX1_addOlderNames 24 = .ok (.if_icmp .ge 84, 3) := by decide +kernel
theorem dX1_addOlderNames_27 : decode cX1_addOlderNames 27 = .ok (.aload_n 0, 1) := by decide +kernel
theorem dX1_addOlderNames_28 : decode cX1_addOlderNames 28 = .ok (.getfield 11, 3) := by decide +kernel
theorem dX1_addOlderNames_31 : decode cX1_addOlderNames 31 = .ok (.iload_n 3, 1) := by decide +kernel
theorem dX1_addOlderNames_32 : decode cX1_addOlderNames 32 = .ok (.aaload, 1) := by decide +kernel
theorem dX1_addOlderNames_33 : decode cX1_addOlderNames 33 = .ok (.astore 4, 2) := by decide +kernel
theorem dX1_addOlderNames_35 : decode cX1_addOlderNames 35 = .ok (.aload 4, 2) := by decide +kernel
theorem dX1_addOlderNames_37 : decode cX1_addOlderNames 37 = .ok (.getfield 109, 3) := by decide +kernel
theorem dX1_addOlderNames_40 : decode cX1_addOlderNames 40 = .ok (.lconst 0, 1) := by decide +kernel
theorem dX1_addOlderNames_41 : decode cX1_addOlderNames 41 = .ok (.lcmp, 1) := by decide +kernel
theorem dX1_addOlderNames_42 : decode cX1_addOlderNames 42 = .ok (.ifCond .eq 60, 3) := by decide +kernel
theorem dX1_addOlderNames_45 : decode cX1_addOlderNames 45 = .ok (.aload 4, 2) := by decide +kernel
theorem dX1_addOlderNames_47 : decode cX1_addOlderNames 47 = .ok (.iload_n 1, 1) := by decide +kernel
theorem dX1_addOlderNames_48 : decode cX1_addOlderNames 48 = .ok (.invokevirtual 75, 3) := by decide +kernel
theorem dX1_addOlderNames_51 : decode cX1_addOlderNames 51 = .ok (.ifCond .eq 51, 3) := by decide +kernel
theorem dX1_addOlderNames_54 : decode cX1_addOlderNames 54 = .ok (.aload_n 0, 1) := by decide +kernel
theorem dX1_addOlderNames_55 : decode cX1_addOlderNames 55 = .ok (.aload 4, 2) := by decide +kernel
theorem dX1_addOlderNames_57 : decode cX1_addOlderNames 57 = .ok (.getfield 109, 3) := by decide +kernel
theorem dX1_addOlderNames_60 : decode cX1_addOlderNames 60 = .ok (.invokevirtual 113, 3) := by decide +kernel
theorem dX1_addOlderNames_63 : decode cX1_addOlderNames 63 = .ok (.ifCond .eq 39, 3) := by decide +kernel
theorem dX1_addOlderNames_66 : decode cX1_addOlderNames 66 = .ok (.aload_n 0, 1) := by decide +kernel
theorem dX1_addOlderNames_67 : decode cX1_addOlderNames 67 = .ok (.aload 4, 2) := by decide +kernel
theorem dX1_addOlderNames_69 : decode cX1_addOlderNames 69 = .ok (.getfield 117, 3) := by decide +kernel
theorem dX1_addOlderNames_72 : decode cX1_addOlderNames 72 = .ok (.invokevirtual 113, 3) := by decide +kernel
theorem dX1_addOlderNames_75 : decode cX1_addOlderNames 75 = .ok (.ifCond .ne 27, 3) := by decide +kernel
theorem dX1_addOlderNames_78 : decode cX1_addOlderNames 78 = .ok (.aload_n 0, 1) := by decide +kernel
theorem dX1_addOlderNames_79 : decode cX1_addOlderNames 79 = .ok (.getfield 17, 3) := by decide +kernel
theorem dX1_addOlderNames_82 : decode cX1_addOlderNames 82 = .ok (.aload_n 0, 1) := by decide +kernel
theorem dX1_addOlderNames_83 : decode cX1_addOlderNames 83 = .ok (.getfield 103, 3) := by decide +kernel
theorem dX1_addOlderNames_86 : decode cX1_addOlderNames 86 = .ok (.aload 4, 2) := by decide +kernel
theorem dX1_addOlderNames_88 : decode cX1_addOlderNames 88 = .ok (.getfield 117, 3) := by decide +kernel
theorem dX1_addOlderNames_91 : decode cX1_addOlderNames 91 = .ok (.lastore, 1) := by decide +kernel
theorem dX1_addOlderNames_92 : decode cX1_addOlderNames 92 = .ok (.aload_n 0, 1) := by decide +kernel
theorem dX1_addOlderNames_93 : decode cX1_addOlderNames 93 = .ok (.dup, 1) := by decide +kernel
theorem dX1_addOlderNames_94 : decode cX1_addOlderNames 94 = .ok (.getfield 103, 3) := by decide +kernel
theorem dX1_addOlderNames_97 : decode cX1_addOlderNames 97 = .ok (.iconst 1, 1) := by decide +kernel
theorem dX1_addOlderNames_98 : decode cX1_addOlderNames 98 = .ok (.iadd, 1) := by decide +kernel
theorem dX1_addOlderNames_99 : decode cX1_addOlderNames 99 = .ok (.putfield 103, 3) := by decide +kernel
theorem dX1_addOlderNames_102 : decode cX1_addOlderNames 102 = .ok (.iinc 3 1, 3) := by decide +kernel
theorem dX1_addOlderNames_105 : decode cX1_addOlderNames 105 = .ok (.goto (-98), 3) := by decide +kernel
theorem dX1_addOlderNames_108 : decode cX1_addOlderNames 108 = .ok (.aload_n 0, 1) := by decide +kernel
theorem dX1_addOlderNames_109 : decode cX1_addOlderNames 109 = .ok (.getfield 103, 3) := by decide +kernel
theorem dX1_addOlderNames_112 : decode cX1_addOlderNames 112 = .ok (.iload_n 2, 1) := by decide +kernel
theorem dX1_addOlderNames_113 : decode cX1_addOlderNames 113 = .ok (.if_icmp .le 7, 3) := by decide +kernel
theorem dX1_addOlderNames_116 : decode cX1_addOlderNames 116 = .ok (.iconst 1, 1) := by decide +kernel
theorem dX1_addOlderNames_117 : decode cX1_addOlderNames 117 = .ok (.goto 4, 3) := by decide +kernel
theorem dX1_addOlderNames_120 : decode cX1_addOlderNames 120 = .ok (.iconst 0, 1) := by decide +kernel
theorem dX1_addOlderNames_121 : decode cX1_addOlderNames 121 = .ok (.ireturn, 1) := by decide +kernel
theorem dX1_isName_0 : decode cX1_isName 0 = .ok (.iconst 0, 1) := by decide +kernel
theorem dX1_isName_1 : decode cX1_isName 1 = .ok (.istore_n 3, 1) := by decide +kernel
theorem dX1_isName_2 : decode cX1_isName 2 = .ok (.iload_n 3, 1) := by decide +kernel
theorem dX1_isName_3 : decode cX1_isName 3 = .ok (.aload_n 0, 1) := by decide +kernel
theorem dX1_isName_4 : decode cX1_isName 4 = .ok (.getfield 103, 3) := by decide +kernel
theorem dX1_isName_7 : decode cX1_isName 7 = .ok (.if_icmp .ge 22, 3) := by decide +kernel
theorem dX1_isName_10 : decode cX1_isName 10 = .ok (.aload_n 0, 1) := by decide +kernel
theorem dX1_isName_11 : decode cX1_isName 11 = .ok (.getfield 17, 3) := by decide +kernel
theorem dX1_isName_14 : decode cX1_isName 14 = .ok (.iload_n 3, 1) := by decide +kernel
theorem dX1_isName_15 : decode cX1_isName 15 = .ok (.laload, 1) := by decide +kernel
theorem dX1_isName_16 : decode cX1_isName 16 = .ok (.lload_n 1, 1) := by decide +kernel
theorem dX1_isName_17 : decode cX1_isName 17 = .ok (.lcmp, 1) := by decide +kernel
theorem dX1_isName_18 : decode cX1_isName 18 = .ok (.ifCond .ne 5, 3) := by decide +kernel
theorem dX1_isName_21 : decode cX1_isName 21 = .ok (.iconst 1, 1) := by decide +kernel
theorem dX1_isName_22 : decode cX1_isName 22 = .ok (.ireturn, 1) := by decide +kernel
theorem dX1_isName_23 : decode cX1_isName 23 = .ok (.iinc 3 1, 3) := by decide +kernel
theorem dX1_isName_26 : decode cX1_isName 26 = .ok (.goto (-24), 3) := by decide +kernel
theorem dX1_isName_29 : decode cX1_isName 29 = .ok (.iconst 0, 1) := by decide +kernel
theorem dX1_isName_30 : decode cX1_isName 30 = .ok (.ireturn, 1) := by decide +kernel
theorem dX1_search_0 : decode cX1_search 0 = .ok (.aload_n 0, 1) := by decide +kernel
theorem dX1_search_1 : decode cX1_search 1 = .ok (.iconst 0, 1) := by decide +kernel
theorem dX1_search_2 : decode cX1_search 2 = .ok (.putfield 120, 3) := by decide +kernel
theorem dX1_search_5 : decode cX1_search 5 = .ok (.iconst 0, 1) := by decide +kernel
theorem dX1_search_6 : decode cX1_search 6 = .ok (.istore_n 3, 1) := by decide +kernel
theorem dX1_search_7 : decode cX1_search 7 = .ok (.iload_n 3, 1) := by decide +kernel
theorem dX1_search_8 : decode cX1_search 8 = .ok (.aload_n 0, 1) := by decide +kernel
theorem dX1_search_9 : decode cX1_search 9 = .ok (.getfield 26, 3) := by decide +kernel
theorem dX1_search_12 : decode cX1_search 12 = .ok (.if_icmp .ge 84, 3) := by decide +kernel
theorem dX1_search_15 : decode cX1_search 15 = .ok (.aload_n 0, 1) := by decide +kernel
theorem dX1_search_16 : decode cX1_search 16 = .ok (.getfield 120, 3) := by decide +kernel
theorem dX1_search_19 : decode cX1_search 19 = .ok (.aload_n 0, 1) := by decide +kernel
theorem dX1_search_20 : decode cX1_search 20 = .ok (.getfield 21, 3) := by decide +kernel
theorem dX1_search_23 : decode cX1_search 23 = .ok (.arraylength, 1) := by decide +kernel
theorem dX1_search_24 : decode cX1_search 24 = .ok (.if_icmp .ge 72, 3) := by decide +kernel
theorem dX1_search_27 : decode cX1_search 27 = .ok (.aload_n 0, 1) := by decide +kernel
theorem dX1_search_28 : decode cX1_search 28 = .ok (.getfield 11, 3) := by decide +kernel
theorem dX1_search_31 : decode cX1_search 31 = .ok (.iload_n 3, 1) := by decide +kernel
theorem dX1_search_32 : decode cX1_search 32 = .ok (.aaload, 1) := by decide +kernel
theorem dX1_search_33 : decode cX1_search 33 = .ok (.astore 4, 2) := by decide +kernel
theorem dX1_search_35 : decode cX1_search 35 = .ok (.aload 4, 2) := by decide +kernel
theorem dX1_search_37 : decode cX1_search 37 = .ok (.iload_n 2, 1) := by decide +kernel
theorem dX1_search_38 : decode cX1_search 38 = .ok (.invokevirtual 75, 3) := by decide +kernel
theorem dX1_search_41 : decode cX1_search 41 = .ok (.ifCond .eq 49, 3) := by decide +kernel
theorem dX1_search_44 : decode cX1_search 44 = .ok (.aload 4, 2) := by decide +kernel
theorem dX1_search_46 : decode cX1_search 46 = .ok (.getfield 123, 3) := by decide +kernel
theorem dX1_search_49 : decode cX1_search 49 = .ok (.aload_n 1, 1) := by decide +kernel
theorem dX1_search_50 : decode cX1_search 50 = .ok (.arraylength, 1) := by decide +kernel
theorem dX1_search_51 : decode cX1_search 51 = .ok (.if_icmp .ge 39, 3) := by decide +kernel
theorem dX1_search_54 : decode cX1_search 54 = .ok (.aload_n 0, 1) := by decide +kernel
theorem dX1_search_55 : decode cX1_search 55 = .ok (.aload 4, 2) := by decide +kernel
theorem dX1_search_57 : decode cX1_search 57 = .ok (.aload_n 1, 1) := by decide +kernel
theorem dX1_search_58 : decode cX1_search 58 = .ok (.aload 4, 2) := by decide +kernel
theorem dX1_search_60 : decode cX1_search 60 = .ok (.getfield 123, 3) := by decide +kernel
theorem dX1_search_63 : decode cX1_search 63 = .ok (.aaload, 1) := by decide +kernel
theorem dX1_search_64 : decode cX1_search 64 = .ok (.invokevirtual 126, 3) := by decide +kernel
theorem dX1_search_67 : decode cX1_search 67 = .ok (.ifCond .eq 23, 3) := by decide +kernel
theorem dX1_search_70 : decode cX1_search 70 = .ok (.aload_n 0, 1) := by decide +kernel
theorem dX1_search_71 : decode cX1_search 71 = .ok (.getfield 21, 3) := by decide +kernel
theorem dX1_search_74 : decode cX1_search 74 = .ok (.aload_n 0, 1) := by decide +kernel
theorem dX1_search_75 : decode cX1_search 75 = .ok (.getfield 120, 3) := by decide +kernel
theorem dX1_search_78 : decode cX1_search 78 = .ok (.iload_n 3, 1) := by decide +kernel
theorem dX1_search_79 : decode cX1_search 79 = .ok (.iastore, 1) := by decide +kernel
theorem dX1_search_80 : decode cX1_search 80 = .ok (.aload_n 0, 1) := by decide +kernel
theorem dX1_search_81 : decode cX1_search 81 = .ok (.dup, 1) := by decide +kernel
theorem dX1_search_82 : decode cX1_search 82 = .ok (.getfield 120, 3) := by decide +kernel
theorem dX1_search_85 : decode cX1_search 85 = .ok (.iconst 1, 1) := by decide +kernel
theorem dX1_search_86 : decode cX1_search 86 = .ok (.iadd, 1) := by decide +kernel
theorem dX1_search_87 : decode cX1_search 87 = .ok (.putfield 120, 3) := by decide +kernel
theorem dX1_search_90 : decode cX1_search 90 = .ok (.iinc 3 1, 3) := by decide +kernel
theorem dX1_search_93 : decode cX1_search 93 = .ok (.goto (-86), 3) := by decide +kernel
theorem dX1_search_96 : decode cX1_search 96 = .ok (.return_, 1) := by decide +kernel
theorem dX1_hasName_0 : decode cX1_hasName 0 = .ok (.iconst 0, 1) := by decide +kernel
theorem dX1_hasName_1 : decode cX1_hasName 1 = .ok (.istore_n 3, 1) := by decide +kernel
theorem dX1_hasName_2 : decode cX1_hasName 2 = .ok (.iload_n 3, 1) := by decide +kernel
theorem dX1_hasName_3 : decode cX1_hasName 3 = .ok (.aload_n 2, 1) := by decide +kernel
theorem dX1_hasName_4 : decode cX1_hasName 4 = .ok (.getfield 130, 3) := by decide +kernel
theorem dX1_hasName_7 : decode cX1_hasName 7 = .ok (.if_icmp .ge 37, 3) := by decide +kernel
theorem dX1_hasName_10 : decode cX1_hasName 10 = .ok (.aload_n 2, 1) := by decide +kernel
theorem dX1_hasName_11 : decode cX1_hasName 11 = .ok (.getfield 133, 3) := by decide +kernel
theorem dX1_hasName_14 : decode cX1_hasName 14 = .ok (.iload_n 3, 1) := by decide +kernel
theorem dX1_hasName_15 : decode cX1_hasName 15 = .ok (.aaload, 1) := by decide +kernel
theorem dX1_hasName_16 : decode cX1_hasName 16 = .ok (.getfield 137, 3) := by decide +kernel
theorem dX1_hasName_19 : decode cX1_hasName 19 = .ok (.iconst 2, 1) := by decide +kernel
theorem dX1_hasName_20 : decode cX1_hasName 20 = .ok (.if_icmp .ne 18, 3) := by decide +kernel
theorem dX1_hasName_23 : decode cX1_hasName 23 = .ok (.aload_n 0, 1) := by decide +kernel
theorem dX1_hasName_24 : decode cX1_hasName 24 = .ok (.aload_n 1, 1) := by decide +kernel
theorem dX1_hasName_25 : decode cX1_hasName 25 = .ok (.getfield 142, 3) := by decide +kernel
theorem dX1_hasName_28 : decode cX1_hasName 28 = .ok (.iload_n 3, 1) := by decide +kernel
theorem dX1_hasName_29 : decode cX1_hasName 29 = .ok (.laload, 1) := by decide +kernel
theorem dX1_hasName_30 : decode cX1_hasName 30 = .ok (.invokevirtual 113, 3) := by decide +kernel
theorem dX1_hasName_33 : decode cX1_hasName 33 = .ok (.ifCond .eq 5, 3) := by decide +kernel
theorem dX1_hasName_36 : decode cX1_hasName 36 = .ok (.iconst 1, 1) := by decide +kernel
theorem dX1_hasName_37 : decode cX1_hasName 37 = .ok (.ireturn, 1) := by decide +kernel
theorem dX1_hasName_38 : decode cX1_hasName 38 = .ok (.iinc 3 1, 3) := by decide +kernel
theorem dX1_hasName_41 : decode cX1_hasName 41 = .ok (.goto (-39), 3) := by decide +kernel
theorem dX1_hasName_44 : decode cX1_hasName 44 = .ok (.iconst 0, 1) := by decide +kernel
theorem dX1_hasName_45 : decode cX1_hasName 45 = .ok (.ireturn, 1) := by decide +kernel
theorem dX1_isStruck_0 : decode cX1_isStruck 0 = .ok (.iconst 0, 1) := by decide +kernel
theorem dX1_isStruck_1 : decode cX1_isStruck 1 = .ok (.istore 4, 2) := by decide +kernel
theorem dX1_isStruck_3 : decode cX1_isStruck 3 = .ok (.iload 4, 2) := by decide +kernel
theorem dX1_isStruck_5 : decode cX1_isStruck 5 = .ok (.aload_n 0, 1) := by decide +kernel
theorem dX1_isStruck_6 : decode cX1_isStruck 6 = .ok (.getfield 26, 3) := by decide +kernel
theorem dX1_isStruck_9 : decode cX1_isStruck 9 = .ok (.if_icmp .ge 40, 3) := by decide +kernel
theorem dX1_isStruck_12 : decode cX1_isStruck 12 = .ok (.aload_n 0, 1) := by decide +kernel
theorem dX1_isStruck_13 : decode cX1_isStruck 13 = .ok (.getfield 11, 3) := by decide +kernel
theorem dX1_isStruck_16 : decode cX1_isStruck 16 = .ok (.iload 4, 2) := by decide +kernel
theorem dX1_isStruck_18 : decode cX1_isStruck 18 = .ok (.aaload, 1) := by decide +kernel
theorem dX1_isStruck_19 : decode cX1_isStruck 19 = .ok (.getfield 145, 3) := by decide +kernel
theorem dX1_isStruck_22 : decode cX1_isStruck 22 = .ok (.lload_n 1, 1) := by decide +kernel
theorem dX1_isStruck_23 : decode cX1_isStruck 23 = .ok (.lcmp, 1) := by decide +kernel
theorem dX1_isStruck_24 : decode cX1_isStruck 24 = .ok (.ifCond .ne 19, 3) := by decide +kernel
theorem dX1_isStruck_27 : decode cX1_isStruck 27 = .ok (.aload_n 0, 1) := by decide +kernel
theorem dX1_isStruck_28 : decode cX1_isStruck 28 = .ok (.getfield 11, 3) := by decide +kernel
theorem dX1_isStruck_31 : decode cX1_isStruck 31 = .ok (.iload 4, 2) := by decide +kernel
theorem dX1_isStruck_33 : decode cX1_isStruck 33 = .ok (.aaload, 1) := by decide +kernel
theorem dX1_isStruck_34 : decode cX1_isStruck 34 = .ok (.iload_n 3, 1) := by decide +kernel
theorem dX1_isStruck_35 : decode cX1_isStruck 35 = .ok (.invokevirtual 75, 3) := by decide +kernel
theorem dX1_isStruck_38 : decode cX1_isStruck 38 = .ok (.ifCond .eq 5, 3) := by decide +kernel
theorem dX1_isStruck_41 : decode cX1_isStruck 41 = .ok (.iconst 1, 1) := by decide +kernel
theorem dX1_isStruck_42 : decode cX1_isStruck 42 = .ok (.ireturn, 1) := by decide +kernel
theorem dX1_isStruck_43 : decode cX1_isStruck 43 = .ok (.iinc 4 1, 3) := by decide +kernel
theorem dX1_isStruck_46 : decode cX1_isStruck 46 = .ok (.goto (-43), 3) := by decide +kernel
theorem dX1_isStruck_49 : decode cX1_isStruck 49 = .ok (.iconst 0, 1) := by decide +kernel
theorem dX1_isStruck_50 : decode cX1_isStruck 50 = .ok (.ireturn, 1) := by decide +kernel
theorem dX2_init_0 : decode cX2_init 0 = .ok (.aload_n 0, 1) := by decide +kernel
theorem dX2_init_1 : decode cX2_init 1 = .ok (.invokespecial 3, 3) := by decide +kernel
theorem dX2_init_4 : decode cX2_init 4 = .ok (.aload_n 0, 1) := by decide +kernel
theorem dX2_init_5 : decode cX2_init 5 = .ok (.sipush 157, 3) := by decide +kernel
theorem dX2_init_8 : decode cX2_init 8 = .ok (.newarray .long, 2) := by decide +kernel
theorem dX2_init_10 : decode cX2_init 10 = .ok (.putfield 9, 3) := by decide +kernel
theorem dX2_init_13 : decode cX2_init 13 = .ok (.return_, 1) := by decide +kernel
theorem dX2_isFeast_0 : decode cX2_isFeast 0 = .ok (.iload_n 1, 1) := by decide +kernel
theorem dX2_isFeast_1 : decode cX2_isFeast 1 = .ok (.bipush 6, 2) := by decide +kernel
theorem dX2_isFeast_3 : decode cX2_isFeast 3 = .ok (.ishr, 1) := by decide +kernel
theorem dX2_isFeast_4 : decode cX2_isFeast 4 = .ok (.istore_n 2, 1) := by decide +kernel
theorem dX2_isFeast_5 : decode cX2_isFeast 5 = .ok (.iload_n 2, 1) := by decide +kernel
theorem dX2_isFeast_6 : decode cX2_isFeast 6 = .ok (.ifCond .lt 34, 3) := by decide +kernel
theorem dX2_isFeast_9 : decode cX2_isFeast 9 = .ok (.iload_n 2, 1) := by decide +kernel
theorem dX2_isFeast_10 : decode cX2_isFeast 10 = .ok (.aload_n 0, 1) := by decide +kernel
theorem dX2_isFeast_11 : decode cX2_isFeast 11 = .ok (.getfield 9, 3) := by decide +kernel
theorem dX2_isFeast_14 : decode cX2_isFeast 14 = .ok (.arraylength, 1) := by decide +kernel
theorem dX2_isFeast_15 : decode cX2_isFeast 15 = .ok (.if_icmp .ge 25, 3) := by decide +kernel
theorem dX2_isFeast_18 : decode cX2_isFeast 18 = .ok (.aload_n 0, 1) := by decide +kernel
theorem dX2_isFeast_19 : decode cX2_isFeast 19 = .ok (.getfield 9, 3) := by decide +kernel
theorem dX2_isFeast_22 : decode cX2_isFeast 22 = .ok (.iload_n 2, 1) := by decide +kernel
theorem dX2_isFeast_23 : decode cX2_isFeast 23 = .ok (.laload, 1) := by decide +kernel
theorem dX2_isFeast_24 : decode cX2_isFeast 24 = .ok (.iload_n 1, 1) := by decide +kernel
theorem dX2_isFeast_25 : decode cX2_isFeast 25 = .ok (.bipush 63, 2) := by decide +kernel
theorem dX2_isFeast_27 : decode cX2_isFeast 27 = .ok (.iand, 1) := by decide +kernel
theorem dX2_isFeast_28 : decode cX2_isFeast 28 = .ok (.lushr, 1) := by decide +kernel
theorem dX2_isFeast_29 : decode cX2_isFeast 29 = .ok (.lconst 1, 1) := by decide +kernel
theorem dX2_isFeast_30 : decode cX2_isFeast 30 = .ok (.land, 1) := by decide +kernel
theorem dX2_isFeast_31 : decode cX2_isFeast 31 = .ok (.lconst 0, 1) := by decide +kernel
theorem dX2_isFeast_32 : decode cX2_isFeast 32 = .ok (.lcmp, 1) := by decide +kernel
theorem dX2_isFeast_33 : decode cX2_isFeast 33 = .ok (.ifCond .eq 7, 3) := by decide +kernel
theorem dX2_isFeast_36 : decode cX2_isFeast 36 = .ok (.iconst 1, 1) := by decide +kernel
theorem dX2_isFeast_37 : decode cX2_isFeast 37 = .ok (.goto 4, 3) := by decide +kernel
theorem dX2_isFeast_40 : decode cX2_isFeast 40 = .ok (.iconst 0, 1) := by decide +kernel
theorem dX2_isFeast_41 : decode cX2_isFeast 41 = .ok (.ireturn, 1) := by decide +kernel
theorem dX2_setFeast_0 : decode cX2_setFeast 0 = .ok (.iload_n 1, 1) := by decide +kernel
theorem dX2_setFeast_1 : decode cX2_setFeast 1 = .ok (.invokestatic 15, 3) := by decide +kernel
theorem dX2_setFeast_4 : decode cX2_setFeast 4 = .ok (.ifCond .eq 12, 3) := by decide +kernel
theorem dX2_setFeast_7 : decode cX2_setFeast 7 = .ok (.aload_n 0, 1) := by decide +kernel
theorem dX2_setFeast_8 : decode cX2_setFeast 8 = .ok (.iload_n 1, 1) := by decide +kernel
theorem dX2_setFeast_9 : decode cX2_setFeast 9 = .ok (.invokevirtual 19, 3) := by decide +kernel
theorem dX2_setFeast_12 : decode cX2_setFeast 12 = .ok (.iload_n 2, 1) := by decide +kernel
theorem dX2_setFeast_13 : decode cX2_setFeast 13 = .ok (.if_icmp .ne 4, 3) := by decide +kernel
theorem dX2_setFeast_16 : decode cX2_setFeast 16 = .ok (.return_, 1) := by decide +kernel
theorem dX2_setFeast_17 : decode cX2_setFeast 17 = .ok (.aload_n 0, 1) := by decide +kernel
theorem dX2_setFeast_18 : decode cX2_setFeast 18 = .ok (.getfield 9, 3) := by decide +kernel
theorem dX2_setFeast_21 : decode cX2_setFeast 21 = .ok (.iload_n 1, 1) := by decide +kernel
theorem dX2_setFeast_22 : decode cX2_setFeast 22 = .ok (.bipush 6, 2) := by decide +kernel
theorem dX2_setFeast_24 : decode cX2_setFeast 24 = .ok (.ishr, 1) := by decide +kernel
theorem dX2_setFeast_25 : decode cX2_setFeast 25 = .ok (.dup2, 1) := by decide +kernel
theorem dX2_setFeast_26 : decode cX2_setFeast 26 = .ok (.laload, 1) := by decide +kernel
theorem dX2_setFeast_27 : decode cX2_setFeast 27 = .ok (.lconst 1, 1) := by decide +kernel
theorem dX2_setFeast_28 : decode cX2_setFeast 28 = .ok (.iload_n 1, 1) := by decide +kernel
theorem dX2_setFeast_29 : decode cX2_setFeast 29 = .ok (.bipush 63, 2) := by decide +kernel
theorem dX2_setFeast_31 : decode cX2_setFeast 31 = .ok (.iand, 1) := by decide +kernel
theorem dX2_setFeast_32 : decode cX2_setFeast 32 = .ok (.lshl, 1) := by decide +kernel
theorem dX2_setFeast_33 : decode cX2_setFeast 33 = .ok (.lxor, 1) := by decide +kernel
theorem dX2_setFeast_34 : decode cX2_setFeast 34 = .ok (.lastore, 1) := by decide +kernel
theorem dX2_setFeast_35 : decode cX2_setFeast 35 = .ok (.aload_n 0, 1) := by decide +kernel
theorem dX2_setFeast_36 : decode cX2_setFeast 36 = .ok (.dup, 1) := by decide +kernel
theorem dX2_setFeast_37 : decode cX2_setFeast 37 = .ok (.getfield 22, 3) := by decide +kernel
theorem dX2_setFeast_40 : decode cX2_setFeast 40 = .ok (.iload_n 2, 1) := by decide +kernel
theorem dX2_setFeast_41 : decode cX2_setFeast 41 = .ok (.ifCond .eq 7, 3) := by decide +kernel
theorem dX2_setFeast_44 : decode cX2_setFeast 44 = .ok (.iconst 1, 1) := by decide +kernel
theorem dX2_setFeast_45 : decode cX2_setFeast 45 = .ok (.goto 4, 3) := by decide +kernel
theorem dX2_setFeast_48 : decode cX2_setFeast 48 = .ok (.iconst (-1), 1) := by decide +kernel
theorem dX2_setFeast_49 : decode cX2_setFeast 49 = .ok (.iadd, 1) := by decide +kernel
theorem dX2_setFeast_50 : decode cX2_setFeast 50 = .ok (.putfield 22, 3) := by decide +kernel
theorem dX2_setFeast_53 : decode cX2_setFeast 53 = .ok (.return_, 1) := by decide +kernel
theorem dX2_isWorking_0 : decode cX2_isWorking 0 = .ok (.iload_n 1, 1) := by decide +kernel
theorem dX2_isWorking_1 : decode cX2_isWorking 1 = .ok (.bipush 7, 2) := by decide +kernel
theorem dX2_isWorking_3 : decode cX2_isWorking 3 = .ok (.irem, 1) := by decide +kernel
theorem dX2_isWorking_4 : decode cX2_isWorking 4 = .ok (.iconst 5, 1) := by decide +kernel
theorem dX2_isWorking_5 : decode cX2_isWorking 5 = .ok (.if_icmp .ge 15, 3) := by decide +kernel
theorem dX2_isWorking_8 : decode cX2_isWorking 8 = .ok (.aload_n 0, 1) := by decide +kernel
theorem dX2_isWorking_9 : decode cX2_isWorking 9 = .ok (.iload_n 1, 1) := by decide +kernel
theorem dX2_isWorking_10 : decode cX2_isWorking 10 = .ok (.invokevirtual 19, 3) := by decide +kernel
theorem dX2_isWorking_13 : decode cX2_isWorking 13 = .ok (.ifCond .ne 7, 3) := by decide +kernel
theorem dX2_isWorking_16 : decode cX2_isWorking 16 = .ok (.iconst 1, 1) := by decide +kernel
theorem dX2_isWorking_17 : decode cX2_isWorking 17 = .ok (.goto 4, 3) := by decide +kernel
theorem dX2_isWorking_20 : decode cX2_isWorking 20 = .ok (.iconst 0, 1) := by decide +kernel
theorem dX2_isWorking_21 : decode cX2_isWorking 21 = .ok (.ireturn, 1) := by decide +kernel
theorem dX2_behind_0 : decode cX2_behind 0 = .ok (.iload_n 3, 1) := by decide +kernel
theorem dX2_behind_1 : decode cX2_behind 1 = .ok (.ifCond .ne 17, 3) := by decide +kernel
theorem dX2_behind_4 : decode cX2_behind 4 = .ok (.aload_n 0, 1) := by decide +kernel
theorem dX2_behind_5 : decode cX2_behind 5 = .ok (.iload_n 1, 1) := by decide +kernel
theorem dX2_behind_6 : decode cX2_behind 6 = .ok (.iload_n 2, 1) := by decide +kernel
theorem dX2_behind_7 : decode cX2_behind 7 = .ok (.iadd, 1) := by decide +kernel
theorem dX2_behind_8 : decode cX2_behind 8 = .ok (.sipush 10000, 3) := by decide +kernel
theorem dX2_behind_11 : decode cX2_behind 11 = .ok (.invokestatic 26, 3) := by decide +kernel
theorem dX2_behind_14 : decode cX2_behind 14 = .ok (.invokevirtual 32, 3) := by decide +kernel
theorem dX2_behind_17 : decode cX2_behind 17 = .ok (.ireturn, 1) := by decide +kernel
theorem dX2_behind_18 : decode cX2_behind 18 = .ok (.iload_n 1, 1) := by decide +kernel
theorem dX2_behind_19 : decode cX2_behind 19 = .ok (.istore 4, 2) := by decide +kernel
theorem dX2_behind_21 : decode cX2_behind 21 = .ok (.iload_n 2, 1) := by decide +kernel
theorem dX2_behind_22 : decode cX2_behind 22 = .ok (.istore 5, 2) := by decide +kernel
theorem dX2_behind_24 : decode cX2_behind 24 = .ok (.iload 5, 2) := by decide +kernel
theorem dX2_behind_26 : decode cX2_behind 26 = .ok (.ifCond .le 27, 3) := by decide +kernel
theorem dX2_behind_29 : decode cX2_behind 29 = .ok (.iload 4, 2) := by decide +kernel
theorem dX2_behind_31 : decode cX2_behind 31 = .ok (.sipush 10000, 3) := by decide +kernel
theorem dX2_behind_34 : decode cX2_behind 34 = .ok (.if_icmp .ge 19, 3) := by decide +kernel
theorem dX2_behind_37 : decode cX2_behind 37 = .ok (.aload_n 0, 1) := by decide +kernel
theorem dX2_behind_38 : decode cX2_behind 38 = .ok (.iload 4, 2) := by decide +kernel
theorem dX2_behind_40 : decode cX2_behind 40 = .ok (.iconst 1, 1) := by decide +kernel
theorem dX2_behind_41 : decode cX2_behind 41 = .ok (.iadd, 1) := by decide +kernel
theorem dX2_behind_42 : decode cX2_behind 42 = .ok (.invokevirtual 32, 3) := by decide +kernel
theorem dX2_behind_45 : decode cX2_behind 45 = .ok (.istore 4, 2) := by decide +kernel
theorem dX2_behind_47 : decode cX2_behind 47 = .ok (.iinc 5 (-1), 3) := by decide +kernel
theorem dX2_behind_50 : decode cX2_behind 50 = .ok (.goto (-26), 3) := by decide +kernel
theorem dX2_behind_53 : decode cX2_behind 53 = .ok (.iload 4, 2) := by decide +kernel
theorem dX2_behind_55 : decode cX2_behind 55 = .ok (.ireturn, 1) := by decide +kernel
theorem dX2_workingFrom_0 : decode cX2_workingFrom 0 = .ok (.iload_n 1, 1) := by decide +kernel
theorem dX2_workingFrom_1 : decode cX2_workingFrom 1 = .ok (.istore_n 2, 1) := by decide +kernel
theorem dX2_workingFrom_2 : decode cX2_workingFrom 2 = .ok (.iload_n 2, 1) := by decide +kernel
theorem dX2_workingFrom_3 : decode cX2_workingFrom 3 = .ok (.sipush 10000, 3) := by decide +kernel
theorem dX2_workingFrom_6 : decode cX2_workingFrom 6 = .ok (.if_icmp .ge 17, 3) := by decide +kernel
theorem dX2_workingFrom_9 : decode cX2_workingFrom 9 = .ok (.aload_n 0, 1) := by decide +kernel
theorem dX2_workingFrom_10 : decode cX2_workingFrom 10 = .ok (.iload_n 2, 1) := by decide +kernel
theorem dX2_workingFrom_11 : decode cX2_workingFrom 11 = .ok (.invokevirtual 36, 3) := by decide +kernel
theorem dX2_workingFrom_14 : decode cX2_workingFrom 14 = .ok (.ifCond .ne 9, 3) := by decide +kernel
theorem dX2_workingFrom_17 : decode cX2_workingFrom 17 = .ok (.iinc 2 1, 3) := by decide +kernel
theorem dX2_workingFrom_20 : decode cX2_workingFrom 20 = .ok (.goto (-18), 3) := by decide +kernel
theorem dX2_workingFrom_23 : decode cX2_workingFrom 23 = .ok (.iload_n 2, 1) := by decide +kernel
theorem dX2_workingFrom_24 : decode cX2_workingFrom 24 = .ok (.ireturn, 1) := by decide +kernel
theorem dX3_init_0 : decode cX3_init 0 = .ok (.aload_n 0, 1) := by decide +kernel
theorem dX3_init_1 : decode cX3_init 1 = .ok (.invokespecial 3, 3) := by decide +kernel
theorem dX3_init_4 : decode cX3_init 4 = .ok (.aload_n 0, 1) := by decide +kernel
theorem dX3_init_5 : decode cX3_init 5 = .ok (.iconst 4, 1) := by decide +kernel
theorem dX3_init_6 : decode cX3_init 6 = .ok (.newarray .long, 2) := by decide +kernel
theorem dX3_init_8 : decode cX3_init 8 = .ok (.putfield 9, 3) := by decide +kernel
theorem dX3_init_11 : decode cX3_init 11 = .ok (.return_, 1) := by decide +kernel
theorem dX3_begin_0 : decode cX3_begin 0 = .ok (.aload_n 0, 1) := by decide +kernel
theorem dX3_begin_1 : decode cX3_begin 1 = .ok (.lload_n 1, 1) := by decide +kernel
theorem dX3_begin_2 : decode cX3_begin 2 = .ok (.putfield 15, 3) := by decide +kernel
theorem dX3_begin_5 : decode cX3_begin 5 = .ok (.aload_n 0, 1) := by decide +kernel
theorem dX3_begin_6 : decode cX3_begin 6 = .ok (.iconst 0, 1) := by decide +kernel
theorem dX3_begin_7 : decode cX3_begin 7 = .ok (.putfield 19, 3) := by decide +kernel
theorem dX3_begin_10 : decode cX3_begin 10 = .ok (.aload_n 0, 1) := by decide +kernel
theorem dX3_begin_11 : decode cX3_begin 11 = .ok (.iconst 0, 1) := by decide +kernel
theorem dX3_begin_12 : decode cX3_begin 12 = .ok (.putfield 23, 3) := by decide +kernel
theorem dX3_begin_15 : decode cX3_begin 15 = .ok (.aload_n 0, 1) := by decide +kernel
theorem dX3_begin_16 : decode cX3_begin 16 = .ok (.iconst 0, 1) := by decide +kernel
theorem dX3_begin_17 : decode cX3_begin 17 = .ok (.putfield 27, 3) := by decide +kernel
theorem dX3_begin_20 : decode cX3_begin 20 = .ok (.aload_n 0, 1) := by decide +kernel
theorem dX3_begin_21 : decode cX3_begin 21 = .ok (.iconst 0, 1) := by decide +kernel
theorem dX3_begin_22 : decode cX3_begin 22 = .ok (.putfield 30, 3) := by decide +kernel
theorem dX3_begin_25 : decode cX3_begin 25 = .ok (.aload_n 0, 1) := by decide +kernel
theorem dX3_begin_26 : decode cX3_begin 26 = .ok (.iconst 0, 1) := by decide +kernel
theorem dX3_begin_27 : decode cX3_begin 27 = .ok (.putfield 33, 3) := by decide +kernel
theorem dX3_begin_30 : decode cX3_begin 30 = .ok (.return_, 1) := by decide +kernel
theorem dX3_isSpan_0 : decode cX3_isSpan 0 = .ok (.aload_n 0, 1) := by decide +kernel
theorem dX3_isSpan_1 : decode cX3_isSpan 1 = .ok (.getfield 19, 3) := by decide +kernel
theorem dX3_isSpan_4 : decode cX3_isSpan 4 = .ok (.iconst 4, 1) := by decide +kernel
theorem dX3_isSpan_5 : decode cX3_isSpan 5 = .ok (.if_icmp .eq 11, 3) := by decide +kernel
theorem dX3_isSpan_8 : decode cX3_isSpan 8 = .ok (.aload_n 0, 1) := by decide +kernel
theorem dX3_isSpan_9 : decode cX3_isSpan 9 = .ok (.getfield 19, 3) := by decide +kernel
theorem dX3_isSpan_12 : decode cX3_isSpan 12 = .ok (.iconst 5, 1) := by decide +kernel
theorem dX3_isSpan_13 : decode cX3_isSpan 13 = .ok (.if_icmp .ne 7, 3) := by decide +kernel
theorem dX3_isSpan_16 : decode cX3_isSpan 16 = .ok (.iconst 1, 1) := by decide +kernel
theorem dX3_isSpan_17 : decode cX3_isSpan 17 = .ok (.goto 4, 3) := by decide +kernel
theorem dX3_isSpan_20 : decode cX3_isSpan 20 = .ok (.iconst 0, 1) := by decide +kernel
theorem dX3_isSpan_21 : decode cX3_isSpan 21 = .ok (.ireturn, 1) := by decide +kernel
theorem dX3_hasDay_0 : decode cX3_hasDay 0 = .ok (.aload_n 0, 1) := by decide +kernel
theorem dX3_hasDay_1 : decode cX3_hasDay 1 = .ok (.getfield 19, 3) := by decide +kernel
theorem dX3_hasDay_4 : decode cX3_hasDay 4 = .ok (.iconst 1, 1) := by decide +kernel
theorem dX3_hasDay_5 : decode cX3_hasDay 5 = .ok (.if_icmp .eq 10, 3) := by decide +kernel
theorem dX3_hasDay_8 : decode cX3_hasDay 8 = .ok (.aload_n 0, 1) := by decide +kernel
theorem dX3_hasDay_9 : decode cX3_hasDay 9 = .ok (.invokevirtual 36, 3) := by decide +kernel
theorem dX3_hasDay_12 : decode cX3_hasDay 12 = .ok (.ifCond .eq 7, 3) := by decide +kernel
theorem dX3_hasDay_15 : decode cX3_hasDay 15 = .ok (.iconst 1, 1) := by decide +kernel
theorem dX3_hasDay_16 : decode cX3_hasDay 16 = .ok (.goto 4, 3) := by decide +kernel
theorem dX3_hasDay_19 : decode cX3_hasDay 19 = .ok (.iconst 0, 1) := by decide +kernel
theorem dX3_hasDay_20 : decode cX3_hasDay 20 = .ok (.ireturn, 1) := by decide +kernel
theorem dX3_placeOf_0 : decode cX3_placeOf 0 = .ok (.iconst 0, 1) := by decide +kernel
theorem dX3_placeOf_1 : decode cX3_placeOf 1 = .ok (.istore_n 3, 1) := by decide +kernel
theorem dX3_placeOf_2 : decode cX3_placeOf 2 = .ok (.iload_n 3, 1) := by decide +kernel
theorem dX3_placeOf_3 : decode cX3_placeOf 3 = .ok (.aload_n 0, 1) := by decide +kernel
theorem dX3_placeOf_4 : decode cX3_placeOf 4 = .ok (.getfield 33, 3) := by decide +kernel
theorem dX3_placeOf_7 : decode cX3_placeOf 7 = .ok (.if_icmp .ge 22, 3) := by decide +kernel
theorem dX3_placeOf_10 : decode cX3_placeOf 10 = .ok (.aload_n 0, 1) := by decide +kernel
theorem dX3_placeOf_11 : decode cX3_placeOf 11 = .ok (.getfield 9, 3) := by decide +kernel
theorem dX3_placeOf_14 : decode cX3_placeOf 14 = .ok (.iload_n 3, 1) := by decide +kernel
theorem dX3_placeOf_15 : decode cX3_placeOf 15 = .ok (.laload, 1) := by decide +kernel
theorem dX3_placeOf_16 : decode cX3_placeOf 16 = .ok (.lload_n 1, 1) := by decide +kernel
theorem dX3_placeOf_17 : decode cX3_placeOf 17 = .ok (.lcmp, 1) := by decide +kernel
theorem dX3_placeOf_18 : decode cX3_placeOf 18 = .ok (.ifCond .ne 5, 3) := by decide +kernel
theorem dX3_placeOf_21 : decode cX3_placeOf 21 = .ok (.iload_n 3, 1) := by decide +kernel
theorem dX3_placeOf_22 : decode cX3_placeOf 22 = .ok (.ireturn, 1) := by decide +kernel
theorem dX3_placeOf_23 : decode cX3_placeOf 23 = .ok (.iinc 3 1, 3) := by decide +kernel
theorem dX3_placeOf_26 : decode cX3_placeOf 26 = .ok (.goto (-24), 3) := by decide +kernel
theorem dX3_placeOf_29 : decode cX3_placeOf 29 = .ok (.iconst (-1), 1) := by decide +kernel
theorem dX3_placeOf_30 : decode cX3_placeOf 30 = .ok (.ireturn, 1) := by decide +kernel
theorem dX3_readLimits_0 : decode cX3_readLimits 0 = .ok (.aload_n 0, 1) := by decide +kernel
theorem dX3_readLimits_1 : decode cX3_readLimits 1 = .ok (.aload_n 1, 1) := by decide +kernel
theorem dX3_readLimits_2 : decode cX3_readLimits 2 = .ok (.getfield 40, 3) := by decide +kernel
theorem dX3_readLimits_5 : decode cX3_readLimits 5 = .ok (.putfield 27, 3) := by decide +kernel
theorem dX3_readLimits_8 : decode cX3_readLimits 8 = .ok (.aload_n 1, 1) := by decide +kernel
theorem dX3_readLimits_9 : decode cX3_readLimits 9 = .ok (.iconst 2, 1) := by decide +kernel
theorem dX3_readLimits_10 : decode cX3_readLimits 10 = .ok (.invokevirtual 45, 3) := by decide +kernel
theorem dX3_readLimits_13 : decode cX3_readLimits 13 = .ok (.ifCond .eq 11, 3) := by decide +kernel
theorem dX3_readLimits_16 : decode cX3_readLimits 16 = .ok (.aload_n 1, 1) := by decide +kernel
theorem dX3_readLimits_17 : decode cX3_readLimits 17 = .ok (.iconst 3, 1) := by decide +kernel
theorem dX3_readLimits_18 : decode cX3_readLimits 18 = .ok (.invokevirtual 45, 3) := by decide +kernel
theorem dX3_readLimits_21 : decode cX3_readLimits 21 = .ok (.ifCond .ne 5, 3) := by decide +kernel
theorem dX3_readLimits_24 : decode cX3_readLimits 24 = .ok (.iconst 0, 1) := by decide +kernel
theorem dX3_readLimits_25 : decode cX3_readLimits 25 = .ok (.ireturn, 1) := by decide +kernel
theorem dX3_readLimits_26 : decode cX3_readLimits 26 = .ok (.aload_n 0, 1) := by decide +kernel
theorem dX3_readLimits_27 : decode cX3_readLimits 27 = .ok (.aload_n 1, 1) := by decide +kernel
theorem dX3_readLimits_28 : decode cX3_readLimits 28 = .ok (.getfield 40, 3) := by decide +kernel
theorem dX3_readLimits_31 : decode cX3_readLimits 31 = .ok (.putfield 30, 3) := by decide +kernel
theorem dX3_readLimits_34 : decode cX3_readLimits 34 = .ok (.aload_n 1, 1) := by decide +kernel
theorem dX3_readLimits_35 : decode cX3_readLimits 35 = .ok (.getfield 49, 3) := by decide +kernel
theorem dX3_readLimits_38 : decode cX3_readLimits 38 = .ok (.iconst 2, 1) := by decide +kernel
theorem dX3_readLimits_39 : decode cX3_readLimits 39 = .ok (.if_icmp .ne 20, 3) := by decide +kernel
theorem dX3_readLimits_42 : decode cX3_readLimits 42 = .ok (.aload_n 0, 1) := by decide +kernel
theorem dX3_readLimits_43 : decode cX3_readLimits 43 = .ok (.getfield 30, 3) := by decide +kernel
theorem dX3_readLimits_46 : decode cX3_readLimits 46 = .ok (.aload_n 0, 1) := by decide +kernel
theorem dX3_readLimits_47 : decode cX3_readLimits 47 = .ok (.getfield 27, 3) := by decide +kernel
theorem dX3_readLimits_50 : decode cX3_readLimits 50 = .ok (.if_icmp .ge 9, 3) := by decide +kernel
theorem dX3_readLimits_53 : decode cX3_readLimits 53 = .ok (.aload_n 1, 1) := by decide +kernel
theorem dX3_readLimits_54 : decode cX3_readLimits 54 = .ok (.iconst 4, 1) := by decide +kernel
theorem dX3_readLimits_55 : decode cX3_readLimits 55 = .ok (.invokevirtual 50, 3) := by decide +kernel
theorem dX3_readLimits_58 : decode cX3_readLimits 58 = .ok (.ireturn, 1) := by decide +kernel
theorem dX3_readLimits_59 : decode cX3_readLimits 59 = .ok (.aload_n 1, 1) := by decide +kernel
theorem dX3_readLimits_60 : decode cX3_readLimits 60 = .ok (.iconst 2, 1) := by decide +kernel
theorem dX3_readLimits_61 : decode cX3_readLimits 61 = .ok (.invokevirtual 45, 3) := by decide +kernel
theorem dX3_readLimits_64 : decode cX3_readLimits 64 = .ok (.ireturn, 1) := by decide +kernel
theorem dX3_readWords_0 : decode cX3_readWords 0 = .ok (.iconst 0, 1) := by decide +kernel
theorem dX3_readWords_1 : decode cX3_readWords 1 = .ok (.istore_n 2, 1) := by decide +kernel
theorem dX3_readWords_2 : decode cX3_readWords 2 = .ok (.iload_n 2, 1) := by decide +kernel
theorem dX3_readWords_3 : decode cX3_readWords 3 = .ok (.iconst 4, 1) := by decide +kernel
theorem dX3_readWords_4 : decode cX3_readWords 4 = .ok (.if_icmp .gt 34, 3) := by decide +kernel
theorem dX3_readWords_7 : decode cX3_readWords 7 = .ok (.aload_n 0, 1) := by decide +kernel
theorem dX3_readWords_8 : decode cX3_readWords 8 = .ok (.aload_n 1, 1) := by decide +kernel
theorem dX3_readWords_9 : decode cX3_readWords 9 = .ok (.invokevirtual 53, 3) := by decide +kernel
theorem dX3_readWords_12 : decode cX3_readWords 12 = .ok (.ifCond .ne 5, 3) := by decide +kernel
theorem dX3_readWords_15 : decode cX3_readWords 15 = .ok (.iconst 0, 1) := by decide +kernel
theorem dX3_readWords_16 : decode cX3_readWords 16 = .ok (.ireturn, 1) := by decide +kernel
theorem dX3_readWords_17 : decode cX3_readWords 17 = .ok (.aload_n 1, 1) := by decide +kernel
theorem dX3_readWords_18 : decode cX3_readWords 18 = .ok (.getfield 49, 3) := by decide +kernel
theorem dX3_readWords_21 : decode cX3_readWords 21 = .ok (.bipush 47, 2) := by decide +kernel
theorem dX3_readWords_23 : decode cX3_readWords 23 = .ok (.if_icmp .eq 5, 3) := by decide +kernel
theorem dX3_readWords_26 : decode cX3_readWords 26 = .ok (.iconst 1, 1) := by decide +kernel
theorem dX3_readWords_27 : decode cX3_readWords 27 = .ok (.ireturn, 1) := by decide +kernel
theorem dX3_readWords_28 : decode cX3_readWords 28 = .ok (.aload_n 1, 1) := by decide +kernel
theorem dX3_readWords_29 : decode cX3_readWords 29 = .ok (.invokevirtual 57, 3) := by decide +kernel
theorem dX3_readWords_32 : decode cX3_readWords 32 = .ok (.iinc 2 1, 3) := by decide +kernel
theorem dX3_readWords_35 : decode cX3_readWords 35 = .ok (.goto (-33), 3) := by decide +kernel
theorem dX3_readWords_38 : decode cX3_readWords 38 = .ok (.iconst 0, 1) := by decide +kernel
theorem dX3_readWords_39 : decode cX3_readWords 39 = .ok (.ireturn, 1) := by decide +kernel
theorem dX3_readOneWord_0 : decode cX3_readOneWord 0 = .ok (.aload_n 1, 1) := by decide +kernel
theorem dX3_readOneWord_1 : decode cX3_readOneWord 1 = .ok (.getfield 49, 3) := by decide +kernel
theorem dX3_readOneWord_4 : decode cX3_readOneWord 4 = .ok (.iconst 1, 1) := by decide +kernel
theorem dX3_readOneWord_5 : decode cX3_readOneWord 5 = .ok (.if_icmp .eq 9, 3) := by decide +kernel
theorem dX3_readOneWord_8 : decode cX3_readOneWord 8 = .ok (.aload_n 1, 1) := by decide +kernel
theorem dX3_readOneWord_9 : decode cX3_readOneWord 9 = .ok (.iconst 1, 1) := by decide +kernel
theorem dX3_readOneWord_10 : decode cX3_readOneWord 10 = .ok (.invokevirtual 50, 3) := by decide +kernel
theorem dX3_readOneWord_13 : decode cX3_readOneWord 13 = .ok (.ireturn, 1) := by decide +kernel
theorem dX3_readOneWord_14 : decode cX3_readOneWord 14 = .ok (.aload_n 0, 1) := by decide +kernel
theorem dX3_readOneWord_15 : decode cX3_readOneWord 15 = .ok (.aload_n 1, 1) := by decide +kernel
theorem dX3_readOneWord_16 : decode cX3_readOneWord 16 = .ok (.getfield 60, 3) := by decide +kernel
theorem dX3_readOneWord_19 : decode cX3_readOneWord 19 = .ok (.invokevirtual 63, 3) := by decide +kernel
theorem dX3_readOneWord_22 : decode cX3_readOneWord 22 = .ok (.iconst (-1), 1) := by decide +kernel
theorem dX3_readOneWord_23 : decode cX3_readOneWord 23 = .ok (.if_icmp .eq 9, 3) := by decide +kernel
theorem dX3_readOneWord_26 : decode cX3_readOneWord 26 = .ok (.aload_n 1, 1) := by decide +kernel
theorem dX3_readOneWord_27 : decode cX3_readOneWord 27 = .ok (.iconst 3, 1) := by decide +kernel
theorem dX3_readOneWord_28 : decode cX3_readOneWord 28 = .ok (.invokevirtual 50, 3) := by decide +kernel
theorem dX3_readOneWord_31 : decode cX3_readOneWord 31 = .ok (.ireturn, 1) := by decide +kernel
theorem dX3_readOneWord_32 : decode cX3_readOneWord 32 = .ok (.aload_n 0, 1) := by decide +kernel
theorem dX3_readOneWord_33 : decode cX3_readOneWord 33 = .ok (.getfield 33, 3) := by decide +kernel
theorem dX3_readOneWord_36 : decode cX3_readOneWord 36 = .ok (.iconst 4, 1) := by decide +kernel
theorem dX3_readOneWord_37 : decode cX3_readOneWord 37 = .ok (.if_icmp .lt 9, 3) := by decide +kernel
theorem dX3_readOneWord_40 : decode cX3_readOneWord 40 = .ok (.aload_n 1, 1) := by decide +kernel
theorem dX3_readOneWord_41 : decode cX3_readOneWord 41 = .ok (.iconst 5, 1) := by decide +kernel
theorem dX3_readOneWord_42 : decode cX3_readOneWord 42 = .ok (.invokevirtual 50, 3) := by decide +kernel
theorem dX3_readOneWord_45 : decode cX3_readOneWord 45 = .ok (.ireturn, 1) := by decide +kernel
theorem dX3_readOneWord_46 : decode cX3_readOneWord 46 = .ok (.aload_n 0, 1) := by decide +kernel
theorem dX3_readOneWord_47 : decode cX3_readOneWord 47 = .ok (.getfield 9, 3) := by decide +kernel
theorem dX3_readOneWord_50 : decode cX3_readOneWord 50 = .ok (.aload_n 0, 1) := by decide +kernel
theorem dX3_readOneWord_51 : decode cX3_readOneWord 51 = .ok (.getfield 33, 3) := by decide +kernel
theorem dX3_readOneWord_54 : decode cX3_readOneWord 54 = .ok (.aload_n 1, 1) := by decide +kernel
theorem dX3_readOneWord_55 : decode cX3_readOneWord 55 = .ok (.getfield 60, 3) := by decide +kernel
theorem dX3_readOneWord_58 : decode cX3_readOneWord 58 = .ok (.lastore, 1) := by decide +kernel
theorem dX3_readOneWord_59 : decode cX3_readOneWord 59 = .ok (.aload_n 0, 1) := by decide +kernel
theorem dX3_readOneWord_60 : decode cX3_readOneWord 60 = .ok (.dup, 1) := by decide +kernel
theorem dX3_readOneWord_61 : decode cX3_readOneWord 61 = .ok (.getfield 33, 3) := by decide +kernel
theorem dX3_readOneWord_64 : decode cX3_readOneWord 64 = .ok (.iconst 1, 1) := by decide +kernel
theorem dX3_readOneWord_65 : decode cX3_readOneWord 65 = .ok (.iadd, 1) := by decide +kernel
theorem dX3_readOneWord_66 : decode cX3_readOneWord 66 = .ok (.putfield 33, 3) := by decide +kernel
theorem dX3_readOneWord_69 : decode cX3_readOneWord 69 = .ok (.aload_n 1, 1) := by decide +kernel
theorem dX3_readOneWord_70 : decode cX3_readOneWord 70 = .ok (.invokevirtual 57, 3) := by decide +kernel
theorem dX3_readOneWord_73 : decode cX3_readOneWord 73 = .ok (.iconst 1, 1) := by decide +kernel
theorem dX3_readOneWord_74 : decode cX3_readOneWord 74 = .ok (.ireturn, 1) := by decide +kernel
theorem dX3_valueOf_0 : decode cX3_valueOf 0 = .ok (.aload_n 0, 1) := by decide +kernel
theorem dX3_valueOf_1 : decode cX3_valueOf 1 = .ok (.getfield 19, 3) := by decide +kernel
theorem dX3_valueOf_4 : decode cX3_valueOf 4 = .ok (.ifCond .ne 45, 3) := by decide +kernel
theorem dX3_valueOf_7 : decode cX3_valueOf 7 = .ok (.aload_n 1, 1) := by decide +kernel
theorem dX3_valueOf_8 : decode cX3_valueOf 8 = .ok (.getfield 49, 3) := by decide +kernel
theorem dX3_valueOf_11 : decode cX3_valueOf 11 = .ok (.iconst 2, 1) := by decide +kernel
theorem dX3_valueOf_12 : decode cX3_valueOf 12 = .ok (.if_icmp .ne 33, 3) := by decide +kernel
theorem dX3_valueOf_15 : decode cX3_valueOf 15 = .ok (.aload_n 1, 1) := by decide +kernel
theorem dX3_valueOf_16 : decode cX3_valueOf 16 = .ok (.getfield 40, 3) := by decide +kernel
theorem dX3_valueOf_19 : decode cX3_valueOf 19 = .ok (.aload_n 0, 1) := by decide +kernel
theorem dX3_valueOf_20 : decode cX3_valueOf 20 = .ok (.getfield 27, 3) := by decide +kernel
theorem dX3_valueOf_23 : decode cX3_valueOf 23 = .ok (.if_icmp .lt 22, 3) := by decide +kernel
theorem dX3_valueOf_26 : decode cX3_valueOf 26 = .ok (.aload_n 1, 1) := by decide +kernel
theorem dX3_valueOf_27 : decode cX3_valueOf 27 = .ok (.getfield 40, 3) := by decide +kernel
theorem dX3_valueOf_30 : decode cX3_valueOf 30 = .ok (.aload_n 0, 1) := by decide +kernel
theorem dX3_valueOf_31 : decode cX3_valueOf 31 = .ok (.getfield 30, 3) := by decide +kernel
theorem dX3_valueOf_34 : decode cX3_valueOf 34 = .ok (.if_icmp .gt 11, 3) := by decide +kernel
theorem dX3_valueOf_37 : decode cX3_valueOf 37 = .ok (.aload_n 1, 1) := by decide +kernel
theorem dX3_valueOf_38 : decode cX3_valueOf 38 = .ok (.getfield 40, 3) := by decide +kernel
theorem dX3_valueOf_41 : decode cX3_valueOf 41 = .ok (.i2l, 1) := by decide +kernel
theorem dX3_valueOf_42 : decode cX3_valueOf 42 = .ok (.goto 6, 3) := by decide +kernel
theorem dX3_valueOf_45 : decode cX3_valueOf 45 = .ok (.ldc2_w 67, 3) := by decide +kernel
theorem dX3_valueOf_48 : decode cX3_valueOf 48 = .ok (.lreturn, 1) := by decide +kernel
theorem dX3_valueOf_49 : decode cX3_valueOf 49 = .ok (.aload_n 0, 1) := by decide +kernel
theorem dX3_valueOf_50 : decode cX3_valueOf 50 = .ok (.getfield 19, 3) := by decide +kernel
theorem dX3_valueOf_53 : decode cX3_valueOf 53 = .ok (.iconst 1, 1) := by decide +kernel
theorem dX3_valueOf_54 : decode cX3_valueOf 54 = .ok (.if_icmp .ne 23, 3) := by decide +kernel
theorem dX3_valueOf_57 : decode cX3_valueOf 57 = .ok (.aload_n 1, 1) := by decide +kernel
theorem dX3_valueOf_58 : decode cX3_valueOf 58 = .ok (.getfield 49, 3) := by decide +kernel
theorem dX3_valueOf_61 : decode cX3_valueOf 61 = .ok (.iconst 2, 1) := by decide +kernel
theorem dX3_valueOf_62 : decode cX3_valueOf 62 = .ok (.if_icmp .ne 11, 3) := by decide +kernel
theorem dX3_valueOf_65 : decode cX3_valueOf 65 = .ok (.aload_n 1, 1) := by decide +kernel
theorem dX3_valueOf_66 : decode cX3_valueOf 66 = .ok (.getfield 40, 3) := by decide +kernel
theorem dX3_valueOf_69 : decode cX3_valueOf 69 = .ok (.i2l, 1) := by decide +kernel
theorem dX3_valueOf_70 : decode cX3_valueOf 70 = .ok (.goto 6, 3) := by decide +kernel
theorem dX3_valueOf_73 : decode cX3_valueOf 73 = .ok (.ldc2_w 67, 3) := by decide +kernel
theorem dX3_valueOf_76 : decode cX3_valueOf 76 = .ok (.lreturn, 1) := by decide +kernel
theorem dX3_valueOf_77 : decode cX3_valueOf 77 = .ok (.aload_n 1, 1) := by decide +kernel
theorem dX3_valueOf_78 : decode cX3_valueOf 78 = .ok (.getfield 49, 3) := by decide +kernel
theorem dX3_valueOf_81 : decode cX3_valueOf 81 = .ok (.iconst 1, 1) := by decide +kernel
theorem dX3_valueOf_82 : decode cX3_valueOf 82 = .ok (.if_icmp .eq 7, 3) := by decide +kernel
theorem dX3_valueOf_85 : decode cX3_valueOf 85 = .ok (.ldc2_w 67, 3) := by decide +kernel
theorem dX3_valueOf_88 : decode cX3_valueOf 88 = .ok (.lreturn, 1) := by decide +kernel
theorem dX3_valueOf_89 : decode cX3_valueOf 89 = .ok (.aload_n 0, 1) := by decide +kernel
theorem dX3_valueOf_90 : decode cX3_valueOf 90 = .ok (.getfield 19, 3) := by decide +kernel
theorem dX3_valueOf_93 : decode cX3_valueOf 93 = .ok (.iconst 2, 1) := by decide +kernel
theorem dX3_valueOf_94 : decode cX3_valueOf 94 = .ok (.if_icmp .ne 8, 3) := by decide +kernel
theorem dX3_valueOf_97 : decode cX3_valueOf 97 = .ok (.aload_n 1, 1) := by decide +kernel
theorem dX3_valueOf_98 : decode cX3_valueOf 98 = .ok (.getfield 60, 3) := by decide +kernel
theorem dX3_valueOf_101 : decode cX3_valueOf 101 = .ok (.lreturn, 1) := by decide +kernel
theorem dX3_valueOf_102 : decode cX3_valueOf 102 = .ok (.aload_n 0, 1) := by decide +kernel
theorem dX3_valueOf_103 : decode cX3_valueOf 103 = .ok (.getfield 19, 3) := by decide +kernel
theorem dX3_valueOf_106 : decode cX3_valueOf 106 = .ok (.iconst 3, 1) := by decide +kernel
theorem dX3_valueOf_107 : decode cX3_valueOf 107 = .ok (.if_icmp .ne 15, 3) := by decide +kernel
theorem dX3_valueOf_110 : decode cX3_valueOf 110 = .ok (.aload_n 0, 1) := by decide +kernel
theorem dX3_valueOf_111 : decode cX3_valueOf 111 = .ok (.aload_n 1, 1) := by decide +kernel
theorem dX3_valueOf_112 : decode cX3_valueOf 112 = .ok (.getfield 60, 3) := by decide +kernel
theorem dX3_valueOf_115 : decode cX3_valueOf 115 = .ok (.invokevirtual 63, 3) := by decide +kernel
theorem dX3_valueOf_118 : decode cX3_valueOf 118 = .ok (.i2l, 1) := by decide +kernel
theorem dX3_valueOf_119 : decode cX3_valueOf 119 = .ok (.goto 6, 3) := by decide +kernel
theorem dX3_valueOf_122 : decode cX3_valueOf 122 = .ok (.ldc2_w 67, 3) := by decide +kernel
theorem dX3_valueOf_125 : decode cX3_valueOf 125 = .ok (.lreturn, 1) := by decide +kernel
theorem dX4_init_0 : decode cX4_init 0 = .ok (.aload_n 0, 1) := by decide +kernel
theorem dX4_init_1 : decode cX4_init 1 = .ok (.invokespecial 3, 3) := by decide +kernel
theorem dX4_init_4 : decode cX4_init 4 = .ok (.aload_n 0, 1) := by decide +kernel
theorem dX4_init_5 : decode cX4_init 5 = .ok (.bipush 8, 2) := by decide +kernel
theorem dX4_init_7 : decode cX4_init 7 = .ok (.anewarray 9, 3) := by decide +kernel
theorem dX4_init_10 : decode cX4_init 10 = .ok (.putfield 11, 3) := by decide +kernel
theorem dX4_init_13 : decode cX4_init 13 = .ok (.iconst 0, 1) := by decide +kernel
theorem dX4_init_14 : decode cX4_init 14 = .ok (.istore_n 1, 1) := by decide +kernel
theorem dX4_init_15 : decode cX4_init 15 = .ok (.iload_n 1, 1) := by decide +kernel
theorem dX4_init_16 : decode cX4_init 16 = .ok (.aload_n 0, 1) := by decide +kernel
theorem dX4_init_17 : decode cX4_init 17 = .ok (.getfield 11, 3) := by decide +kernel
theorem dX4_init_20 : decode cX4_init 20 = .ok (.arraylength, 1) := by decide +kernel
theorem dX4_init_21 : decode cX4_init 21 = .ok (.if_icmp .ge 22, 3) := by decide +kernel
theorem dX4_init_24 : decode cX4_init 24 = .ok (.aload_n 0, 1) := by decide +kernel
theorem dX4_init_25 : decode cX4_init 25 = .ok (.getfield 11, 3) := by decide +kernel
theorem dX4_init_28 : decode cX4_init 28 = .ok (.iload_n 1, 1) := by decide +kernel
theorem dX4_init_29 : decode cX4_init 29 = .ok (.new 9, 3) := by decide +kernel
theorem dX4_init_32 : decode cX4_init 32 = .ok (.dup, 1) := by decide +kernel
theorem dX4_init_33 : decode cX4_init 33 = .ok (.invokespecial 17, 3) := by decide +kernel
theorem dX4_init_36 : decode cX4_init 36 = .ok (.aastore, 1) := by decide +kernel
theorem dX4_init_37 : decode cX4_init 37 = .ok (.iinc 1 1, 3) := by decide +kernel
theorem dX4_init_40 : decode cX4_init 40 = .ok (.goto (-25), 3) := by decide +kernel
theorem dX4_init_43 : decode cX4_init 43 = .ok (.return_, 1) := by decide +kernel
theorem dX4_placeOf_0 : decode cX4_placeOf 0 = .ok (.iconst 0, 1) := by decide +kernel
theorem dX4_placeOf_1 : decode cX4_placeOf 1 = .ok (.istore_n 3, 1) := by decide +kernel
theorem dX4_placeOf_2 : decode cX4_placeOf 2 = .ok (.iload_n 3, 1) := by decide +kernel
theorem dX4_placeOf_3 : decode cX4_placeOf 3 = .ok (.aload_n 0, 1) := by decide +kernel
theorem dX4_placeOf_4 : decode cX4_placeOf 4 = .ok (.getfield 18, 3) := by decide +kernel
theorem dX4_placeOf_7 : decode cX4_placeOf 7 = .ok (.if_icmp .ge 25, 3) := by decide +kernel
theorem dX4_placeOf_10 : decode cX4_placeOf 10 = .ok (.aload_n 0, 1) := by decide +kernel
theorem dX4_placeOf_11 : decode cX4_placeOf 11 = .ok (.getfield 11, 3) := by decide +kernel
theorem dX4_placeOf_14 : decode cX4_placeOf 14 = .ok (.iload_n 3, 1) := by decide +kernel
theorem dX4_placeOf_15 : decode cX4_placeOf 15 = .ok (.aaload, 1) := by decide +kernel
theorem dX4_placeOf_16 : decode cX4_placeOf 16 = .ok (.getfield 22, 3) := by decide +kernel
theorem dX4_placeOf_19 : decode cX4_placeOf 19 = .ok (.lload_n 1, 1) := by decide +kernel
theorem dX4_placeOf_20 : decode cX4_placeOf 20 = .ok (.lcmp, 1) := by decide +kernel
theorem dX4_placeOf_21 : decode cX4_placeOf 21 = .ok (.ifCond .ne 5, 3) := by decide +kernel
theorem dX4_placeOf_24 : decode cX4_placeOf 24 = .ok (.iload_n 3, 1) := by decide +kernel
theorem dX4_placeOf_25 : decode cX4_placeOf 25 = .ok (.ireturn, 1) := by decide +kernel
theorem dX4_placeOf_26 : decode cX4_placeOf 26 = .ok (.iinc 3 1, 3) := by decide +kernel
theorem dX4_placeOf_29 : decode cX4_placeOf 29 = .ok (.goto (-27), 3) := by decide +kernel
theorem dX4_placeOf_32 : decode cX4_placeOf 32 = .ok (.iconst (-1), 1) := by decide +kernel
theorem dX4_placeOf_33 : decode cX4_placeOf 33 = .ok (.ireturn, 1) := by decide +kernel
theorem dX4_readAll_0 : decode cX4_readAll 0 = .ok (.aload_n 0, 1) := by decide +kernel
theorem dX4_readAll_1 : decode cX4_readAll 1 = .ok (.iconst 0, 1) := by decide +kernel
theorem dX4_readAll_2 : decode cX4_readAll 2 = .ok (.putfield 18, 3) := by decide +kernel
theorem dX4_readAll_5 : decode cX4_readAll 5 = .ok (.iconst 0, 1) := by decide +kernel
theorem dX4_readAll_6 : decode cX4_readAll 6 = .ok (.istore_n 2, 1) := by decide +kernel
theorem dX4_readAll_7 : decode cX4_readAll 7 = .ok (.iload_n 2, 1) := by decide +kernel
theorem dX4_readAll_8 : decode cX4_readAll 8 = .ok (.bipush 8, 2) := by decide +kernel
theorem dX4_readAll_10 : decode cX4_readAll 10 = .ok (.if_icmp .gt 66, 3) := by decide +kernel
theorem dX4_readAll_13 : decode cX4_readAll 13 = .ok (.aload_n 0, 1) := by decide +kernel
theorem dX4_readAll_14 : decode cX4_readAll 14 = .ok (.aload_n 1, 1) := by decide +kernel
theorem dX4_readAll_15 : decode cX4_readAll 15 = .ok (.invokevirtual 26, 3) := by decide +kernel
theorem dX4_readAll_18 : decode cX4_readAll 18 = .ok (.ifCond .eq 20, 3) := by decide +kernel
theorem dX4_readAll_21 : decode cX4_readAll 21 = .ok (.aload_n 0, 1) := by decide +kernel
theorem dX4_readAll_22 : decode cX4_readAll 22 = .ok (.aload_n 1, 1) := by decide +kernel
theorem dX4_readAll_23 : decode cX4_readAll 23 = .ok (.aload_n 0, 1) := by decide +kernel
theorem dX4_readAll_24 : decode cX4_readAll 24 = .ok (.getfield 11, 3) := by decide +kernel
theorem dX4_readAll_27 : decode cX4_readAll 27 = .ok (.aload_n 0, 1) := by decide +kernel
theorem dX4_readAll_28 : decode cX4_readAll 28 = .ok (.getfield 18, 3) := by decide +kernel
theorem dX4_readAll_31 : decode cX4_readAll 31 = .ok (.aaload, 1) := by decide +kernel
theorem dX4_readAll_32 : decode cX4_readAll 32 = .ok (.invokevirtual 30, 3) := by decide +kernel
theorem dX4_readAll_35 : decode cX4_readAll 35 = .ok (.ifCond .ne 5, 3) := by decide +kernel
theorem dX4_readAll_38 : decode cX4_readAll 38 = .ok (.iconst 0, 1) := by decide +kernel
theorem dX4_readAll_39 : decode cX4_readAll 39 = .ok (.ireturn, 1) := by decide +kernel
theorem dX4_readAll_40 : decode cX4_readAll 40 = .ok (.aload_n 0, 1) := by decide +kernel
theorem dX4_readAll_41 : decode cX4_readAll 41 = .ok (.dup, 1) := by decide +kernel
theorem dX4_readAll_42 : decode cX4_readAll 42 = .ok (.getfield 18, 3) := by decide +kernel
theorem dX4_readAll_45 : decode cX4_readAll 45 = .ok (.iconst 1, 1) := by decide +kernel
theorem dX4_readAll_46 : decode cX4_readAll 46 = .ok (.iadd, 1) := by decide +kernel
theorem dX4_readAll_47 : decode cX4_readAll 47 = .ok (.putfield 18, 3) := by decide +kernel
theorem dX4_readAll_50 : decode cX4_readAll 50 = .ok (.aload_n 1, 1) := by decide +kernel
theorem dX4_readAll_51 : decode cX4_readAll 51 = .ok (.getfield 34, 3) := by decide +kernel
theorem dX4_readAll_54 : decode cX4_readAll 54 = .ok (.ifCond .ne 5, 3) := by decide +kernel
theorem dX4_readAll_57 : decode cX4_readAll 57 = .ok (.iconst 1, 1) := by decide +kernel
theorem dX4_readAll_58 : decode cX4_readAll 58 = .ok (.ireturn, 1) := by decide +kernel
theorem dX4_readAll_59 : decode cX4_readAll 59 = .ok (.aload_n 1, 1) := by decide +kernel
theorem dX4_readAll_60 : decode cX4_readAll 60 = .ok (.bipush 59, 2) := by decide +kernel
theorem dX4_readAll_62 : decode cX4_readAll 62 = .ok (.invokevirtual 39, 3) := by decide +kernel
theorem dX4_readAll_65 : decode cX4_readAll 65 = .ok (.ifCond .ne 5, 3) := by decide +kernel
theorem dX4_readAll_68 : decode cX4_readAll 68 = .ok (.iconst 0, 1) := by decide +kernel
theorem dX4_readAll_69 : decode cX4_readAll 69 = .ok (.ireturn, 1) := by decide +kernel
theorem dX4_readAll_70 : decode cX4_readAll 70 = .ok (.iinc 2 1, 3) := by decide +kernel
theorem dX4_readAll_73 : decode cX4_readAll 73 = .ok (.goto (-66), 3) := by decide +kernel
theorem dX4_readAll_76 : decode cX4_readAll 76 = .ok (.iconst 0, 1) := by decide +kernel
theorem dX4_readAll_77 : decode cX4_readAll 77 = .ok (.ireturn, 1) := by decide +kernel
theorem dX4_readName_0 : decode cX4_readName 0 = .ok (.aload_n 1, 1) := by decide +kernel
theorem dX4_readName_1 : decode cX4_readName 1 = .ok (.getfield 34, 3) := by decide +kernel
theorem dX4_readName_4 : decode cX4_readName 4 = .ok (.iconst 1, 1) := by decide +kernel
theorem dX4_readName_5 : decode cX4_readName 5 = .ok (.if_icmp .eq 9, 3) := by decide +kernel
theorem dX4_readName_8 : decode cX4_readName 8 = .ok (.aload_n 1, 1) := by decide +kernel
theorem dX4_readName_9 : decode cX4_readName 9 = .ok (.iconst 1, 1) := by decide +kernel
theorem dX4_readName_10 : decode cX4_readName 10 = .ok (.invokevirtual 43, 3) := by decide +kernel
theorem dX4_readName_13 : decode cX4_readName 13 = .ok (.ireturn, 1) := by decide +kernel
theorem dX4_readName_14 : decode cX4_readName 14 = .ok (.aload_n 0, 1) := by decide +kernel
theorem dX4_readName_15 : decode cX4_readName 15 = .ok (.aload_n 1, 1) := by decide +kernel
theorem dX4_readName_16 : decode cX4_readName 16 = .ok (.getfield 46, 3) := by decide +kernel
theorem dX4_readName_19 : decode cX4_readName 19 = .ok (.invokevirtual 49, 3) := by decide +kernel
theorem dX4_readName_22 : decode cX4_readName 22 = .ok (.iconst (-1), 1) := by decide +kernel
theorem dX4_readName_23 : decode cX4_readName 23 = .ok (.if_icmp .eq 9, 3) := by decide +kernel
theorem dX4_readName_26 : decode cX4_readName 26 = .ok (.aload_n 1, 1) := by decide +kernel
theorem dX4_readName_27 : decode cX4_readName 27 = .ok (.iconst 3, 1) := by decide +kernel
theorem dX4_readName_28 : decode cX4_readName 28 = .ok (.invokevirtual 43, 3) := by decide +kernel
theorem dX4_readName_31 : decode cX4_readName 31 = .ok (.ireturn, 1) := by decide +kernel
theorem dX4_readName_32 : decode cX4_readName 32 = .ok (.aload_n 0, 1) := by decide +kernel
theorem dX4_readName_33 : decode cX4_readName 33 = .ok (.getfield 18, 3) := by decide +kernel
theorem dX4_readName_36 : decode cX4_readName 36 = .ok (.bipush 8, 2) := by decide +kernel
theorem dX4_readName_38 : decode cX4_readName 38 = .ok (.if_icmp .lt 9, 3) := by decide +kernel
theorem dX4_readName_41 : decode cX4_readName 41 = .ok (.aload_n 1, 1) := by decide +kernel
theorem dX4_readName_42 : decode cX4_readName 42 = .ok (.iconst 5, 1) := by decide +kernel
theorem dX4_readName_43 : decode cX4_readName 43 = .ok (.invokevirtual 43, 3) := by decide +kernel
theorem dX4_readName_46 : decode cX4_readName 46 = .ok (.ireturn, 1) := by decide +kernel
theorem dX4_readName_47 : decode cX4_readName 47 = .ok (.aload_n 0, 1) := by decide +kernel
theorem dX4_readName_48 : decode cX4_readName 48 = .ok (.getfield 11, 3) := by decide +kernel
theorem dX4_readName_51 : decode cX4_readName 51 = .ok (.aload_n 0, 1) := by decide +kernel
theorem dX4_readName_52 : decode cX4_readName 52 = .ok (.getfield 18, 3) := by decide +kernel
theorem dX4_readName_55 : decode cX4_readName 55 = .ok (.aaload, 1) := by decide +kernel
theorem dX4_readName_56 : decode cX4_readName 56 = .ok (.aload_n 1, 1) := by decide +kernel
theorem dX4_readName_57 : decode cX4_readName 57 = .ok (.getfield 46, 3) := by decide +kernel
theorem dX4_readName_60 : decode cX4_readName 60 = .ok (.invokevirtual 53, 3) := by decide +kernel
theorem dX4_readName_63 : decode cX4_readName 63 = .ok (.aload_n 1, 1) := by decide +kernel
theorem dX4_readName_64 : decode cX4_readName 64 = .ok (.invokevirtual 57, 3) := by decide +kernel
theorem dX4_readName_67 : decode cX4_readName 67 = .ok (.aload_n 1, 1) := by decide +kernel
theorem dX4_readName_68 : decode cX4_readName 68 = .ok (.bipush 58, 2) := by decide +kernel
theorem dX4_readName_70 : decode cX4_readName 70 = .ok (.invokevirtual 39, 3) := by decide +kernel
theorem dX4_readName_73 : decode cX4_readName 73 = .ok (.ireturn, 1) := by decide +kernel
theorem dX4_readKind_0 : decode cX4_readKind 0 = .ok (.aload_n 1, 1) := by decide +kernel
theorem dX4_readKind_1 : decode cX4_readKind 1 = .ok (.getfield 46, 3) := by decide +kernel
theorem dX4_readKind_4 : decode cX4_readKind 4 = .ok (.lstore_n 3, 1) := by decide +kernel
theorem dX4_readKind_5 : decode cX4_readKind 5 = .ok (.aload_n 1, 1) := by decide +kernel
theorem dX4_readKind_6 : decode cX4_readKind 6 = .ok (.getfield 34, 3) := by decide +kernel
theorem dX4_readKind_9 : decode cX4_readKind 9 = .ok (.iconst 1, 1) := by decide +kernel
theorem dX4_readKind_10 : decode cX4_readKind 10 = .ok (.if_icmp .ne 10, 3) := by decide +kernel
theorem dX4_readKind_13 : decode cX4_readKind 13 = .ok (.lload_n 3, 1) := by decide +kernel
theorem dX4_readKind_14 : decode cX4_readKind 14 = .ok (.invokestatic 60, 3) := by decide +kernel
theorem dX4_readKind_17 : decode cX4_readKind 17 = .ok (.ifCond .ne 9, 3) := by decide +kernel
theorem dX4_readKind_20 : decode cX4_readKind 20 = .ok (.aload_n 1, 1) := by decide +kernel
theorem dX4_readKind_21 : decode cX4_readKind 21 = .ok (.iconst 1, 1) := by decide +kernel
theorem dX4_readKind_22 : decode cX4_readKind 22 = .ok (.invokevirtual 43, 3) := by decide +kernel
theorem dX4_readKind_25 : decode cX4_readKind 25 = .ok (.ireturn, 1) := by decide +kernel
theorem dX4_readKind_26 : decode cX4_readKind 26 = .ok (.aload_n 1, 1) := by decide +kernel
theorem dX4_readKind_27 : decode cX4_readKind 27 = .ok (.invokevirtual 57, 3) := by decide +kernel
theorem dX4_readKind_30 : decode cX4_readKind 30 = .ok (.lload_n 3, 1) := by decide +kernel
theorem dX4_readKind_31 : decode cX4_readKind 31 = .ok (.ldc2_w 64, 3) := by decide +kernel
theorem dX4_readKind_34 : decode cX4_readKind 34 = .ok (.lcmp, 1) := by decide +kernel
theorem dX4_readKind_35 : decode cX4_readKind 35 = .ok (.ifCond .ne 10, 3) := by decide +kernel
theorem dX4_readKind_38 : decode cX4_readKind 38 = .ok (.aload_n 0, 1) := by decide +kernel
theorem dX4_readKind_39 : decode cX4_readKind 39 = .ok (.aload_n 1, 1) := by decide +kernel
theorem dX4_readKind_40 : decode cX4_readKind 40 = .ok (.aload_n 2, 1) := by decide +kernel
theorem dX4_readKind_41 : decode cX4_readKind 41 = .ok (.invokevirtual 66, 3) := by decide +kernel
theorem dX4_readKind_44 : decode cX4_readKind 44 = .ok (.ireturn, 1) := by decide +kernel
theorem dX4_readKind_45 : decode cX4_readKind 45 = .ok (.aload_n 2, 1) := by decide +kernel
theorem dX4_readKind_46 : decode cX4_readKind 46 = .ok (.lload_n 3, 1) := by decide +kernel
theorem dX4_readKind_47 : decode cX4_readKind 47 = .ok (.ldc2_w 69, 3) := by decide +kernel
theorem dX4_readKind_50 : decode cX4_readKind 50 = .ok (.lcmp, 1) := by decide +kernel
theorem dX4_readKind_51 : decode cX4_readKind 51 = .ok (.ifCond .ne 7, 3) := by decide +kernel
theorem dX4_readKind_54 : decode cX4_readKind 54 = .ok (.iconst 0, 1) := by decide +kernel
theorem dX4_readKind_55 : decode cX4_readKind 55 = .ok (.goto 28, 3) := by decide +kernel
theorem dX4_readKind_58 : decode cX4_readKind 58 = .ok (.lload_n 3, 1) := by decide +kernel
theorem dX4_readKind_59 : decode cX4_readKind 59 = .ok (.ldc2_w 71, 3) := by decide +kernel
theorem dX4_readKind_62 : decode cX4_readKind 62 = .ok (.lcmp, 1) := by decide +kernel
theorem dX4_readKind_63 : decode cX4_readKind 63 = .ok (.ifCond .ne 7, 3) := by decide +kernel
theorem dX4_readKind_66 : decode cX4_readKind 66 = .ok (.iconst 1, 1) := by decide +kernel
theorem dX4_readKind_67 : decode cX4_readKind 67 = .ok (.goto 16, 3) := by decide +kernel
theorem dX4_readKind_70 : decode cX4_readKind 70 = .ok (.lload_n 3, 1) := by decide +kernel
theorem dX4_readKind_71 : decode cX4_readKind 71 = .ok (.ldc2_w 73, 3) := by decide +kernel
theorem dX4_readKind_74 : decode cX4_readKind 74 = .ok (.lcmp, 1) := by decide +kernel
theorem dX4_readKind_75 : decode cX4_readKind 75 = .ok (.ifCond .ne 7, 3) := by decide +kernel
theorem dX4_readKind_78 : decode cX4_readKind 78 = .ok (.iconst 2, 1) := by decide +kernel
theorem dX4_readKind_79 : decode cX4_readKind 79 = .ok (.goto 4, 3) := by decide +kernel
theorem dX4_readKind_82 : decode cX4_readKind 82 = .ok (.iconst 3, 1) := by decide +kernel
theorem dX4_readKind_83 : decode cX4_readKind 83 = .ok (.putfield 75, 3) := by decide +kernel
theorem dX4_readKind_86 : decode cX4_readKind 86 = .ok (.aload_n 2, 1) := by decide +kernel
theorem dX4_readKind_87 : decode cX4_readKind 87 = .ok (.getfield 75, 3) := by decide +kernel
theorem dX4_readKind_90 : decode cX4_readKind 90 = .ok (.ifCond .ne 11, 3) := by decide +kernel
theorem dX4_readKind_93 : decode cX4_readKind 93 = .ok (.aload_n 2, 1) := by decide +kernel
theorem dX4_readKind_94 : decode cX4_readKind 94 = .ok (.aload_n 1, 1) := by decide +kernel
theorem dX4_readKind_95 : decode cX4_readKind 95 = .ok (.invokevirtual 76, 3) := by decide +kernel
theorem dX4_readKind_98 : decode cX4_readKind 98 = .ok (.ifCond .eq 19, 3) := by decide +kernel
theorem dX4_readKind_101 : decode cX4_readKind 101 = .ok (.aload_n 2, 1) := by decide +kernel
theorem dX4_readKind_102 : decode cX4_readKind 102 = .ok (.getfield 75, 3) := by decide +kernel
theorem dX4_readKind_105 : decode cX4_readKind 105 = .ok (.iconst 3, 1) := by decide +kernel
theorem dX4_readKind_106 : decode cX4_readKind 106 = .ok (.if_icmp .ne 13, 3) := by decide +kernel
theorem dX4_readKind_109 : decode cX4_readKind 109 = .ok (.aload_n 2, 1) := by decide +kernel
theorem dX4_readKind_110 : decode cX4_readKind 110 = .ok (.aload_n 1, 1) := by decide +kernel
theorem dX4_readKind_111 : decode cX4_readKind 111 = .ok (.invokevirtual 79, 3) := by decide +kernel
theorem dX4_readKind_114 : decode cX4_readKind 114 = .ok (.ifCond .ne 5, 3) := by decide +kernel
theorem dX4_readKind_117 : decode cX4_readKind 117 = .ok (.iconst 0, 1) := by decide +kernel
theorem dX4_readKind_118 : decode cX4_readKind 118 = .ok (.ireturn, 1) := by decide +kernel
theorem dX4_readKind_119 : decode cX4_readKind 119 = .ok (.aload_n 1, 1) := by decide +kernel
theorem dX4_readKind_120 : decode cX4_readKind 120 = .ok (.getfield 34, 3) := by decide +kernel
theorem dX4_readKind_123 : decode cX4_readKind 123 = .ok (.bipush 63, 2) := by decide +kernel
theorem dX4_readKind_125 : decode cX4_readKind 125 = .ok (.if_icmp .ne 12, 3) := by decide +kernel
theorem dX4_readKind_128 : decode cX4_readKind 128 = .ok (.aload_n 2, 1) := by decide +kernel
theorem dX4_readKind_129 : decode cX4_readKind 129 = .ok (.iconst 1, 1) := by decide +kernel
theorem dX4_readKind_130 : decode cX4_readKind 130 = .ok (.putfield 82, 3) := by decide +kernel
theorem dX4_readKind_133 : decode cX4_readKind 133 = .ok (.aload_n 1, 1) := by decide +kernel
theorem dX4_readKind_134 : decode cX4_readKind 134 = .ok (.invokevirtual 57, 3) := by decide +kernel
theorem dX4_readKind_137 : decode cX4_readKind 137 = .ok (.iconst 1, 1) := by decide +kernel
theorem dX4_readKind_138 : decode cX4_readKind 138 = .ok (.ireturn, 1) := by decide +kernel
theorem dX4_isKind_0 : decode cX4_isKind 0 = .ok (.lload_n 0, 1) := by decide +kernel
theorem dX4_isKind_1 : decode cX4_isKind 1 = .ok (.ldc2_w 69, 3) := by decide +kernel
theorem dX4_isKind_4 : decode cX4_isKind 4 = .ok (.lcmp, 1) := by decide +kernel
theorem dX4_isKind_5 : decode cX4_isKind 5 = .ok (.ifCond .eq 35, 3) := by decide +kernel
theorem dX4_isKind_8 : decode cX4_isKind 8 = .ok (.lload_n 0, 1) := by decide +kernel
theorem dX4_isKind_9 : decode cX4_isKind 9 = .ok (.ldc2_w 71, 3) := by decide +kernel
theorem dX4_isKind_12 : decode cX4_isKind 12 = .ok (.lcmp, 1) := by decide +kernel
theorem dX4_isKind_13 : decode cX4_isKind 13 = .ok (.ifCond .eq 27, 3) := by decide +kernel
theorem dX4_isKind_16 : decode cX4_isKind 16 = .ok (.lload_n 0, 1) := by decide +kernel
theorem dX4_isKind_17 : decode cX4_isKind 17 = .ok (.ldc2_w 73, 3) := by decide +kernel
theorem dX4_isKind_20 : decode cX4_isKind 20 = .ok (.lcmp, 1) := by decide +kernel
theorem dX4_isKind_21 : decode cX4_isKind 21 = .ok (.ifCond .eq 19, 3) := by decide +kernel
theorem dX4_isKind_24 : decode cX4_isKind 24 = .ok (.lload_n 0, 1) := by decide +kernel
theorem dX4_isKind_25 : decode cX4_isKind 25 = .ok (.ldc2_w 86, 3) := by decide +kernel
theorem dX4_isKind_28 : decode cX4_isKind 28 = .ok (.lcmp, 1) := by decide +kernel
theorem dX4_isKind_29 : decode cX4_isKind 29 = .ok (.ifCond .eq 11, 3) := by decide +kernel
theorem dX4_isKind_32 : decode cX4_isKind 32 = .ok (.lload_n 0, 1) := by decide +kernel
theorem dX4_isKind_33 : decode cX4_isKind 33 = .ok (.ldc2_w 64, 3) := by decide +kernel
theorem dX4_isKind_36 : decode cX4_isKind 36 = .ok (.lcmp, 1) := by decide +kernel
theorem dX4_isKind_37 : decode cX4_isKind 37 = .ok (.ifCond .ne 7, 3) := by decide +kernel
theorem dX4_isKind_40 : decode cX4_isKind 40 = .ok (.iconst 1, 1) := by decide +kernel
theorem dX4_isKind_41 : decode cX4_isKind 41 = .ok (.goto 4, 3) := by decide +kernel
theorem dX4_isKind_44 : decode cX4_isKind 44 = .ok (.iconst 0, 1) := by decide +kernel
theorem dX4_isKind_45 : decode cX4_isKind 45 = .ok (.ireturn, 1) := by decide +kernel
theorem dX4_readSpan_0 : decode cX4_readSpan 0 = .ok (.aload_n 2, 1) := by decide +kernel
theorem dX4_readSpan_1 : decode cX4_readSpan 1 = .ok (.aload_n 1, 1) := by decide +kernel
theorem dX4_readSpan_2 : decode cX4_readSpan 2 = .ok (.getfield 88, 3) := by decide +kernel
theorem dX4_readSpan_5 : decode cX4_readSpan 5 = .ok (.putfield 91, 3) := by decide +kernel
theorem dX4_readSpan_8 : decode cX4_readSpan 8 = .ok (.aload_n 1, 1) := by decide +kernel
theorem dX4_readSpan_9 : decode cX4_readSpan 9 = .ok (.iconst 2, 1) := by decide +kernel
theorem dX4_readSpan_10 : decode cX4_readSpan 10 = .ok (.invokevirtual 39, 3) := by decide +kernel
theorem dX4_readSpan_13 : decode cX4_readSpan 13 = .ok (.ifCond .ne 5, 3) := by decide +kernel
theorem dX4_readSpan_16 : decode cX4_readSpan 16 = .ok (.iconst 0, 1) := by decide +kernel
theorem dX4_readSpan_17 : decode cX4_readSpan 17 = .ok (.ireturn, 1) := by decide +kernel
theorem dX4_readSpan_18 : decode cX4_readSpan 18 = .ok (.aload_n 1, 1) := by decide +kernel
theorem dX4_readSpan_19 : decode cX4_readSpan 19 = .ok (.getfield 34, 3) := by decide +kernel
theorem dX4_readSpan_22 : decode cX4_readSpan 22 = .ok (.iconst 1, 1) := by decide +kernel
theorem dX4_readSpan_23 : decode cX4_readSpan 23 = .ok (.if_icmp .ne 25, 3) := by decide +kernel
theorem dX4_readSpan_26 : decode cX4_readSpan 26 = .ok (.aload_n 1, 1) := by decide +kernel
theorem dX4_readSpan_27 : decode cX4_readSpan 27 = .ok (.getfield 46, 3) := by decide +kernel
theorem dX4_readSpan_30 : decode cX4_readSpan 30 = .ok (.ldc2_w 94, 3) := by decide +kernel
theorem dX4_readSpan_33 : decode cX4_readSpan 33 = .ok (.lcmp, 1) := by decide +kernel
theorem dX4_readSpan_34 : decode cX4_readSpan 34 = .ok (.ifCond .eq 20, 3) := by decide +kernel
theorem dX4_readSpan_37 : decode cX4_readSpan 37 = .ok (.aload_n 1, 1) := by decide +kernel
theorem dX4_readSpan_38 : decode cX4_readSpan 38 = .ok (.getfield 46, 3) := by decide +kernel
theorem dX4_readSpan_41 : decode cX4_readSpan 41 = .ok (.ldc2_w 96, 3) := by decide +kernel
theorem dX4_readSpan_44 : decode cX4_readSpan 44 = .ok (.lcmp, 1) := by decide +kernel
theorem dX4_readSpan_45 : decode cX4_readSpan 45 = .ok (.ifCond .eq 9, 3) := by decide +kernel
theorem dX4_readSpan_48 : decode cX4_readSpan 48 = .ok (.aload_n 1, 1) := by decide +kernel
theorem dX4_readSpan_49 : decode cX4_readSpan 49 = .ok (.iconst 1, 1) := by decide +kernel
theorem dX4_readSpan_50 : decode cX4_readSpan 50 = .ok (.invokevirtual 43, 3) := by decide +kernel
theorem dX4_readSpan_53 : decode cX4_readSpan 53 = .ok (.ireturn, 1) := by decide +kernel
theorem dX4_readSpan_54 : decode cX4_readSpan 54 = .ok (.aload_n 2, 1) := by decide +kernel
theorem dX4_readSpan_55 : decode cX4_readSpan 55 = .ok (.aload_n 1, 1) := by decide +kernel
theorem dX4_readSpan_56 : decode cX4_readSpan 56 = .ok (.getfield 46, 3) := by decide +kernel
theorem dX4_readSpan_59 : decode cX4_readSpan 59 = .ok (.ldc2_w 94, 3) := by decide +kernel
theorem dX4_readSpan_62 : decode cX4_readSpan 62 = .ok (.lcmp, 1) := by decide +kernel
theorem dX4_readSpan_63 : decode cX4_readSpan 63 = .ok (.ifCond .ne 7, 3) := by decide +kernel
theorem dX4_readSpan_66 : decode cX4_readSpan 66 = .ok (.iconst 4, 1) := by decide +kernel
theorem dX4_readSpan_67 : decode cX4_readSpan 67 = .ok (.goto 4, 3) := by decide +kernel
theorem dX4_readSpan_70 : decode cX4_readSpan 70 = .ok (.iconst 5, 1) := by decide +kernel
theorem dX4_readSpan_71 : decode cX4_readSpan 71 = .ok (.putfield 75, 3) := by decide +kernel
theorem dX4_readSpan_74 : decode cX4_readSpan 74 = .ok (.aload_n 1, 1) := by decide +kernel
theorem dX4_readSpan_75 : decode cX4_readSpan 75 = .ok (.invokevirtual 57, 3) := by decide +kernel
theorem dX4_readSpan_78 : decode cX4_readSpan 78 = .ok (.aload_n 1, 1) := by decide +kernel
theorem dX4_readSpan_79 : decode cX4_readSpan 79 = .ok (.getfield 34, 3) := by decide +kernel
theorem dX4_readSpan_82 : decode cX4_readSpan 82 = .ok (.iconst 1, 1) := by decide +kernel
theorem dX4_readSpan_83 : decode cX4_readSpan 83 = .ok (.if_icmp .eq 9, 3) := by decide +kernel
theorem dX4_readSpan_86 : decode cX4_readSpan 86 = .ok (.aload_n 1, 1) := by decide +kernel
theorem dX4_readSpan_87 : decode cX4_readSpan 87 = .ok (.iconst 1, 1) := by decide +kernel
theorem dX4_readSpan_88 : decode cX4_readSpan 88 = .ok (.invokevirtual 43, 3) := by decide +kernel
theorem dX4_readSpan_91 : decode cX4_readSpan 91 = .ok (.ireturn, 1) := by decide +kernel
theorem dX4_readSpan_92 : decode cX4_readSpan 92 = .ok (.aload_n 0, 1) := by decide +kernel
theorem dX4_readSpan_93 : decode cX4_readSpan 93 = .ok (.aload_n 1, 1) := by decide +kernel
theorem dX4_readSpan_94 : decode cX4_readSpan 94 = .ok (.getfield 46, 3) := by decide +kernel
theorem dX4_readSpan_97 : decode cX4_readSpan 97 = .ok (.invokevirtual 49, 3) := by decide +kernel
theorem dX4_readSpan_100 : decode cX4_readSpan 100 = .ok (.istore_n 3, 1) := by decide +kernel
theorem dX4_readSpan_101 : decode cX4_readSpan 101 = .ok (.iload_n 3, 1) := by decide +kernel
theorem dX4_readSpan_102 : decode cX4_readSpan 102 = .ok (.iconst (-1), 1) := by decide +kernel
theorem dX4_readSpan_103 : decode cX4_readSpan 103 = .ok (.if_icmp .eq 15, 3) := by decide +kernel
theorem dX4_readSpan_106 : decode cX4_readSpan 106 = .ok (.aload_n 0, 1) := by decide +kernel
theorem dX4_readSpan_107 : decode cX4_readSpan 107 = .ok (.getfield 11, 3) := by decide +kernel
theorem dX4_readSpan_110 : decode cX4_readSpan 110 = .ok (.iload_n 3, 1) := by decide +kernel
theorem dX4_readSpan_111 : decode cX4_readSpan 111 = .ok (.aaload, 1) := by decide +kernel
theorem dX4_readSpan_112 : decode cX4_readSpan 112 = .ok (.invokevirtual 98, 3) := by decide +kernel
theorem dX4_readSpan_115 : decode cX4_readSpan 115 = .ok (.ifCond .ne 9, 3) := by decide +kernel
theorem dX4_readSpan_118 : decode cX4_readSpan 118 = .ok (.aload_n 1, 1) := by decide +kernel
theorem dX4_readSpan_119 : decode cX4_readSpan 119 = .ok (.iconst 2, 1) := by decide +kernel
theorem dX4_readSpan_120 : decode cX4_readSpan 120 = .ok (.invokevirtual 43, 3) := by decide +kernel
theorem dX4_readSpan_123 : decode cX4_readSpan 123 = .ok (.ireturn, 1) := by decide +kernel
theorem dX4_readSpan_124 : decode cX4_readSpan 124 = .ok (.aload_n 2, 1) := by decide +kernel
theorem dX4_readSpan_125 : decode cX4_readSpan 125 = .ok (.iload_n 3, 1) := by decide +kernel
theorem dX4_readSpan_126 : decode cX4_readSpan 126 = .ok (.putfield 102, 3) := by decide +kernel
theorem dX4_readSpan_129 : decode cX4_readSpan 129 = .ok (.aload_n 1, 1) := by decide +kernel
theorem dX4_readSpan_130 : decode cX4_readSpan 130 = .ok (.invokevirtual 57, 3) := by decide +kernel
theorem dX4_readSpan_133 : decode cX4_readSpan 133 = .ok (.iconst 1, 1) := by decide +kernel
theorem dX4_readSpan_134 : decode cX4_readSpan 134 = .ok (.ireturn, 1) := by decide +kernel
theorem dX4_readNotice_0 : decode cX4_readNotice 0 = .ok (.iconst 0, 1) := by decide +kernel
theorem dX4_readNotice_1 : decode cX4_readNotice 1 = .ok (.istore_n 3, 1) := by decide +kernel
theorem dX4_readNotice_2 : decode cX4_readNotice 2 = .ok (.iload_n 3, 1) := by decide +kernel
theorem dX4_readNotice_3 : decode cX4_readNotice 3 = .ok (.bipush 8, 2) := by decide +kernel
theorem dX4_readNotice_5 : decode cX4_readNotice 5 = .ok (.if_icmp .gt 45, 3) := by decide +kernel
theorem dX4_readNotice_8 : decode cX4_readNotice 8 = .ok (.aload_n 0, 1) := by decide +kernel
theorem dX4_readNotice_9 : decode cX4_readNotice 9 = .ok (.aload_n 1, 1) := by decide +kernel
theorem dX4_readNotice_10 : decode cX4_readNotice 10 = .ok (.aload_n 2, 1) := by decide +kernel
theorem dX4_readNotice_11 : decode cX4_readNotice 11 = .ok (.invokevirtual 105, 3) := by decide +kernel
theorem dX4_readNotice_14 : decode cX4_readNotice 14 = .ok (.ifCond .ne 5, 3) := by decide +kernel
theorem dX4_readNotice_17 : decode cX4_readNotice 17 = .ok (.iconst 0, 1) := by decide +kernel
theorem dX4_readNotice_18 : decode cX4_readNotice 18 = .ok (.ireturn, 1) := by decide +kernel
theorem dX4_readNotice_19 : decode cX4_readNotice 19 = .ok (.aload_n 1, 1) := by decide +kernel
theorem dX4_readNotice_20 : decode cX4_readNotice 20 = .ok (.getfield 34, 3) := by decide +kernel
theorem dX4_readNotice_23 : decode cX4_readNotice 23 = .ok (.ifCond .ne 10, 3) := by decide +kernel
theorem dX4_readNotice_26 : decode cX4_readNotice 26 = .ok (.aload_n 0, 1) := by decide +kernel
theorem dX4_readNotice_27 : decode cX4_readNotice 27 = .ok (.aload_n 1, 1) := by decide +kernel
theorem dX4_readNotice_28 : decode cX4_readNotice 28 = .ok (.aload_n 2, 1) := by decide +kernel
theorem dX4_readNotice_29 : decode cX4_readNotice 29 = .ok (.invokevirtual 109, 3) := by decide +kernel
theorem dX4_readNotice_32 : decode cX4_readNotice 32 = .ok (.ireturn, 1) := by decide +kernel
theorem dX4_readNotice_33 : decode cX4_readNotice 33 = .ok (.aload_n 1, 1) := by decide +kernel
theorem dX4_readNotice_34 : decode cX4_readNotice 34 = .ok (.bipush 59, 2) := by decide +kernel
theorem dX4_readNotice_36 : decode cX4_readNotice 36 = .ok (.invokevirtual 39, 3) := by decide +kernel
theorem dX4_readNotice_39 : decode cX4_readNotice 39 = .ok (.ifCond .ne 5, 3) := by decide +kernel
theorem dX4_readNotice_42 : decode cX4_readNotice 42 = .ok (.iconst 0, 1) := by decide +kernel
theorem dX4_readNotice_43 : decode cX4_readNotice 43 = .ok (.ireturn, 1) := by decide +kernel
theorem dX4_readNotice_44 : decode cX4_readNotice 44 = .ok (.iinc 3 1, 3) := by decide +kernel
theorem dX4_readNotice_47 : decode cX4_readNotice 47 = .ok (.goto (-45), 3) := by decide +kernel
theorem dX4_readNotice_50 : decode cX4_readNotice 50 = .ok (.iconst 0, 1) := by decide +kernel
theorem dX4_readNotice_51 : decode cX4_readNotice 51 = .ok (.ireturn, 1) := by decide +kernel
theorem dX4_readEntry_0 : decode cX4_readEntry 0 = .ok (.aload_n 1, 1) := by decide +kernel
theorem dX4_readEntry_1 : decode cX4_readEntry 1 = .ok (.getfield 34, 3) := by decide +kernel
theorem dX4_readEntry_4 : decode cX4_readEntry 4 = .ok (.iconst 1, 1) := by decide +kernel
theorem dX4_readEntry_5 : decode cX4_readEntry 5 = .ok (.if_icmp .eq 9, 3) := by decide +kernel
theorem dX4_readEntry_8 : decode cX4_readEntry 8 = .ok (.aload_n 1, 1) := by decide +kernel
theorem dX4_readEntry_9 : decode cX4_readEntry 9 = .ok (.iconst 1, 1) := by decide +kernel
theorem dX4_readEntry_10 : decode cX4_readEntry 10 = .ok (.invokevirtual 43, 3) := by decide +kernel
theorem dX4_readEntry_13 : decode cX4_readEntry 13 = .ok (.ireturn, 1) := by decide +kernel
theorem dX4_readEntry_14 : decode cX4_readEntry 14 = .ok (.aload_n 0, 1) := by decide +kernel
theorem dX4_readEntry_15 : decode cX4_readEntry 15 = .ok (.aload_n 1, 1) := by decide +kernel
theorem dX4_readEntry_16 : decode cX4_readEntry 16 = .ok (.getfield 46, 3) := by decide +kernel
theorem dX4_readEntry_19 : decode cX4_readEntry 19 = .ok (.invokevirtual 49, 3) := by decide +kernel
theorem dX4_readEntry_22 : decode cX4_readEntry 22 = .ok (.istore_n 3, 1) := by decide +kernel
theorem dX4_readEntry_23 : decode cX4_readEntry 23 = .ok (.iload_n 3, 1) := by decide +kernel
theorem dX4_readEntry_24 : decode cX4_readEntry 24 = .ok (.iconst (-1), 1) := by decide +kernel
theorem dX4_readEntry_25 : decode cX4_readEntry 25 = .ok (.if_icmp .eq 15, 3) := by decide +kernel
theorem dX4_readEntry_28 : decode cX4_readEntry 28 = .ok (.aload_n 0, 1) := by decide +kernel
theorem dX4_readEntry_29 : decode cX4_readEntry 29 = .ok (.getfield 11, 3) := by decide +kernel
theorem dX4_readEntry_32 : decode cX4_readEntry 32 = .ok (.iload_n 3, 1) := by decide +kernel
theorem dX4_readEntry_33 : decode cX4_readEntry 33 = .ok (.aaload, 1) := by decide +kernel
theorem dX4_readEntry_34 : decode cX4_readEntry 34 = .ok (.invokevirtual 112, 3) := by decide +kernel
theorem dX4_readEntry_37 : decode cX4_readEntry 37 = .ok (.ifCond .eq 9, 3) := by decide +kernel
theorem dX4_readEntry_40 : decode cX4_readEntry 40 = .ok (.aload_n 1, 1) := by decide +kernel
theorem dX4_readEntry_41 : decode cX4_readEntry 41 = .ok (.iconst 2, 1) := by decide +kernel
theorem dX4_readEntry_42 : decode cX4_readEntry 42 = .ok (.invokevirtual 43, 3) := by decide +kernel
theorem dX4_readEntry_45 : decode cX4_readEntry 45 = .ok (.ireturn, 1) := by decide +kernel
theorem dX4_readEntry_46 : decode cX4_readEntry 46 = .ok (.aload_n 2, 1) := by decide +kernel
theorem dX4_readEntry_47 : decode cX4_readEntry 47 = .ok (.iload_n 3, 1) := by decide +kernel
theorem dX4_readEntry_48 : decode cX4_readEntry 48 = .ok (.laload, 1) := by decide +kernel
theorem dX4_readEntry_49 : decode cX4_readEntry 49 = .ok (.ldc2_w 115, 3) := by decide +kernel
theorem dX4_readEntry_52 : decode cX4_readEntry 52 = .ok (.lcmp, 1) := by decide +kernel
theorem dX4_readEntry_53 : decode cX4_readEntry 53 = .ok (.ifCond .eq 9, 3) := by decide +kernel
theorem dX4_readEntry_56 : decode cX4_readEntry 56 = .ok (.aload_n 1, 1) := by decide +kernel
theorem dX4_readEntry_57 : decode cX4_readEntry 57 = .ok (.iconst 3, 1) := by decide +kernel
theorem dX4_readEntry_58 : decode cX4_readEntry 58 = .ok (.invokevirtual 43, 3) := by decide +kernel
theorem dX4_readEntry_61 : decode cX4_readEntry 61 = .ok (.ireturn, 1) := by decide +kernel
theorem dX4_readEntry_62 : decode cX4_readEntry 62 = .ok (.aload_n 1, 1) := by decide +kernel
theorem dX4_readEntry_63 : decode cX4_readEntry 63 = .ok (.invokevirtual 57, 3) := by decide +kernel
theorem dX4_readEntry_66 : decode cX4_readEntry 66 = .ok (.aload_n 1, 1) := by decide +kernel
theorem dX4_readEntry_67 : decode cX4_readEntry 67 = .ok (.bipush 61, 2) := by decide +kernel
theorem dX4_readEntry_69 : decode cX4_readEntry 69 = .ok (.invokevirtual 39, 3) := by decide +kernel
theorem dX4_readEntry_72 : decode cX4_readEntry 72 = .ok (.ifCond .ne 5, 3) := by decide +kernel
theorem dX4_readEntry_75 : decode cX4_readEntry 75 = .ok (.iconst 0, 1) := by decide +kernel
theorem dX4_readEntry_76 : decode cX4_readEntry 76 = .ok (.ireturn, 1) := by decide +kernel
theorem dX4_readEntry_77 : decode cX4_readEntry 77 = .ok (.aload_n 1, 1) := by decide +kernel
theorem dX4_readEntry_78 : decode cX4_readEntry 78 = .ok (.getfield 34, 3) := by decide +kernel
theorem dX4_readEntry_81 : decode cX4_readEntry 81 = .ok (.iconst 1, 1) := by decide +kernel
theorem dX4_readEntry_82 : decode cX4_readEntry 82 = .ok (.if_icmp .eq 17, 3) := by decide +kernel
theorem dX4_readEntry_85 : decode cX4_readEntry 85 = .ok (.aload_n 1, 1) := by decide +kernel
theorem dX4_readEntry_86 : decode cX4_readEntry 86 = .ok (.getfield 34, 3) := by decide +kernel
theorem dX4_readEntry_89 : decode cX4_readEntry 89 = .ok (.iconst 2, 1) := by decide +kernel
theorem dX4_readEntry_90 : decode cX4_readEntry 90 = .ok (.if_icmp .eq 9, 3) := by decide +kernel
theorem dX4_readEntry_93 : decode cX4_readEntry 93 = .ok (.aload_n 1, 1) := by decide +kernel
theorem dX4_readEntry_94 : decode cX4_readEntry 94 = .ok (.iconst 1, 1) := by decide +kernel
theorem dX4_readEntry_95 : decode cX4_readEntry 95 = .ok (.invokevirtual 43, 3) := by decide +kernel
theorem dX4_readEntry_98 : decode cX4_readEntry 98 = .ok (.ireturn, 1) := by decide +kernel
theorem dX4_readEntry_99 : decode cX4_readEntry 99 = .ok (.aload_n 2, 1) := by decide +kernel
theorem dX4_readEntry_100 : decode cX4_readEntry 100 = .ok (.iload_n 3, 1) := by decide +kernel
theorem dX4_readEntry_101 : decode cX4_readEntry 101 = .ok (.aload_n 0, 1) := by decide +kernel
theorem dX4_readEntry_102 : decode cX4_readEntry 102 = .ok (.getfield 11, 3) := by decide +kernel
theorem dX4_readEntry_105 : decode cX4_readEntry 105 = .ok (.iload_n 3, 1) := by decide +kernel
theorem dX4_readEntry_106 : decode cX4_readEntry 106 = .ok (.aaload, 1) := by decide +kernel
theorem dX4_readEntry_107 : decode cX4_readEntry 107 = .ok (.aload_n 1, 1) := by decide +kernel
theorem dX4_readEntry_108 : decode cX4_readEntry 108 = .ok (.invokevirtual 117, 3) := by decide +kernel
theorem dX4_readEntry_111 : decode cX4_readEntry 111 = .ok (.lastore, 1) := by decide +kernel
theorem dX4_readEntry_112 : decode cX4_readEntry 112 = .ok (.aload_n 2, 1) := by decide +kernel
theorem dX4_readEntry_113 : decode cX4_readEntry 113 = .ok (.iload_n 3, 1) := by decide +kernel
theorem dX4_readEntry_114 : decode cX4_readEntry 114 = .ok (.laload, 1) := by decide +kernel
theorem dX4_readEntry_115 : decode cX4_readEntry 115 = .ok (.ldc2_w 115, 3) := by decide +kernel
theorem dX4_readEntry_118 : decode cX4_readEntry 118 = .ok (.lcmp, 1) := by decide +kernel
theorem dX4_readEntry_119 : decode cX4_readEntry 119 = .ok (.ifCond .ne 9, 3) := by decide +kernel
theorem dX4_readEntry_122 : decode cX4_readEntry 122 = .ok (.aload_n 1, 1) := by decide +kernel
theorem dX4_readEntry_123 : decode cX4_readEntry 123 = .ok (.iconst 4, 1) := by decide +kernel
theorem dX4_readEntry_124 : decode cX4_readEntry 124 = .ok (.invokevirtual 43, 3) := by decide +kernel
theorem dX4_readEntry_127 : decode cX4_readEntry 127 = .ok (.ireturn, 1) := by decide +kernel
theorem dX4_readEntry_128 : decode cX4_readEntry 128 = .ok (.aload_n 1, 1) := by decide +kernel
theorem dX4_readEntry_129 : decode cX4_readEntry 129 = .ok (.invokevirtual 57, 3) := by decide +kernel
theorem dX4_readEntry_132 : decode cX4_readEntry 132 = .ok (.iconst 1, 1) := by decide +kernel
theorem dX4_readEntry_133 : decode cX4_readEntry 133 = .ok (.ireturn, 1) := by decide +kernel
theorem dX4_isWhole_0 : decode cX4_isWhole 0 = .ok (.iconst 0, 1) := by decide +kernel
theorem dX4_isWhole_1 : decode cX4_isWhole 1 = .ok (.istore_n 3, 1) := by decide +kernel
theorem dX4_isWhole_2 : decode cX4_isWhole 2 = .ok (.iload_n 3, 1) := by decide +kernel
theorem dX4_isWhole_3 : decode cX4_isWhole 3 = .ok (.aload_n 0, 1) := by decide +kernel
theorem dX4_isWhole_4 : decode cX4_isWhole 4 = .ok (.getfield 18, 3) := by decide +kernel
theorem dX4_isWhole_7 : decode cX4_isWhole 7 = .ok (.if_icmp .ge 55, 3) := by decide +kernel
theorem dX4_isWhole_10 : decode cX4_isWhole 10 = .ok (.aload_n 2, 1) := by decide +kernel
theorem dX4_isWhole_11 : decode cX4_isWhole 11 = .ok (.iload_n 3, 1) := by decide +kernel
theorem dX4_isWhole_12 : decode cX4_isWhole 12 = .ok (.laload, 1) := by decide +kernel
theorem dX4_isWhole_13 : decode cX4_isWhole 13 = .ok (.ldc2_w 115, 3) := by decide +kernel
theorem dX4_isWhole_16 : decode cX4_isWhole 16 = .ok (.lcmp, 1) := by decide +kernel
theorem dX4_isWhole_17 : decode cX4_isWhole 17 = .ok (.ifCond .ne 39, 3) := by decide +kernel
theorem dX4_isWhole_20 : decode cX4_isWhole 20 = .ok (.aload_n 0, 1) := by decide +kernel
theorem dX4_isWhole_21 : decode cX4_isWhole 21 = .ok (.getfield 11, 3) := by decide +kernel
theorem dX4_isWhole_24 : decode cX4_isWhole 24 = .ok (.iload_n 3, 1) := by decide +kernel
theorem dX4_isWhole_25 : decode cX4_isWhole 25 = .ok (.aaload, 1) := by decide +kernel
theorem dX4_isWhole_26 : decode cX4_isWhole 26 = .ok (.getfield 82, 3) := by decide +kernel
theorem dX4_isWhole_29 : decode cX4_isWhole 29 = .ok (.ifCond .ne 27, 3) := by decide +kernel
theorem dX4_isWhole_32 : decode cX4_isWhole 32 = .ok (.aload_n 0, 1) := by decide +kernel
theorem dX4_isWhole_33 : decode cX4_isWhole 33 = .ok (.getfield 11, 3) := by decide +kernel
theorem dX4_isWhole_36 : decode cX4_isWhole 36 = .ok (.iload_n 3, 1) := by decide +kernel
theorem dX4_isWhole_37 : decode cX4_isWhole 37 = .ok (.aaload, 1) := by decide +kernel
theorem dX4_isWhole_38 : decode cX4_isWhole 38 = .ok (.invokevirtual 112, 3) := by decide +kernel
theorem dX4_isWhole_41 : decode cX4_isWhole 41 = .ok (.ifCond .ne 15, 3) := by decide +kernel
theorem dX4_isWhole_44 : decode cX4_isWhole 44 = .ok (.aload_n 1, 1) := by decide +kernel
theorem dX4_isWhole_45 : decode cX4_isWhole 45 = .ok (.iload_n 3, 1) := by decide +kernel
theorem dX4_isWhole_46 : decode cX4_isWhole 46 = .ok (.putfield 121, 3) := by decide +kernel
theorem dX4_isWhole_49 : decode cX4_isWhole 49 = .ok (.aload_n 1, 1) := by decide +kernel
theorem dX4_isWhole_50 : decode cX4_isWhole 50 = .ok (.bipush 6, 2) := by decide +kernel
theorem dX4_isWhole_52 : decode cX4_isWhole 52 = .ok (.invokevirtual 43, 3) := by decide +kernel
theorem dX4_isWhole_55 : decode cX4_isWhole 55 = .ok (.ireturn, 1) := by decide +kernel
theorem dX4_isWhole_56 : decode cX4_isWhole 56 = .ok (.iinc 3 1, 3) := by decide +kernel
theorem dX4_isWhole_59 : decode cX4_isWhole 59 = .ok (.goto (-57), 3) := by decide +kernel
theorem dX4_isWhole_62 : decode cX4_isWhole 62 = .ok (.iconst 1, 1) := by decide +kernel
theorem dX4_isWhole_63 : decode cX4_isWhole 63 = .ok (.ireturn, 1) := by decide +kernel
theorem dX4_reckon_0 : decode cX4_reckon 0 = .ok (.iconst 0, 1) := by decide +kernel
theorem dX4_reckon_1 : decode cX4_reckon 1 = .ok (.istore_n 3, 1) := by decide +kernel
theorem dX4_reckon_2 : decode cX4_reckon 2 = .ok (.iload_n 3, 1) := by decide +kernel
theorem dX4_reckon_3 : decode cX4_reckon 3 = .ok (.aload_n 0, 1) := by decide +kernel
theorem dX4_reckon_4 : decode cX4_reckon 4 = .ok (.getfield 18, 3) := by decide +kernel
theorem dX4_reckon_7 : decode cX4_reckon 7 = .ok (.if_icmp .ge 76, 3) := by decide +kernel
theorem dX4_reckon_10 : decode cX4_reckon 10 = .ok (.aload_n 0, 1) := by decide +kernel
theorem dX4_reckon_11 : decode cX4_reckon 11 = .ok (.getfield 11, 3) := by decide +kernel
theorem dX4_reckon_14 : decode cX4_reckon 14 = .ok (.iload_n 3, 1) := by decide +kernel
theorem dX4_reckon_15 : decode cX4_reckon 15 = .ok (.aaload, 1) := by decide +kernel
theorem dX4_reckon_16 : decode cX4_reckon 16 = .ok (.astore 4, 2) := by decide +kernel
theorem dX4_reckon_18 : decode cX4_reckon 18 = .ok (.aload 4, 2) := by decide +kernel
theorem dX4_reckon_20 : decode cX4_reckon 20 = .ok (.invokevirtual 112, 3) := by decide +kernel
theorem dX4_reckon_23 : decode cX4_reckon 23 = .ok (.ifCond .eq 54, 3) := by decide +kernel
theorem dX4_reckon_26 : decode cX4_reckon 26 = .ok (.aload_n 1, 1) := by decide +kernel
theorem dX4_reckon_27 : decode cX4_reckon 27 = .ok (.aload 4, 2) := by decide +kernel
theorem dX4_reckon_29 : decode cX4_reckon 29 = .ok (.getfield 102, 3) := by decide +kernel
theorem dX4_reckon_32 : decode cX4_reckon 32 = .ok (.laload, 1) := by decide +kernel
theorem dX4_reckon_33 : decode cX4_reckon 33 = .ok (.l2i, 1) := by decide +kernel
theorem dX4_reckon_34 : decode cX4_reckon 34 = .ok (.istore 5, 2) := by decide +kernel
theorem dX4_reckon_36 : decode cX4_reckon 36 = .ok (.aload_n 1, 1) := by decide +kernel
theorem dX4_reckon_37 : decode cX4_reckon 37 = .ok (.iload_n 3, 1) := by decide +kernel
theorem dX4_reckon_38 : decode cX4_reckon 38 = .ok (.iload 5, 2) := by decide +kernel
theorem dX4_reckon_40 : decode cX4_reckon 40 = .ok (.iconst (-1), 1) := by decide +kernel
theorem dX4_reckon_41 : decode cX4_reckon 41 = .ok (.if_icmp .ne 9, 3) := by decide +kernel
theorem dX4_reckon_44 : decode cX4_reckon 44 = .ok (.ldc2_w 115, 3) := by decide +kernel
theorem dX4_reckon_47 : decode cX4_reckon 47 = .ok (.goto 29, 3) := by decide +kernel
theorem dX4_reckon_50 : decode cX4_reckon 50 = .ok (.aload_n 2, 1) := by decide +kernel
theorem dX4_reckon_51 : decode cX4_reckon 51 = .ok (.iload 5, 2) := by decide +kernel
theorem dX4_reckon_53 : decode cX4_reckon 53 = .ok (.aload 4, 2) := by decide +kernel
theorem dX4_reckon_55 : decode cX4_reckon 55 = .ok (.getfield 91, 3) := by decide +kernel
theorem dX4_reckon_58 : decode cX4_reckon 58 = .ok (.aload 4, 2) := by decide +kernel
theorem dX4_reckon_60 : decode cX4_reckon 60 = .ok (.getfield 75, 3) := by decide +kernel
theorem dX4_reckon_63 : decode cX4_reckon 63 = .ok (.iconst 5, 1) := by decide +kernel
theorem dX4_reckon_64 : decode cX4_reckon 64 = .ok (.if_icmp .ne 7, 3) := by decide +kernel
theorem dX4_reckon_67 : decode cX4_reckon 67 = .ok (.iconst 1, 1) := by decide +kernel
theorem dX4_reckon_68 : decode cX4_reckon 68 = .ok (.goto 4, 3) := by decide +kernel
theorem dX4_reckon_71 : decode cX4_reckon 71 = .ok (.iconst 0, 1) := by decide +kernel
theorem dX4_reckon_72 : decode cX4_reckon 72 = .ok (.invokevirtual 124, 3) := by decide +kernel
theorem dX4_reckon_75 : decode cX4_reckon 75 = .ok (.i2l, 1) := by decide +kernel
theorem dX4_reckon_76 : decode cX4_reckon 76 = .ok (.lastore, 1) := by decide +kernel
theorem dX4_reckon_77 : decode cX4_reckon 77 = .ok (.iinc 3 1, 3) := by decide +kernel
theorem dX4_reckon_80 : decode cX4_reckon 80 = .ok (.goto (-78), 3) := by decide +kernel
theorem dX4_reckon_83 : decode cX4_reckon 83 = .ok (.return_, 1) := by decide +kernel
theorem dX5_init_0 : decode cX5_init 0 = .ok (.aload_n 0, 1) := by decide +kernel
theorem dX5_init_1 : decode cX5_init 1 = .ok (.invokespecial 3, 3) := by decide +kernel
theorem dX5_init_4 : decode cX5_init 4 = .ok (.aload_n 0, 1) := by decide +kernel
theorem dX5_init_5 : decode cX5_init 5 = .ok (.bipush 12, 2) := by decide +kernel
theorem dX5_init_7 : decode cX5_init 7 = .ok (.newarray .int, 2) := by decide +kernel
theorem dX5_init_9 : decode cX5_init 9 = .ok (.putfield 9, 3) := by decide +kernel
theorem dX5_init_12 : decode cX5_init 12 = .ok (.return_, 1) := by decide +kernel
theorem dX5_begin_0 : decode cX5_begin 0 = .ok (.aload_n 0, 1) := by decide +kernel
theorem dX5_begin_1 : decode cX5_begin 1 = .ok (.iload_n 1, 1) := by decide +kernel
theorem dX5_begin_2 : decode cX5_begin 2 = .ok (.putfield 15, 3) := by decide +kernel
theorem dX5_begin_5 : decode cX5_begin 5 = .ok (.aload_n 0, 1) := by decide +kernel
theorem dX5_begin_6 : decode cX5_begin 6 = .ok (.iload_n 2, 1) := by decide +kernel
theorem dX5_begin_7 : decode cX5_begin 7 = .ok (.putfield 19, 3) := by decide +kernel
theorem dX5_begin_10 : decode cX5_begin 10 = .ok (.aload_n 0, 1) := by decide +kernel
theorem dX5_begin_11 : decode cX5_begin 11 = .ok (.iconst 0, 1) := by decide +kernel
theorem dX5_begin_12 : decode cX5_begin 12 = .ok (.putfield 22, 3) := by decide +kernel
theorem dX5_begin_15 : decode cX5_begin 15 = .ok (.aload_n 0, 1) := by decide +kernel
theorem dX5_begin_16 : decode cX5_begin 16 = .ok (.iconst 0, 1) := by decide +kernel
theorem dX5_begin_17 : decode cX5_begin 17 = .ok (.putfield 25, 3) := by decide +kernel
theorem dX5_begin_20 : decode cX5_begin 20 = .ok (.aload_n 0, 1) := by decide +kernel
theorem dX5_begin_21 : decode cX5_begin 21 = .ok (.iconst 0, 1) := by decide +kernel
theorem dX5_begin_22 : decode cX5_begin 22 = .ok (.putfield 28, 3) := by decide +kernel
theorem dX5_begin_25 : decode cX5_begin 25 = .ok (.return_, 1) := by decide +kernel
theorem dX5_addNotice_0 : decode cX5_addNotice 0 = .ok (.aload_n 0, 1) := by decide +kernel
theorem dX5_addNotice_1 : decode cX5_addNotice 1 = .ok (.getfield 28, 3) := by decide +kernel
theorem dX5_addNotice_4 : decode cX5_addNotice 4 = .ok (.bipush 12, 2) := by decide +kernel
theorem dX5_addNotice_6 : decode cX5_addNotice 6 = .ok (.if_icmp .ge 45, 3) := by decide +kernel
theorem dX5_addNotice_9 : decode cX5_addNotice 9 = .ok (.aload_n 0, 1) := by decide +kernel
theorem dX5_addNotice_10 : decode cX5_addNotice 10 = .ok (.getfield 9, 3) := by decide +kernel
theorem dX5_addNotice_13 : decode cX5_addNotice 13 = .ok (.aload_n 0, 1) := by decide +kernel
theorem dX5_addNotice_14 : decode cX5_addNotice 14 = .ok (.getfield 28, 3) := by decide +kernel
theorem dX5_addNotice_17 : decode cX5_addNotice 17 = .ok (.iload_n 1, 1) := by decide +kernel
theorem dX5_addNotice_18 : decode cX5_addNotice 18 = .ok (.iastore, 1) := by decide +kernel
theorem dX5_addNotice_19 : decode cX5_addNotice 19 = .ok (.aload_n 0, 1) := by decide +kernel
theorem dX5_addNotice_20 : decode cX5_addNotice 20 = .ok (.dup, 1) := by decide +kernel
theorem dX5_addNotice_21 : decode cX5_addNotice 21 = .ok (.getfield 28, 3) := by decide +kernel
theorem dX5_addNotice_24 : decode cX5_addNotice 24 = .ok (.iconst 1, 1) := by decide +kernel
theorem dX5_addNotice_25 : decode cX5_addNotice 25 = .ok (.iadd, 1) := by decide +kernel
theorem dX5_addNotice_26 : decode cX5_addNotice 26 = .ok (.putfield 28, 3) := by decide +kernel
theorem dX5_addNotice_29 : decode cX5_addNotice 29 = .ok (.aload_n 0, 1) := by decide +kernel
theorem dX5_addNotice_30 : decode cX5_addNotice 30 = .ok (.dup, 1) := by decide +kernel
theorem dX5_addNotice_31 : decode cX5_addNotice 31 = .ok (.getfield 22, 3) := by decide +kernel
theorem dX5_addNotice_34 : decode cX5_addNotice 34 = .ok (.iload_n 2, 1) := by decide +kernel
theorem dX5_addNotice_35 : decode cX5_addNotice 35 = .ok (.aload_n 0, 1) := by decide +kernel
theorem dX5_addNotice_36 : decode cX5_addNotice 36 = .ok (.getfield 15, 3) := by decide +kernel
theorem dX5_addNotice_39 : decode cX5_addNotice 39 = .ok (.if_icmp .ge 7, 3) := by decide +kernel
theorem dX5_addNotice_42 : decode cX5_addNotice 42 = .ok (.iconst 1, 1) := by decide +kernel
theorem dX5_addNotice_43 : decode cX5_addNotice 43 = .ok (.goto 4, 3) := by decide +kernel
theorem dX5_addNotice_46 : decode cX5_addNotice 46 = .ok (.iconst 0, 1) := by decide +kernel
theorem dX5_addNotice_47 : decode cX5_addNotice 47 = .ok (.iadd, 1) := by decide +kernel
theorem dX5_addNotice_48 : decode cX5_addNotice 48 = .ok (.putfield 22, 3) := by decide +kernel
theorem dX5_addNotice_51 : decode cX5_addNotice 51 = .ok (.return_, 1) := by decide +kernel
theorem dX6_init_0 : decode cX6_init 0 = .ok (.aload_n 0, 1) := by decide +kernel
theorem dX6_init_1 : decode cX6_init 1 = .ok (.invokespecial 3, 3) := by decide +kernel
theorem dX6_init_4 : decode cX6_init 4 = .ok (.aload_n 0, 1) := by decide +kernel
theorem dX6_init_5 : decode cX6_init 5 = .ok (.bipush 8, 2) := by decide +kernel
theorem dX6_init_7 : decode cX6_init 7 = .ok (.newarray .long, 2) := by decide +kernel
theorem dX6_init_9 : decode cX6_init 9 = .ok (.putfield 9, 3) := by decide +kernel
theorem dX6_init_12 : decode cX6_init 12 = .ok (.aload_n 0, 1) := by decide +kernel
theorem dX6_init_13 : decode cX6_init 13 = .ok (.iconst 4, 1) := by decide +kernel
theorem dX6_init_14 : decode cX6_init 14 = .ok (.newarray .int, 2) := by decide +kernel
theorem dX6_init_16 : decode cX6_init 16 = .ok (.putfield 15, 3) := by decide +kernel
theorem dX6_init_19 : decode cX6_init 19 = .ok (.aload_n 0, 1) := by decide +kernel
theorem dX6_init_20 : decode cX6_init 20 = .ok (.iconst 4, 1) := by decide +kernel
theorem dX6_init_21 : decode cX6_init 21 = .ok (.newarray .int, 2) := by decide +kernel
theorem dX6_init_23 : decode cX6_init 23 = .ok (.putfield 19, 3) := by decide +kernel
theorem dX6_init_26 : decode cX6_init 26 = .ok (.aload_n 0, 1) := by decide +kernel
theorem dX6_init_27 : decode cX6_init 27 = .ok (.iconst 4, 1) := by decide +kernel
theorem dX6_init_28 : decode cX6_init 28 = .ok (.newarray .int, 2) := by decide +kernel
theorem dX6_init_30 : decode cX6_init 30 = .ok (.putfield 22, 3) := by decide +kernel
theorem dX6_init_33 : decode cX6_init 33 = .ok (.return_, 1) := by decide +kernel
theorem dX6_begin_0 : decode cX6_begin 0 = .ok (.aload_n 0, 1) := by decide +kernel
theorem dX6_begin_1 : decode cX6_begin 1 = .ok (.iload_n 1, 1) := by decide +kernel
theorem dX6_begin_2 : decode cX6_begin 2 = .ok (.putfield 25, 3) := by decide +kernel
theorem dX6_begin_5 : decode cX6_begin 5 = .ok (.aload_n 0, 1) := by decide +kernel
theorem dX6_begin_6 : decode cX6_begin 6 = .ok (.iload_n 2, 1) := by decide +kernel
theorem dX6_begin_7 : decode cX6_begin 7 = .ok (.putfield 29, 3) := by decide +kernel
theorem dX6_begin_10 : decode cX6_begin 10 = .ok (.aload_n 0, 1) := by decide +kernel
theorem dX6_begin_11 : decode cX6_begin 11 = .ok (.iload_n 3, 1) := by decide +kernel
theorem dX6_begin_12 : decode cX6_begin 12 = .ok (.putfield 32, 3) := by decide +kernel
theorem dX6_begin_15 : decode cX6_begin 15 = .ok (.aload_n 0, 1) := by decide +kernel
theorem dX6_begin_16 : decode cX6_begin 16 = .ok (.iconst (-1), 1) := by decide +kernel
theorem dX6_begin_17 : decode cX6_begin 17 = .ok (.putfield 35, 3) := by decide +kernel
theorem dX6_begin_20 : decode cX6_begin 20 = .ok (.aload_n 0, 1) := by decide +kernel
theorem dX6_begin_21 : decode cX6_begin 21 = .ok (.iconst (-1), 1) := by decide +kernel
theorem dX6_begin_22 : decode cX6_begin 22 = .ok (.putfield 38, 3) := by decide +kernel
theorem dX6_begin_25 : decode cX6_begin 25 = .ok (.aload_n 0, 1) := by decide +kernel
theorem dX6_begin_26 : decode cX6_begin 26 = .ok (.getfield 9, 3) := by decide +kernel
theorem dX6_begin_29 : decode cX6_begin 29 = .ok (.ldc2_w 41, 3) := by decide +kernel
theorem dX6_begin_32 : decode cX6_begin 32 = .ok (.invokestatic 43, 3) := by decide +kernel
theorem dX6_begin_35 : decode cX6_begin 35 = .ok (.aload_n 0, 1) := by decide +kernel
theorem dX6_begin_36 : decode cX6_begin 36 = .ok (.iconst 0, 1) := by decide +kernel
theorem dX6_begin_37 : decode cX6_begin 37 = .ok (.putfield 49, 3) := by decide +kernel
theorem dX6_begin_40 : decode cX6_begin 40 = .ok (.aload_n 0, 1) := by decide +kernel
theorem dX6_begin_41 : decode cX6_begin 41 = .ok (.iconst (-1), 1) := by decide +kernel
theorem dX6_begin_42 : decode cX6_begin 42 = .ok (.putfield 52, 3) := by decide +kernel
theorem dX6_begin_45 : decode cX6_begin 45 = .ok (.aload_n 0, 1) := by decide +kernel
theorem dX6_begin_46 : decode cX6_begin 46 = .ok (.lconst 0, 1) := by decide +kernel
theorem dX6_begin_47 : decode cX6_begin 47 = .ok (.putfield 55, 3) := by decide +kernel
theorem dX6_begin_50 : decode cX6_begin 50 = .ok (.aload_n 0, 1) := by decide +kernel
theorem dX6_begin_51 : decode cX6_begin 51 = .ok (.lconst 0, 1) := by decide +kernel
theorem dX6_begin_52 : decode cX6_begin 52 = .ok (.putfield 59, 3) := by decide +kernel
theorem dX6_begin_55 : decode cX6_begin 55 = .ok (.aload_n 0, 1) := by decide +kernel
theorem dX6_begin_56 : decode cX6_begin 56 = .ok (.lconst 0, 1) := by decide +kernel
theorem dX6_begin_57 : decode cX6_begin 57 = .ok (.putfield 62, 3) := by decide +kernel
theorem dX6_begin_60 : decode cX6_begin 60 = .ok (.aload_n 0, 1) := by decide +kernel
theorem dX6_begin_61 : decode cX6_begin 61 = .ok (.iconst 0, 1) := by decide +kernel
theorem dX6_begin_62 : decode cX6_begin 62 = .ok (.putfield 65, 3) := by decide +kernel
theorem dX6_begin_65 : decode cX6_begin 65 = .ok (.return_, 1) := by decide +kernel
theorem dX6_waits_0 : decode cX6_waits 0 = .ok (.aload_n 0, 1) := by decide +kernel
theorem dX6_waits_1 : decode cX6_waits 1 = .ok (.getfield 35, 3) := by decide +kernel
theorem dX6_waits_4 : decode cX6_waits 4 = .ok (.iconst (-1), 1) := by decide +kernel
theorem dX6_waits_5 : decode cX6_waits 5 = .ok (.if_icmp .ne 7, 3) := by decide +kernel
theorem dX6_waits_8 : decode cX6_waits 8 = .ok (.iconst 1, 1) := by decide +kernel
theorem dX6_waits_9 : decode cX6_waits 9 = .ok (.goto 4, 3) := by decide +kernel
theorem dX6_waits_12 : decode cX6_waits 12 = .ok (.iconst 0, 1) := by decide +kernel
theorem dX6_waits_13 : decode cX6_waits 13 = .ok (.ireturn, 1) := by decide +kernel
theorem dX6_isKnown_0 : decode cX6_isKnown 0 = .ok (.aload_n 0, 1) := by decide +kernel
theorem dX6_isKnown_1 : decode cX6_isKnown 1 = .ok (.getfield 35, 3) := by decide +kernel
theorem dX6_isKnown_4 : decode cX6_isKnown 4 = .ok (.iconst (-1), 1) := by decide +kernel
theorem dX6_isKnown_5 : decode cX6_isKnown 5 = .ok (.if_icmp .eq 15, 3) := by decide +kernel
theorem dX6_isKnown_8 : decode cX6_isKnown 8 = .ok (.aload_n 0, 1) := by decide +kernel
theorem dX6_isKnown_9 : decode cX6_isKnown 9 = .ok (.getfield 38, 3) := by decide +kernel
theorem dX6_isKnown_12 : decode cX6_isKnown 12 = .ok (.iload_n 1, 1) := by decide +kernel
theorem dX6_isKnown_13 : decode cX6_isKnown 13 = .ok (.if_icmp .gt 7, 3) := by decide +kernel
theorem dX6_isKnown_16 : decode cX6_isKnown 16 = .ok (.iconst 1, 1) := by decide +kernel
theorem dX6_isKnown_17 : decode cX6_isKnown 17 = .ok (.goto 4, 3) := by decide +kernel
theorem dX6_isKnown_20 : decode cX6_isKnown 20 = .ok (.iconst 0, 1) := by decide +kernel
theorem dX6_isKnown_21 : decode cX6_isKnown 21 = .ok (.ireturn, 1) := by decide +kernel
theorem dX6_addLaw_0 : decode cX6_addLaw 0 = .ok (.aload_n 0, 1) := by decide +kernel
theorem dX6_addLaw_1 : decode cX6_addLaw 1 = .ok (.getfield 49, 3) := by decide +kernel
theorem dX6_addLaw_4 : decode cX6_addLaw 4 = .ok (.iconst 4, 1) := by decide +kernel
theorem dX6_addLaw_5 : decode cX6_addLaw 5 = .ok (.if_icmp .ge 43, 3) := by decide +kernel
theorem dX6_addLaw_8 : decode cX6_addLaw 8 = .ok (.aload_n 0, 1) := by decide +kernel
theorem dX6_addLaw_9 : decode cX6_addLaw 9 = .ok (.getfield 15, 3) := by decide +kernel
theorem dX6_addLaw_12 : decode cX6_addLaw 12 = .ok (.aload_n 0, 1) := by decide +kernel
theorem dX6_addLaw_13 : decode cX6_addLaw 13 = .ok (.getfield 49, 3) := by decide +kernel
theorem dX6_addLaw_16 : decode cX6_addLaw 16 = .ok (.iload_n 1, 1) := by decide +kernel
theorem dX6_addLaw_17 : decode cX6_addLaw 17 = .ok (.iastore, 1) := by decide +kernel
theorem dX6_addLaw_18 : decode cX6_addLaw 18 = .ok (.aload_n 0, 1) := by decide +kernel
theorem dX6_addLaw_19 : decode cX6_addLaw 19 = .ok (.getfield 19, 3) := by decide +kernel
theorem dX6_addLaw_22 : decode cX6_addLaw 22 = .ok (.aload_n 0, 1) := by decide +kernel
theorem dX6_addLaw_23 : decode cX6_addLaw 23 = .ok (.getfield 49, 3) := by decide +kernel
theorem dX6_addLaw_26 : decode cX6_addLaw 26 = .ok (.iload_n 2, 1) := by decide +kernel
theorem dX6_addLaw_27 : decode cX6_addLaw 27 = .ok (.iastore, 1) := by decide +kernel
theorem dX6_addLaw_28 : decode cX6_addLaw 28 = .ok (.aload_n 0, 1) := by decide +kernel
theorem dX6_addLaw_29 : decode cX6_addLaw 29 = .ok (.getfield 22, 3) := by decide +kernel
theorem dX6_addLaw_32 : decode cX6_addLaw 32 = .ok (.aload_n 0, 1) := by decide +kernel
theorem dX6_addLaw_33 : decode cX6_addLaw 33 = .ok (.getfield 49, 3) := by decide +kernel
theorem dX6_addLaw_36 : decode cX6_addLaw 36 = .ok (.iload_n 3, 1) := by decide +kernel
theorem dX6_addLaw_37 : decode cX6_addLaw 37 = .ok (.iastore, 1) := by decide +kernel
theorem dX6_addLaw_38 : decode cX6_addLaw 38 = .ok (.aload_n 0, 1) := by decide +kernel
theorem dX6_addLaw_39 : decode cX6_addLaw 39 = .ok (.dup, 1) := by decide +kernel
theorem dX6_addLaw_40 : decode cX6_addLaw 40 = .ok (.getfield 49, 3) := by decide +kernel
theorem dX6_addLaw_43 : decode cX6_addLaw 43 = .ok (.iconst 1, 1) := by decide +kernel
theorem dX6_addLaw_44 : decode cX6_addLaw 44 = .ok (.iadd, 1) := by decide +kernel
theorem dX6_addLaw_45 : decode cX6_addLaw 45 = .ok (.putfield 49, 3) := by decide +kernel
theorem dX6_addLaw_48 : decode cX6_addLaw 48 = .ok (.return_, 1) := by decide +kernel
theorem dX6_print_0 : decode cX6_print 0 = .ok (.aload_n 0, 1) := by decide +kernel
theorem dX6_print_1 : decode cX6_print 1 = .ok (.iload_n 1, 1) := by decide +kernel
theorem dX6_print_2 : decode cX6_print 2 = .ok (.putfield 35, 3) := by decide +kernel
theorem dX6_print_5 : decode cX6_print 5 = .ok (.aload_n 0, 1) := by decide +kernel
theorem dX6_print_6 : decode cX6_print 6 = .ok (.iload_n 2, 1) := by decide +kernel
theorem dX6_print_7 : decode cX6_print 7 = .ok (.putfield 38, 3) := by decide +kernel
theorem dX6_print_10 : decode cX6_print 10 = .ok (.return_, 1) := by decide +kernel
theorem dX7_init_0 : decode cX7_init 0 = .ok (.aload_n 0, 1) := by decide +kernel
theorem dX7_init_1 : decode cX7_init 1 = .ok (.invokespecial 5, 3) := by decide +kernel
theorem dX7_init_4 : decode cX7_init 4 = .ok (.aload_n 0, 1) := by decide +kernel
theorem dX7_init_5 : decode cX7_init 5 = .ok (.sipush 4096, 3) := by decide +kernel
theorem dX7_init_8 : decode cX7_init 8 = .ok (.newarray .int, 2) := by decide +kernel
theorem dX7_init_10 : decode cX7_init 10 = .ok (.putfield 11, 3) := by decide +kernel
theorem dX7_init_13 : decode cX7_init 13 = .ok (.aload_n 0, 1) := by decide +kernel
theorem dX7_init_14 : decode cX7_init 14 = .ok (.bipush 12, 2) := by decide +kernel
theorem dX7_init_16 : decode cX7_init 16 = .ok (.newarray .int, 2) := by decide +kernel
theorem dX7_init_18 : decode cX7_init 18 = .ok (.putfield 15, 3) := by decide +kernel
theorem dX7_init_21 : decode cX7_init 21 = .ok (.aload_n 0, 1) := by decide +kernel
theorem dX7_init_22 : decode cX7_init 22 = .ok (.bipush 12, 2) := by decide +kernel
theorem dX7_init_24 : decode cX7_init 24 = .ok (.newarray .int, 2) := by decide +kernel
theorem dX7_init_26 : decode cX7_init 26 = .ok (.putfield 18, 3) := by decide +kernel
theorem dX7_init_29 : decode cX7_init 29 = .ok (.return_, 1) := by decide +kernel
theorem dX7_start_0 : decode cX7_start 0 = .ok (.aload_n 0, 1) := by decide +kernel
theorem dX7_start_1 : decode cX7_start 1 = .ok (.iload_n 1, 1) := by decide +kernel
theorem dX7_start_2 : decode cX7_start 2 = .ok (.putfield 21, 3) := by decide +kernel
theorem dX7_start_5 : decode cX7_start 5 = .ok (.aload_n 0, 1) := by decide +kernel
theorem dX7_start_6 : decode cX7_start 6 = .ok (.iload_n 2, 1) := by decide +kernel
theorem dX7_start_7 : decode cX7_start 7 = .ok (.putfield 25, 3) := by decide +kernel
theorem dX7_start_10 : decode cX7_start 10 = .ok (.aload_n 0, 1) := by decide +kernel
theorem dX7_start_11 : decode cX7_start 11 = .ok (.iconst 0, 1) := by decide +kernel
theorem dX7_start_12 : decode cX7_start 12 = .ok (.putfield 28, 3) := by decide +kernel
theorem dX7_start_15 : decode cX7_start 15 = .ok (.aload_n 0, 1) := by decide +kernel
theorem dX7_start_16 : decode cX7_start 16 = .ok (.iconst 0, 1) := by decide +kernel
theorem dX7_start_17 : decode cX7_start 17 = .ok (.putfield 31, 3) := by decide +kernel
theorem dX7_start_20 : decode cX7_start 20 = .ok (.aload_n 0, 1) := by decide +kernel
theorem dX7_start_21 : decode cX7_start 21 = .ok (.getfield 11, 3) := by decide +kernel
theorem dX7_start_24 : decode cX7_start 24 = .ok (.iconst 0, 1) := by decide +kernel
theorem dX7_start_25 : decode cX7_start 25 = .ok (.iload_n 2, 1) := by decide +kernel
theorem dX7_start_26 : decode cX7_start 26 = .ok (.iastore, 1) := by decide +kernel
theorem dX7_start_27 : decode cX7_start 27 = .ok (.return_, 1) := by decide +kernel
theorem dX7_take_0 : decode cX7_take 0 = .ok (.aload_n 0, 1) := by decide +kernel
theorem dX7_take_1 : decode cX7_take 1 = .ok (.getfield 28, 3) := by decide +kernel
theorem dX7_take_4 : decode cX7_take 4 = .ok (.bipush 12, 2) := by decide +kernel
theorem dX7_take_6 : decode cX7_take 6 = .ok (.if_icmp .ge 29, 3) := by decide +kernel
theorem dX7_take_9 : decode cX7_take 9 = .ok (.iload_n 2, 1) := by decide +kernel
theorem dX7_take_10 : decode cX7_take 10 = .ok (.aload_n 0, 1) := by decide +kernel
theorem dX7_take_11 : decode cX7_take 11 = .ok (.getfield 25, 3) := by decide +kernel
theorem dX7_take_14 : decode cX7_take 14 = .ok (.if_icmp .gt 21, 3) := by decide +kernel
theorem dX7_take_17 : decode cX7_take 17 = .ok (.aload_n 0, 1) := by decide +kernel
theorem dX7_take_18 : decode cX7_take 18 = .ok (.getfield 31, 3) := by decide +kernel
theorem dX7_take_21 : decode cX7_take 21 = .ok (.iload_n 2, 1) := by decide +kernel
theorem dX7_take_22 : decode cX7_take 22 = .ok (.iadd, 1) := by decide +kernel
theorem dX7_take_23 : decode cX7_take 23 = .ok (.aload_n 0, 1) := by decide +kernel
theorem dX7_take_24 : decode cX7_take 24 = .ok (.getfield 21, 3) := by decide +kernel
theorem dX7_take_27 : decode cX7_take 27 = .ok (.aload_n 0, 1) := by decide +kernel
theorem dX7_take_28 : decode cX7_take 28 = .ok (.getfield 25, 3) := by decide +kernel
theorem dX7_take_31 : decode cX7_take 31 = .ok (.imul, 1) := by decide +kernel
theorem dX7_take_32 : decode cX7_take 32 = .ok (.if_icmp .le 5, 3) := by decide +kernel
theorem dX7_take_35 : decode cX7_take 35 = .ok (.iconst 0, 1) := by decide +kernel
theorem dX7_take_36 : decode cX7_take 36 = .ok (.ireturn, 1) := by decide +kernel
theorem dX7_take_37 : decode cX7_take 37 = .ok (.aload_n 0, 1) := by decide +kernel
theorem dX7_take_38 : decode cX7_take 38 = .ok (.getfield 18, 3) := by decide +kernel
theorem dX7_take_41 : decode cX7_take 41 = .ok (.aload_n 0, 1) := by decide +kernel
theorem dX7_take_42 : decode cX7_take 42 = .ok (.getfield 28, 3) := by decide +kernel
theorem dX7_take_45 : decode cX7_take 45 = .ok (.iload_n 2, 1) := by decide +kernel
theorem dX7_take_46 : decode cX7_take 46 = .ok (.iastore, 1) := by decide +kernel
theorem dX7_take_47 : decode cX7_take 47 = .ok (.iconst 1, 1) := by decide +kernel
theorem dX7_take_48 : decode cX7_take 48 = .ok (.aload_n 0, 1) := by decide +kernel
theorem dX7_take_49 : decode cX7_take 49 = .ok (.getfield 28, 3) := by decide +kernel
theorem dX7_take_52 : decode cX7_take 52 = .ok (.ishl, 1) := by decide +kernel
theorem dX7_take_53 : decode cX7_take 53 = .ok (.istore_n 3, 1) := by decide +kernel
theorem dX7_take_54 : decode cX7_take 54 = .ok (.iload_n 3, 1) := by decide +kernel
theorem dX7_take_55 : decode cX7_take 55 = .ok (.istore 4, 2) := by decide +kernel
theorem dX7_take_57 : decode cX7_take 57 = .ok (.iload 4, 2) := by decide +kernel
theorem dX7_take_59 : decode cX7_take 59 = .ok (.iconst 2, 1) := by decide +kernel
theorem dX7_take_60 : decode cX7_take 60 = .ok (.iload_n 3, 1) := by decide +kernel
theorem dX7_take_61 : decode cX7_take 61 = .ok (.imul, 1) := by decide +kernel
theorem dX7_take_62 : decode cX7_take 62 = .ok (.if_icmp .ge 22, 3) := by decide +kernel
theorem dX7_take_65 : decode cX7_take 65 = .ok (.aload_n 0, 1) := by decide +kernel
theorem dX7_take_66 : decode cX7_take 66 = .ok (.getfield 11, 3) := by decide +kernel
theorem dX7_take_69 : decode cX7_take 69 = .ok (.iload 4, 2) := by decide +kernel
theorem dX7_take_71 : decode cX7_take 71 = .ok (.aload_n 0, 1) := by decide +kernel
theorem dX7_take_72 : decode cX7_take 72 = .ok (.iload 4, 2) := by decide +kernel
theorem dX7_take_74 : decode cX7_take 74 = .ok (.invokevirtual 34, 3) := by decide +kernel
theorem dX7_take_77 : decode cX7_take 77 = .ok (.iastore, 1) := by decide +kernel
theorem dX7_take_78 : decode cX7_take 78 = .ok (.iinc 4 1, 3) := by decide +kernel
theorem dX7_take_81 : decode cX7_take 81 = .ok (.goto (-24), 3) := by decide +kernel
theorem dX7_take_84 : decode cX7_take 84 = .ok (.aload_n 0, 1) := by decide +kernel
theorem dX7_take_85 : decode cX7_take 85 = .ok (.getfield 11, 3) := by decide +kernel
theorem dX7_take_88 : decode cX7_take 88 = .ok (.iconst 2, 1) := by decide +kernel
theorem dX7_take_89 : decode cX7_take 89 = .ok (.iload_n 3, 1) := by decide +kernel
theorem dX7_take_90 : decode cX7_take 90 = .ok (.imul, 1) := by decide +kernel
theorem dX7_take_91 : decode cX7_take 91 = .ok (.iconst 1, 1) := by decide +kernel
theorem dX7_take_92 : decode cX7_take 92 = .ok (.isub, 1) := by decide +kernel
theorem dX7_take_93 : decode cX7_take 93 = .ok (.iaload, 1) := by decide +kernel
theorem dX7_take_94 : decode cX7_take 94 = .ok (.bipush 6, 2) := by decide +kernel
theorem dX7_take_96 : decode cX7_take 96 = .ok (.ishr, 1) := by decide +kernel
theorem dX7_take_97 : decode cX7_take 97 = .ok (.aload_n 0, 1) := by decide +kernel
theorem dX7_take_98 : decode cX7_take 98 = .ok (.getfield 21, 3) := by decide +kernel
theorem dX7_take_101 : decode cX7_take 101 = .ok (.if_icmp .le 5, 3) := by decide +kernel
theorem dX7_take_104 : decode cX7_take 104 = .ok (.iconst 0, 1) := by decide +kernel
theorem dX7_take_105 : decode cX7_take 105 = .ok (.ireturn, 1) := by decide +kernel
theorem dX7_take_106 : decode cX7_take 106 = .ok (.aload_n 0, 1) := by decide +kernel
theorem dX7_take_107 : decode cX7_take 107 = .ok (.getfield 15, 3) := by decide +kernel
theorem dX7_take_110 : decode cX7_take 110 = .ok (.aload_n 0, 1) := by decide +kernel
theorem dX7_take_111 : decode cX7_take 111 = .ok (.getfield 28, 3) := by decide +kernel
theorem dX7_take_114 : decode cX7_take 114 = .ok (.iload_n 1, 1) := by decide +kernel
theorem dX7_take_115 : decode cX7_take 115 = .ok (.iastore, 1) := by decide +kernel
theorem dX7_take_116 : decode cX7_take 116 = .ok (.aload_n 0, 1) := by decide +kernel
theorem dX7_take_117 : decode cX7_take 117 = .ok (.dup, 1) := by decide +kernel
theorem dX7_take_118 : decode cX7_take 118 = .ok (.getfield 31, 3) := by decide +kernel
theorem dX7_take_121 : decode cX7_take 121 = .ok (.iload_n 2, 1) := by decide +kernel
theorem dX7_take_122 : decode cX7_take 122 = .ok (.iadd, 1) := by decide +kernel
theorem dX7_take_123 : decode cX7_take 123 = .ok (.putfield 31, 3) := by decide +kernel
theorem dX7_take_126 : decode cX7_take 126 = .ok (.aload_n 0, 1) := by decide +kernel
theorem dX7_take_127 : decode cX7_take 127 = .ok (.dup, 1) := by decide +kernel
theorem dX7_take_128 : decode cX7_take 128 = .ok (.getfield 28, 3) := by decide +kernel
theorem dX7_take_131 : decode cX7_take 131 = .ok (.iconst 1, 1) := by decide +kernel
theorem dX7_take_132 : decode cX7_take 132 = .ok (.iadd, 1) := by decide +kernel
theorem dX7_take_133 : decode cX7_take 133 = .ok (.putfield 28, 3) := by decide +kernel
theorem dX7_take_136 : decode cX7_take 136 = .ok (.iconst 1, 1) := by decide +kernel
theorem dX7_take_137 : decode cX7_take 137 = .ok (.ireturn, 1) := by decide +kernel
theorem dX7_pagesNeeded_0 : decode cX7_pagesNeeded 0 = .ok (.aload_n 0, 1) := by decide +kernel
theorem dX7_pagesNeeded_1 : decode cX7_pagesNeeded 1 = .ok (.getfield 11, 3) := by decide +kernel
theorem dX7_pagesNeeded_4 : decode cX7_pagesNeeded 4 = .ok (.iconst 1, 1) := by decide +kernel
theorem dX7_pagesNeeded_5 : decode cX7_pagesNeeded 5 = .ok (.aload_n 0, 1) := by decide +kernel
theorem dX7_pagesNeeded_6 : decode cX7_pagesNeeded 6 = .ok (.getfield 28, 3) := by decide +kernel
theorem dX7_pagesNeeded_9 : decode cX7_pagesNeeded 9 = .ok (.ishl, 1) := by decide +kernel
theorem dX7_pagesNeeded_10 : decode cX7_pagesNeeded 10 = .ok (.iconst 1, 1) := by decide +kernel
theorem dX7_pagesNeeded_11 : decode cX7_pagesNeeded 11 = .ok (.isub, 1) := by decide +kernel
theorem dX7_pagesNeeded_12 : decode cX7_pagesNeeded 12 = .ok (.iaload, 1) := by decide +kernel
theorem dX7_pagesNeeded_13 : decode cX7_pagesNeeded 13 = .ok (.bipush 6, 2) := by decide +kernel
theorem dX7_pagesNeeded_15 : decode cX7_pagesNeeded 15 = .ok (.ishr, 1) := by decide +kernel
theorem dX7_pagesNeeded_16 : decode cX7_pagesNeeded 16 = .ok (.ireturn, 1) := by decide +kernel
theorem dX7_bestOf_0 : decode cX7_bestOf 0 = .ok (.ldc 40, 2) := by decide +kernel
theorem dX7_bestOf_2 : decode cX7_bestOf 2 = .ok (.istore_n 2, 1) := by decide +kernel
theorem dX7_bestOf_3 : decode cX7_bestOf 3 = .ok (.iconst 0, 1) := by decide +kernel
theorem dX7_bestOf_4 : decode cX7_bestOf 4 = .ok (.istore_n 3, 1) := by decide +kernel
theorem dX7_bestOf_5 : decode cX7_bestOf 5 = .ok (.iload_n 3, 1) := by decide +kernel
theorem dX7_bestOf_6 : decode cX7_bestOf 6 = .ok (.aload_n 0, 1) := by decide +kernel
theorem dX7_bestOf_7 : decode cX7_bestOf 7 = .ok (.getfield 28, 3) := by decide +kernel
theorem dX7_bestOf_10 : decode cX7_bestOf 10 = .ok (.if_icmp .gt 48, 3) := by decide +kernel
theorem dX7_bestOf_13 : decode cX7_bestOf 13 = .ok (.iload_n 3, 1) := by decide +kernel
theorem dX7_bestOf_14 : decode cX7_bestOf 14 = .ok (.bipush 12, 2) := by decide +kernel
theorem dX7_bestOf_16 : decode cX7_bestOf 16 = .ok (.if_icmp .ge 42, 3) := by decide +kernel
theorem dX7_bestOf_19 : decode cX7_bestOf 19 = .ok (.iload_n 1, 1) := by decide +kernel
theorem dX7_bestOf_20 : decode cX7_bestOf 20 = .ok (.iload_n 3, 1) := by decide +kernel
theorem dX7_bestOf_21 : decode cX7_bestOf 21 = .ok (.ishr, 1) := by decide +kernel
theorem dX7_bestOf_22 : decode cX7_bestOf 22 = .ok (.iconst 1, 1) := by decide +kernel
theorem dX7_bestOf_23 : decode cX7_bestOf 23 = .ok (.iand, 1) := by decide +kernel
theorem dX7_bestOf_24 : decode cX7_bestOf 24 = .ok (.ifCond .eq 28, 3) := by decide +kernel
theorem dX7_bestOf_27 : decode cX7_bestOf 27 = .ok (.iload_n 2, 1) := by decide +kernel
theorem dX7_bestOf_28 : decode cX7_bestOf 28 = .ok (.aload_n 0, 1) := by decide +kernel
theorem dX7_bestOf_29 : decode cX7_bestOf 29 = .ok (.aload_n 0, 1) := by decide +kernel
theorem dX7_bestOf_30 : decode cX7_bestOf 30 = .ok (.getfield 11, 3) := by decide +kernel
theorem dX7_bestOf_33 : decode cX7_bestOf 33 = .ok (.iload_n 1, 1) := by decide +kernel
theorem dX7_bestOf_34 : decode cX7_bestOf 34 = .ok (.iconst 1, 1) := by decide +kernel
theorem dX7_bestOf_35 : decode cX7_bestOf 35 = .ok (.iload_n 3, 1) := by decide +kernel
theorem dX7_bestOf_36 : decode cX7_bestOf 36 = .ok (.ishl, 1) := by decide +kernel
theorem dX7_bestOf_37 : decode cX7_bestOf 37 = .ok (.ixor, 1) := by decide +kernel
theorem dX7_bestOf_38 : decode cX7_bestOf 38 = .ok (.iaload, 1) := by decide +kernel
theorem dX7_bestOf_39 : decode cX7_bestOf 39 = .ok (.aload_n 0, 1) := by decide +kernel
theorem dX7_bestOf_40 : decode cX7_bestOf 40 = .ok (.getfield 18, 3) := by decide +kernel
theorem dX7_bestOf_43 : decode cX7_bestOf 43 = .ok (.iload_n 3, 1) := by decide +kernel
theorem dX7_bestOf_44 : decode cX7_bestOf 44 = .ok (.iaload, 1) := by decide +kernel
theorem dX7_bestOf_45 : decode cX7_bestOf 45 = .ok (.invokevirtual 41, 3) := by decide +kernel
theorem dX7_bestOf_48 : decode cX7_bestOf 48 = .ok (.invokestatic 45, 3) := by decide +kernel
theorem dX7_bestOf_51 : decode cX7_bestOf 51 = .ok (.istore_n 2, 1) := by decide +kernel
theorem dX7_bestOf_52 : decode cX7_bestOf 52 = .ok (.iinc 3 1, 3) := by decide +kernel
theorem dX7_bestOf_55 : decode cX7_bestOf 55 = .ok (.goto (-50), 3) := by decide +kernel
theorem dX7_bestOf_58 : decode cX7_bestOf 58 = .ok (.iload_n 2, 1) := by decide +kernel
theorem dX7_bestOf_59 : decode cX7_bestOf 59 = .ok (.ireturn, 1) := by decide +kernel
theorem dX7_laidOn_0 : decode cX7_laidOn 0 = .ok (.iload_n 1, 1) := by decide +kernel
theorem dX7_laidOn_1 : decode cX7_laidOn 1 = .ok (.bipush 63, 2) := by decide +kernel
theorem dX7_laidOn_3 : decode cX7_laidOn 3 = .ok (.iand, 1) := by decide +kernel
theorem dX7_laidOn_4 : decode cX7_laidOn 4 = .ok (.iload_n 2, 1) := by decide +kernel
theorem dX7_laidOn_5 : decode cX7_laidOn 5 = .ok (.iadd, 1) := by decide +kernel
theorem dX7_laidOn_6 : decode cX7_laidOn 6 = .ok (.aload_n 0, 1) := by decide +kernel
theorem dX7_laidOn_7 : decode cX7_laidOn 7 = .ok (.getfield 25, 3) := by decide +kernel
theorem dX7_laidOn_10 : decode cX7_laidOn 10 = .ok (.if_icmp .gt 7, 3) := by decide +kernel
theorem dX7_laidOn_13 : decode cX7_laidOn 13 = .ok (.iload_n 1, 1) := by decide +kernel
theorem dX7_laidOn_14 : decode cX7_laidOn 14 = .ok (.iload_n 2, 1) := by decide +kernel
theorem dX7_laidOn_15 : decode cX7_laidOn 15 = .ok (.iadd, 1) := by decide +kernel
theorem dX7_laidOn_16 : decode cX7_laidOn 16 = .ok (.ireturn, 1) := by decide +kernel
theorem dX7_laidOn_17 : decode cX7_laidOn 17 = .ok (.iload_n 1, 1) := by decide +kernel
theorem dX7_laidOn_18 : decode cX7_laidOn 18 = .ok (.bipush 6, 2) := by decide +kernel
theorem dX7_laidOn_20 : decode cX7_laidOn 20 = .ok (.ishr, 1) := by decide +kernel
theorem dX7_laidOn_21 : decode cX7_laidOn 21 = .ok (.iconst 1, 1) := by decide +kernel
theorem dX7_laidOn_22 : decode cX7_laidOn 22 = .ok (.iadd, 1) := by decide +kernel
theorem dX7_laidOn_23 : decode cX7_laidOn 23 = .ok (.bipush 6, 2) := by decide +kernel
theorem dX7_laidOn_25 : decode cX7_laidOn 25 = .ok (.ishl, 1) := by decide +kernel
theorem dX7_laidOn_26 : decode cX7_laidOn 26 = .ok (.iload_n 2, 1) := by decide +kernel
theorem dX7_laidOn_27 : decode cX7_laidOn 27 = .ok (.iadd, 1) := by decide +kernel
theorem dX7_laidOn_28 : decode cX7_laidOn 28 = .ok (.ireturn, 1) := by decide +kernel
theorem dX8_init_0 : decode cX8_init 0 = .ok (.aload_n 0, 1) := by decide +kernel
theorem dX8_init_1 : decode cX8_init 1 = .ok (.invokespecial 3, 3) := by decide +kernel
theorem dX8_init_4 : decode cX8_init 4 = .ok (.aload_n 0, 1) := by decide +kernel
theorem dX8_init_5 : decode cX8_init 5 = .ok (.sipush 400, 3) := by decide +kernel
theorem dX8_init_8 : decode cX8_init 8 = .ok (.newarray .byte, 2) := by decide +kernel
theorem dX8_init_10 : decode cX8_init 10 = .ok (.putfield 9, 3) := by decide +kernel
theorem dX8_init_13 : decode cX8_init 13 = .ok (.return_, 1) := by decide +kernel
theorem dX8_put_0 : decode cX8_put 0 = .ok (.bipush 24, 2) := by decide +kernel
theorem dX8_put_2 : decode cX8_put 2 = .ok (.istore_n 2, 1) := by decide +kernel
theorem dX8_put_3 : decode cX8_put 3 = .ok (.iload_n 2, 1) := by decide +kernel
theorem dX8_put_4 : decode cX8_put 4 = .ok (.ifCond .lt 42, 3) := by decide +kernel
theorem dX8_put_7 : decode cX8_put 7 = .ok (.aload_n 0, 1) := by decide +kernel
theorem dX8_put_8 : decode cX8_put 8 = .ok (.getfield 15, 3) := by decide +kernel
theorem dX8_put_11 : decode cX8_put 11 = .ok (.sipush 400, 3) := by decide +kernel
theorem dX8_put_14 : decode cX8_put 14 = .ok (.if_icmp .ge 32, 3) := by decide +kernel
theorem dX8_put_17 : decode cX8_put 17 = .ok (.aload_n 0, 1) := by decide +kernel
theorem dX8_put_18 : decode cX8_put 18 = .ok (.getfield 9, 3) := by decide +kernel
theorem dX8_put_21 : decode cX8_put 21 = .ok (.aload_n 0, 1) := by decide +kernel
theorem dX8_put_22 : decode cX8_put 22 = .ok (.getfield 15, 3) := by decide +kernel
theorem dX8_put_25 : decode cX8_put 25 = .ok (.iload_n 1, 1) := by decide +kernel
theorem dX8_put_26 : decode cX8_put 26 = .ok (.iload_n 2, 1) := by decide +kernel
theorem dX8_put_27 : decode cX8_put 27 = .ok (.ishr, 1) := by decide +kernel
theorem dX8_put_28 : decode cX8_put 28 = .ok (.i2b, 1) := by decide +kernel
theorem dX8_put_29 : decode cX8_put 29 = .ok (.bastore, 1) := by decide +kernel
theorem dX8_put_30 : decode cX8_put 30 = .ok (.aload_n 0, 1) := by decide +kernel
theorem dX8_put_31 : decode cX8_put 31 = .ok (.dup, 1) := by decide +kernel
theorem dX8_put_32 : decode cX8_put 32 = .ok (.getfield 15, 3) := by decide +kernel
theorem dX8_put_35 : decode cX8_put 35 = .ok (.iconst 1, 1) := by decide +kernel
theorem dX8_put_36 : decode cX8_put 36 = .ok (.iadd, 1) := by decide +kernel
theorem dX8_put_37 : decode cX8_put 37 = .ok (.putfield 15, 3) := by decide +kernel
theorem dX8_put_40 : decode cX8_put 40 = .ok (.iinc 2 (-8), 3) := by decide +kernel
theorem dX8_put_43 : decode cX8_put 43 = .ok (.goto (-40), 3) := by decide +kernel
theorem dX8_put_46 : decode cX8_put 46 = .ok (.return_, 1) := by decide +kernel
theorem dX8_holds_0 : decode cX8_holds 0 = .ok (.iload_n 1, 1) := by decide +kernel
theorem dX8_holds_1 : decode cX8_holds 1 = .ok (.ifCond .lt 15, 3) := by decide +kernel
theorem dX8_holds_4 : decode cX8_holds 4 = .ok (.iload_n 1, 1) := by decide +kernel
theorem dX8_holds_5 : decode cX8_holds 5 = .ok (.aload_n 0, 1) := by decide +kernel
theorem dX8_holds_6 : decode cX8_holds 6 = .ok (.getfield 15, 3) := by decide +kernel
theorem dX8_holds_9 : decode cX8_holds 9 = .ok (.if_icmp .gt 7, 3) := by decide +kernel
theorem dX8_holds_12 : decode cX8_holds 12 = .ok (.iconst 1, 1) := by decide +kernel
theorem dX8_holds_13 : decode cX8_holds 13 = .ok (.goto 4, 3) := by decide +kernel
theorem dX8_holds_16 : decode cX8_holds 16 = .ok (.iconst 0, 1) := by decide +kernel
theorem dX8_holds_17 : decode cX8_holds 17 = .ok (.ireturn, 1) := by decide +kernel
theorem dX8_start_0 : decode cX8_start 0 = .ok (.aload_n 0, 1) := by decide +kernel
theorem dX8_start_1 : decode cX8_start 1 = .ok (.iconst 0, 1) := by decide +kernel
theorem dX8_start_2 : decode cX8_start 2 = .ok (.iload_n 1, 1) := by decide +kernel
theorem dX8_start_3 : decode cX8_start 3 = .ok (.aload_n 0, 1) := by decide +kernel
theorem dX8_start_4 : decode cX8_start 4 = .ok (.getfield 15, 3) := by decide +kernel
theorem dX8_start_7 : decode cX8_start 7 = .ok (.invokestatic 19, 3) := by decide +kernel
theorem dX8_start_10 : decode cX8_start 10 = .ok (.invokestatic 25, 3) := by decide +kernel
theorem dX8_start_13 : decode cX8_start 13 = .ok (.putfield 28, 3) := by decide +kernel
theorem dX8_start_16 : decode cX8_start 16 = .ok (.aload_n 0, 1) := by decide +kernel
theorem dX8_start_17 : decode cX8_start 17 = .ok (.iconst 0, 1) := by decide +kernel
theorem dX8_start_18 : decode cX8_start 18 = .ok (.putfield 31, 3) := by decide +kernel
theorem dX8_start_21 : decode cX8_start 21 = .ok (.aload_n 0, 1) := by decide +kernel
theorem dX8_start_22 : decode cX8_start 22 = .ok (.iconst 0, 1) := by decide +kernel
theorem dX8_start_23 : decode cX8_start 23 = .ok (.putfield 34, 3) := by decide +kernel
theorem dX8_start_26 : decode cX8_start 26 = .ok (.aload_n 0, 1) := by decide +kernel
theorem dX8_start_27 : decode cX8_start 27 = .ok (.invokevirtual 37, 3) := by decide +kernel
theorem dX8_start_30 : decode cX8_start 30 = .ok (.return_, 1) := by decide +kernel
theorem dX8_fail_0 : decode cX8_fail 0 = .ok (.aload_n 0, 1) := by decide +kernel
theorem dX8_fail_1 : decode cX8_fail 1 = .ok (.iload_n 1, 1) := by decide +kernel
theorem dX8_fail_2 : decode cX8_fail 2 = .ok (.putfield 34, 3) := by decide +kernel
theorem dX8_fail_5 : decode cX8_fail 5 = .ok (.aload_n 0, 1) := by decide +kernel
theorem dX8_fail_6 : decode cX8_fail 6 = .ok (.aload_n 0, 1) := by decide +kernel
theorem dX8_fail_7 : decode cX8_fail 7 = .ok (.getfield 40, 3) := by decide +kernel
theorem dX8_fail_10 : decode cX8_fail 10 = .ok (.putfield 43, 3) := by decide +kernel
theorem dX8_fail_13 : decode cX8_fail 13 = .ok (.iconst 0, 1) := by decide +kernel
theorem dX8_fail_14 : decode cX8_fail 14 = .ok (.ireturn, 1) := by decide +kernel
theorem dX8_take_0 : decode cX8_take 0 = .ok (.aload_n 0, 1) := by decide +kernel
theorem dX8_take_1 : decode cX8_take 1 = .ok (.getfield 46, 3) := by decide +kernel
theorem dX8_take_4 : decode cX8_take 4 = .ok (.iload_n 1, 1) := by decide +kernel
theorem dX8_take_5 : decode cX8_take 5 = .ok (.if_icmp .eq 9, 3) := by decide +kernel
theorem dX8_take_8 : decode cX8_take 8 = .ok (.aload_n 0, 1) := by decide +kernel
theorem dX8_take_9 : decode cX8_take 9 = .ok (.iconst 1, 1) := by decide +kernel
theorem dX8_take_10 : decode cX8_take 10 = .ok (.invokevirtual 49, 3) := by decide +kernel
theorem dX8_take_13 : decode cX8_take 13 = .ok (.ireturn, 1) := by decide +kernel
theorem dX8_take_14 : decode cX8_take 14 = .ok (.aload_n 0, 1) := by decide +kernel
theorem dX8_take_15 : decode cX8_take 15 = .ok (.invokevirtual 37, 3) := by decide +kernel
theorem dX8_take_18 : decode cX8_take 18 = .ok (.iconst 1, 1) := by decide +kernel
theorem dX8_take_19 : decode cX8_take 19 = .ok (.ireturn, 1) := by decide +kernel
theorem dX8_step_0 : decode cX8_step 0 = .ok (.aload_n 0, 1) := by decide +kernel
theorem dX8_step_1 : decode cX8_step 1 = .ok (.getfield 31, 3) := by decide +kernel
theorem dX8_step_4 : decode cX8_step 4 = .ok (.aload_n 0, 1) := by decide +kernel
theorem dX8_step_5 : decode cX8_step 5 = .ok (.getfield 28, 3) := by decide +kernel
theorem dX8_step_8 : decode cX8_step 8 = .ok (.if_icmp .ge 44, 3) := by decide +kernel
theorem dX8_step_11 : decode cX8_step 11 = .ok (.aload_n 0, 1) := by decide +kernel
theorem dX8_step_12 : decode cX8_step 12 = .ok (.getfield 9, 3) := by decide +kernel
theorem dX8_step_15 : decode cX8_step 15 = .ok (.aload_n 0, 1) := by decide +kernel
theorem dX8_step_16 : decode cX8_step 16 = .ok (.getfield 31, 3) := by decide +kernel
theorem dX8_step_19 : decode cX8_step 19 = .ok (.baload, 1) := by decide +kernel
theorem dX8_step_20 : decode cX8_step 20 = .ok (.bipush 32, 2) := by decide +kernel
theorem dX8_step_22 : decode cX8_step 22 = .ok (.if_icmp .eq 17, 3) := by decide +kernel
theorem dX8_step_25 : decode cX8_step 25 = .ok (.aload_n 0, 1) := by decide +kernel
theorem dX8_step_26 : decode cX8_step 26 = .ok (.getfield 9, 3) := by decide +kernel
theorem dX8_step_29 : decode cX8_step 29 = .ok (.aload_n 0, 1) := by decide +kernel
theorem dX8_step_30 : decode cX8_step 30 = .ok (.getfield 31, 3) := by decide +kernel
theorem dX8_step_33 : decode cX8_step 33 = .ok (.baload, 1) := by decide +kernel
theorem dX8_step_34 : decode cX8_step 34 = .ok (.bipush 10, 2) := by decide +kernel
theorem dX8_step_36 : decode cX8_step 36 = .ok (.if_icmp .ne 16, 3) := by decide +kernel
theorem dX8_step_39 : decode cX8_step 39 = .ok (.aload_n 0, 1) := by decide +kernel
theorem dX8_step_40 : decode cX8_step 40 = .ok (.dup, 1) := by decide +kernel
theorem dX8_step_41 : decode cX8_step 41 = .ok (.getfield 31, 3) := by decide +kernel
theorem dX8_step_44 : decode cX8_step 44 = .ok (.iconst 1, 1) := by decide +kernel
theorem dX8_step_45 : decode cX8_step 45 = .ok (.iadd, 1) := by decide +kernel
theorem dX8_step_46 : decode cX8_step 46 = .ok (.putfield 31, 3) := by decide +kernel
theorem dX8_step_49 : decode cX8_step 49 = .ok (.goto (-49), 3) := by decide +kernel
theorem dX8_step_52 : decode cX8_step 52 = .ok (.aload_n 0, 1) := by decide +kernel
theorem dX8_step_53 : decode cX8_step 53 = .ok (.aload_n 0, 1) := by decide +kernel
theorem dX8_step_54 : decode cX8_step 54 = .ok (.getfield 31, 3) := by decide +kernel
theorem dX8_step_57 : decode cX8_step 57 = .ok (.putfield 40, 3) := by decide +kernel
theorem dX8_step_60 : decode cX8_step 60 = .ok (.aload_n 0, 1) := by decide +kernel
theorem dX8_step_61 : decode cX8_step 61 = .ok (.aload_n 0, 1) := by decide +kernel
theorem dX8_step_62 : decode cX8_step 62 = .ok (.bipush 97, 2) := by decide +kernel
theorem dX8_step_64 : decode cX8_step 64 = .ok (.bipush 122, 2) := by decide +kernel
theorem dX8_step_66 : decode cX8_step 66 = .ok (.bipush 32, 2) := by decide +kernel
theorem dX8_step_68 : decode cX8_step 68 = .ok (.bipush 96, 2) := by decide +kernel
theorem dX8_step_70 : decode cX8_step 70 = .ok (.invokevirtual 53, 3) := by decide +kernel
theorem dX8_step_73 : decode cX8_step 73 = .ok (.putfield 57, 3) := by decide +kernel
theorem dX8_step_76 : decode cX8_step 76 = .ok (.aload_n 0, 1) := by decide +kernel
theorem dX8_step_77 : decode cX8_step 77 = .ok (.getfield 31, 3) := by decide +kernel
theorem dX8_step_80 : decode cX8_step 80 = .ok (.aload_n 0, 1) := by decide +kernel
theorem dX8_step_81 : decode cX8_step 81 = .ok (.getfield 40, 3) := by decide +kernel
theorem dX8_step_84 : decode cX8_step 84 = .ok (.if_icmp .le 27, 3) := by decide +kernel
theorem dX8_step_87 : decode cX8_step 87 = .ok (.aload_n 0, 1) := by decide +kernel
theorem dX8_step_88 : decode cX8_step 88 = .ok (.aload_n 0, 1) := by decide +kernel
theorem dX8_step_89 : decode cX8_step 89 = .ok (.getfield 31, 3) := by decide +kernel
theorem dX8_step_92 : decode cX8_step 92 = .ok (.aload_n 0, 1) := by decide +kernel
theorem dX8_step_93 : decode cX8_step 93 = .ok (.getfield 40, 3) := by decide +kernel
theorem dX8_step_96 : decode cX8_step 96 = .ok (.isub, 1) := by decide +kernel
theorem dX8_step_97 : decode cX8_step 97 = .ok (.bipush 8, 2) := by decide +kernel
theorem dX8_step_99 : decode cX8_step 99 = .ok (.if_icmp .gt 7, 3) := by decide +kernel
theorem dX8_step_102 : decode cX8_step 102 = .ok (.iconst 1, 1) := by decide +kernel
theorem dX8_step_103 : decode cX8_step 103 = .ok (.goto 4, 3) := by decide +kernel
theorem dX8_step_106 : decode cX8_step 106 = .ok (.iconst 4, 1) := by decide +kernel
theorem dX8_step_107 : decode cX8_step 107 = .ok (.putfield 46, 3) := by decide +kernel
theorem dX8_step_110 : decode cX8_step 110 = .ok (.return_, 1) := by decide +kernel
theorem dX8_step_111 : decode cX8_step 111 = .ok (.aload_n 0, 1) := by decide +kernel
theorem dX8_step_112 : decode cX8_step 112 = .ok (.aload_n 0, 1) := by decide +kernel
theorem dX8_step_113 : decode cX8_step 113 = .ok (.bipush 48, 2) := by decide +kernel
theorem dX8_step_115 : decode cX8_step 115 = .ok (.bipush 57, 2) := by decide +kernel
theorem dX8_step_117 : decode cX8_step 117 = .ok (.bipush 10, 2) := by decide +kernel
theorem dX8_step_119 : decode cX8_step 119 = .ok (.bipush 48, 2) := by decide +kernel
theorem dX8_step_121 : decode cX8_step 121 = .ok (.invokevirtual 53, 3) := by decide +kernel
theorem dX8_step_124 : decode cX8_step 124 = .ok (.l2i, 1) := by decide +kernel
theorem dX8_step_125 : decode cX8_step 125 = .ok (.putfield 61, 3) := by decide +kernel
theorem dX8_step_128 : decode cX8_step 128 = .ok (.aload_n 0, 1) := by decide +kernel
theorem dX8_step_129 : decode cX8_step 129 = .ok (.getfield 31, 3) := by decide +kernel
theorem dX8_step_132 : decode cX8_step 132 = .ok (.aload_n 0, 1) := by decide +kernel
theorem dX8_step_133 : decode cX8_step 133 = .ok (.getfield 40, 3) := by decide +kernel
theorem dX8_step_136 : decode cX8_step 136 = .ok (.if_icmp .le 26, 3) := by decide +kernel
theorem dX8_step_139 : decode cX8_step 139 = .ok (.aload_n 0, 1) := by decide +kernel
theorem dX8_step_140 : decode cX8_step 140 = .ok (.aload_n 0, 1) := by decide +kernel
theorem dX8_step_141 : decode cX8_step 141 = .ok (.getfield 31, 3) := by decide +kernel
theorem dX8_step_144 : decode cX8_step 144 = .ok (.aload_n 0, 1) := by decide +kernel
theorem dX8_step_145 : decode cX8_step 145 = .ok (.getfield 40, 3) := by decide +kernel
theorem dX8_step_148 : decode cX8_step 148 = .ok (.isub, 1) := by decide +kernel
theorem dX8_step_149 : decode cX8_step 149 = .ok (.iconst 4, 1) := by decide +kernel
theorem dX8_step_150 : decode cX8_step 150 = .ok (.if_icmp .gt 7, 3) := by decide +kernel
theorem dX8_step_153 : decode cX8_step 153 = .ok (.iconst 2, 1) := by decide +kernel
theorem dX8_step_154 : decode cX8_step 154 = .ok (.goto 4, 3) := by decide +kernel
theorem dX8_step_157 : decode cX8_step 157 = .ok (.iconst 4, 1) := by decide +kernel
theorem dX8_step_158 : decode cX8_step 158 = .ok (.putfield 46, 3) := by decide +kernel
theorem dX8_step_161 : decode cX8_step 161 = .ok (.return_, 1) := by decide +kernel
theorem dX8_step_162 : decode cX8_step 162 = .ok (.aload_n 0, 1) := by decide +kernel
theorem dX8_step_163 : decode cX8_step 163 = .ok (.aload_n 0, 1) := by decide +kernel
theorem dX8_step_164 : decode cX8_step 164 = .ok (.invokevirtual 64, 3) := by decide +kernel
theorem dX8_step_167 : decode cX8_step 167 = .ok (.putfield 46, 3) := by decide +kernel
theorem dX8_step_170 : decode cX8_step 170 = .ok (.return_, 1) := by decide +kernel
theorem dX8_readRun_0 : decode cX8_readRun 0 = .ok (.lconst 0, 1) := by decide +kernel
theorem dX8_readRun_1 : decode cX8_readRun 1 = .ok (.lstore 5, 2) := by decide +kernel
theorem dX8_readRun_3 : decode cX8_readRun 3 = .ok (.aload_n 0, 1) := by decide +kernel
theorem dX8_readRun_4 : decode cX8_readRun 4 = .ok (.getfield 31, 3) := by decide +kernel
theorem dX8_readRun_7 : decode cX8_readRun 7 = .ok (.aload_n 0, 1) := by decide +kernel
theorem dX8_readRun_8 : decode cX8_readRun 8 = .ok (.getfield 28, 3) := by decide +kernel
theorem dX8_readRun_11 : decode cX8_readRun 11 = .ok (.if_icmp .ge 64, 3) := by decide +kernel
theorem dX8_readRun_14 : decode cX8_readRun 14 = .ok (.aload_n 0, 1) := by decide +kernel
theorem dX8_readRun_15 : decode cX8_readRun 15 = .ok (.getfield 9, 3) := by decide +kernel
theorem dX8_readRun_18 : decode cX8_readRun 18 = .ok (.aload_n 0, 1) := by decide +kernel
theorem dX8_readRun_19 : decode cX8_readRun 19 = .ok (.getfield 31, 3) := by decide +kernel
theorem dX8_readRun_22 : decode cX8_readRun 22 = .ok (.baload, 1) := by decide +kernel
theorem dX8_readRun_23 : decode cX8_readRun 23 = .ok (.iload_n 1, 1) := by decide +kernel
theorem dX8_readRun_24 : decode cX8_readRun 24 = .ok (.if_icmp .lt 51, 3) := by decide +kernel
theorem dX8_readRun_27 : decode cX8_readRun 27 = .ok (.aload_n 0, 1) := by decide +kernel
theorem dX8_readRun_28 : decode cX8_readRun 28 = .ok (.getfield 9, 3) := by decide +kernel
theorem dX8_readRun_31 : decode cX8_readRun 31 = .ok (.aload_n 0, 1) := by decide +kernel
theorem dX8_readRun_32 : decode cX8_readRun 32 = .ok (.getfield 31, 3) := by decide +kernel
theorem dX8_readRun_35 : decode cX8_readRun 35 = .ok (.baload, 1) := by decide +kernel
theorem dX8_readRun_36 : decode cX8_readRun 36 = .ok (.iload_n 2, 1) := by decide +kernel
theorem dX8_readRun_37 : decode cX8_readRun 37 = .ok (.if_icmp .gt 38, 3) := by decide +kernel
theorem dX8_readRun_40 : decode cX8_readRun 40 = .ok (.lload 5, 2) := by decide +kernel
theorem dX8_readRun_42 : decode cX8_readRun 42 = .ok (.iload_n 3, 1) := by decide +kernel
theorem dX8_readRun_43 : decode cX8_readRun 43 = .ok (.i2l, 1) := by decide +kernel
theorem dX8_readRun_44 : decode cX8_readRun 44 = .ok (.lmul, 1) := by decide +kernel
theorem dX8_readRun_45 : decode cX8_readRun 45 = .ok (.aload_n 0, 1) := by decide +kernel
theorem dX8_readRun_46 : decode cX8_readRun 46 = .ok (.getfield 9, 3) := by decide +kernel
theorem dX8_readRun_49 : decode cX8_readRun 49 = .ok (.aload_n 0, 1) := by decide +kernel
theorem dX8_readRun_50 : decode cX8_readRun 50 = .ok (.getfield 31, 3) := by decide +kernel
theorem dX8_readRun_53 : decode cX8_readRun 53 = .ok (.baload, 1) := by decide +kernel
theorem dX8_readRun_54 : decode cX8_readRun 54 = .ok (.i2l, 1) := by decide +kernel
theorem dX8_readRun_55 : decode cX8_readRun 55 = .ok (.ladd, 1) := by decide +kernel
theorem dX8_readRun_56 : decode cX8_readRun 56 = .ok (.iload 4, 2) := by decide +kernel
theorem dX8_readRun_58 : decode cX8_readRun 58 = .ok (.i2l, 1) := by decide +kernel
theorem dX8_readRun_59 : decode cX8_readRun 59 = .ok (.lsub, 1) := by decide +kernel
theorem dX8_readRun_60 : decode cX8_readRun 60 = .ok (.lstore 5, 2) := by decide +kernel
theorem dX8_readRun_62 : decode cX8_readRun 62 = .ok (.aload_n 0, 1) := by decide +kernel
theorem dX8_readRun_63 : decode cX8_readRun 63 = .ok (.dup, 1) := by decide +kernel
theorem dX8_readRun_64 : decode cX8_readRun 64 = .ok (.getfield 31, 3) := by decide +kernel
theorem dX8_readRun_67 : decode cX8_readRun 67 = .ok (.iconst 1, 1) := by decide +kernel
theorem dX8_readRun_68 : decode cX8_readRun 68 = .ok (.iadd, 1) := by decide +kernel
theorem dX8_readRun_69 : decode cX8_readRun 69 = .ok (.putfield 31, 3) := by decide +kernel
theorem dX8_readRun_72 : decode cX8_readRun 72 = .ok (.goto (-69), 3) := by decide +kernel
theorem dX8_readRun_75 : decode cX8_readRun 75 = .ok (.lload 5, 2) := by decide +kernel
theorem dX8_readRun_77 : decode cX8_readRun 77 = .ok (.lreturn, 1) := by decide +kernel
theorem dX8_readSign_0 : decode cX8_readSign 0 = .ok (.aload_n 0, 1) := by decide +kernel
theorem dX8_readSign_1 : decode cX8_readSign 1 = .ok (.getfield 31, 3) := by decide +kernel
theorem dX8_readSign_4 : decode cX8_readSign 4 = .ok (.aload_n 0, 1) := by decide +kernel
theorem dX8_readSign_5 : decode cX8_readSign 5 = .ok (.getfield 28, 3) := by decide +kernel
theorem dX8_readSign_8 : decode cX8_readSign 8 = .ok (.if_icmp .lt 5, 3) := by decide +kernel
theorem dX8_readSign_11 : decode cX8_readSign 11 = .ok (.iconst 0, 1) := by decide +kernel
theorem dX8_readSign_12 : decode cX8_readSign 12 = .ok (.ireturn, 1) := by decide +kernel
theorem dX8_readSign_13 : decode cX8_readSign 13 = .ok (.aload_n 0, 1) := by decide +kernel
theorem dX8_readSign_14 : decode cX8_readSign 14 = .ok (.getfield 9, 3) := by decide +kernel
theorem dX8_readSign_17 : decode cX8_readSign 17 = .ok (.aload_n 0, 1) := by decide +kernel
theorem dX8_readSign_18 : decode cX8_readSign 18 = .ok (.getfield 31, 3) := by decide +kernel
theorem dX8_readSign_21 : decode cX8_readSign 21 = .ok (.baload, 1) := by decide +kernel
theorem dX8_readSign_22 : decode cX8_readSign 22 = .ok (.istore_n 1, 1) := by decide +kernel
theorem dX8_readSign_23 : decode cX8_readSign 23 = .ok (.aload_n 0, 1) := by decide +kernel
theorem dX8_readSign_24 : decode cX8_readSign 24 = .ok (.dup, 1) := by decide +kernel
theorem dX8_readSign_25 : decode cX8_readSign 25 = .ok (.getfield 31, 3) := by decide +kernel
theorem dX8_readSign_28 : decode cX8_readSign 28 = .ok (.iconst 1, 1) := by decide +kernel
theorem dX8_readSign_29 : decode cX8_readSign 29 = .ok (.iadd, 1) := by decide +kernel
theorem dX8_readSign_30 : decode cX8_readSign 30 = .ok (.putfield 31, 3) := by decide +kernel
theorem dX8_readSign_33 : decode cX8_readSign 33 = .ok (.iload_n 1, 1) := by decide +kernel
theorem dX8_readSign_34 : decode cX8_readSign 34 = .ok (.bipush 58, 2) := by decide +kernel
theorem dX8_readSign_36 : decode cX8_readSign 36 = .ok (.if_icmp .eq 27, 3) := by decide +kernel
theorem dX8_readSign_39 : decode cX8_readSign 39 = .ok (.iload_n 1, 1) := by decide +kernel
theorem dX8_readSign_40 : decode cX8_readSign 40 = .ok (.bipush 59, 2) := by decide +kernel
theorem dX8_readSign_42 : decode cX8_readSign 42 = .ok (.if_icmp .eq 21, 3) := by decide +kernel
theorem dX8_readSign_45 : decode cX8_readSign 45 = .ok (.iload_n 1, 1) := by decide +kernel
theorem dX8_readSign_46 : decode cX8_readSign 46 = .ok (.bipush 63, 2) := by decide +kernel
theorem dX8_readSign_48 : decode cX8_readSign 48 = .ok (.if_icmp .eq 15, 3) := by decide +kernel
theorem dX8_readSign_51 : decode cX8_readSign 51 = .ok (.iload_n 1, 1) := by decide +kernel
theorem dX8_readSign_52 : decode cX8_readSign 52 = .ok (.bipush 47, 2) := by decide +kernel
theorem dX8_readSign_54 : decode cX8_readSign 54 = .ok (.if_icmp .eq 9, 3) := by decide +kernel
theorem dX8_readSign_57 : decode cX8_readSign 57 = .ok (.iload_n 1, 1) := by decide +kernel
theorem dX8_readSign_58 : decode cX8_readSign 58 = .ok (.bipush 61, 2) := by decide +kernel
theorem dX8_readSign_60 : decode cX8_readSign 60 = .ok (.if_icmp .ne 5, 3) := by decide +kernel
theorem dX8_readSign_63 : decode cX8_readSign 63 = .ok (.iload_n 1, 1) := by decide +kernel
theorem dX8_readSign_64 : decode cX8_readSign 64 = .ok (.ireturn, 1) := by decide +kernel
theorem dX8_readSign_65 : decode cX8_readSign 65 = .ok (.iload_n 1, 1) := by decide +kernel
theorem dX8_readSign_66 : decode cX8_readSign 66 = .ok (.bipush 46, 2) := by decide +kernel
theorem dX8_readSign_68 : decode cX8_readSign 68 = .ok (.if_icmp .ne 40, 3) := by decide +kernel
theorem dX8_readSign_71 : decode cX8_readSign 71 = .ok (.aload_n 0, 1) := by decide +kernel
theorem dX8_readSign_72 : decode cX8_readSign 72 = .ok (.getfield 31, 3) := by decide +kernel
theorem dX8_readSign_75 : decode cX8_readSign 75 = .ok (.aload_n 0, 1) := by decide +kernel
theorem dX8_readSign_76 : decode cX8_readSign 76 = .ok (.getfield 28, 3) := by decide +kernel
theorem dX8_readSign_79 : decode cX8_readSign 79 = .ok (.if_icmp .ge 29, 3) := by decide +kernel
theorem dX8_readSign_82 : decode cX8_readSign 82 = .ok (.aload_n 0, 1) := by decide +kernel
theorem dX8_readSign_83 : decode cX8_readSign 83 = .ok (.getfield 9, 3) := by decide +kernel
theorem dX8_readSign_86 : decode cX8_readSign 86 = .ok (.aload_n 0, 1) := by decide +kernel
theorem dX8_readSign_87 : decode cX8_readSign 87 = .ok (.getfield 31, 3) := by decide +kernel
theorem dX8_readSign_90 : decode cX8_readSign 90 = .ok (.baload, 1) := by decide +kernel
theorem dX8_readSign_91 : decode cX8_readSign 91 = .ok (.bipush 46, 2) := by decide +kernel
theorem dX8_readSign_93 : decode cX8_readSign 93 = .ok (.if_icmp .ne 15, 3) := by decide +kernel
theorem dX8_readSign_96 : decode cX8_readSign 96 = .ok (.aload_n 0, 1) := by decide +kernel
theorem dX8_readSign_97 : decode cX8_readSign 97 = .ok (.dup, 1) := by decide +kernel
theorem dX8_readSign_98 : decode cX8_readSign 98 = .ok (.getfield 31, 3) := by decide +kernel
theorem dX8_readSign_101 : decode cX8_readSign 101 = .ok (.iconst 1, 1) := by decide +kernel
theorem dX8_readSign_102 : decode cX8_readSign 102 = .ok (.iadd, 1) := by decide +kernel
theorem dX8_readSign_103 : decode cX8_readSign 103 = .ok (.putfield 31, 3) := by decide +kernel
theorem dX8_readSign_106 : decode cX8_readSign 106 = .ok (.iconst 3, 1) := by decide +kernel
theorem dX8_readSign_107 : decode cX8_readSign 107 = .ok (.ireturn, 1) := by decide +kernel
theorem dX8_readSign_108 : decode cX8_readSign 108 = .ok (.iconst 4, 1) := by decide +kernel
theorem dX8_readSign_109 : decode cX8_readSign 109 = .ok (.ireturn, 1) := by decide +kernel
theorem dX9_init_0 : decode cX9_init 0 = .ok (.aload_n 0, 1) := by decide +kernel
theorem dX9_init_1 : decode cX9_init 1 = .ok (.invokespecial 3, 3) := by decide +kernel
theorem dX9_init_4 : decode cX9_init 4 = .ok (.aload_n 0, 1) := by decide +kernel
theorem dX9_init_5 : decode cX9_init 5 = .ok (.new 9, 3) := by decide +kernel
theorem dX9_init_8 : decode cX9_init 8 = .ok (.dup, 1) := by decide +kernel
theorem dX9_init_9 : decode cX9_init 9 = .ok (.invokespecial 11, 3) := by decide +kernel
theorem dX9_init_12 : decode cX9_init 12 = .ok (.putfield 12, 3) := by decide +kernel
theorem dX9_init_15 : decode cX9_init 15 = .ok (.aload_n 0, 1) := by decide +kernel
theorem dX9_init_16 : decode cX9_init 16 = .ok (.new 18, 3) := by decide +kernel
theorem dX9_init_19 : decode cX9_init 19 = .ok (.dup, 1) := by decide +kernel
theorem dX9_init_20 : decode cX9_init 20 = .ok (.invokespecial 20, 3) := by decide +kernel
theorem dX9_init_23 : decode cX9_init 23 = .ok (.putfield 21, 3) := by decide +kernel
theorem dX9_init_26 : decode cX9_init 26 = .ok (.aload_n 0, 1) := by decide +kernel
theorem dX9_init_27 : decode cX9_init 27 = .ok (.bipush 13, 2) := by decide +kernel
theorem dX9_init_29 : decode cX9_init 29 = .ok (.anewarray 25, 3) := by decide +kernel
theorem dX9_init_32 : decode cX9_init 32 = .ok (.putfield 27, 3) := by decide +kernel
theorem dX9_init_35 : decode cX9_init 35 = .ok (.iconst 0, 1) := by decide +kernel
theorem dX9_init_36 : decode cX9_init 36 = .ok (.istore_n 1, 1) := by decide +kernel
theorem dX9_init_37 : decode cX9_init 37 = .ok (.iload_n 1, 1) := by decide +kernel
theorem dX9_init_38 : decode cX9_init 38 = .ok (.aload_n 0, 1) := by decide +kernel
theorem dX9_init_39 : decode cX9_init 39 = .ok (.getfield 27, 3) := by decide +kernel
theorem dX9_init_42 : decode cX9_init 42 = .ok (.arraylength, 1) := by decide +kernel
theorem dX9_init_43 : decode cX9_init 43 = .ok (.if_icmp .ge 22, 3) := by decide +kernel
theorem dX9_init_46 : decode cX9_init 46 = .ok (.aload_n 0, 1) := by decide +kernel
theorem dX9_init_47 : decode cX9_init 47 = .ok (.getfield 27, 3) := by decide +kernel
theorem dX9_init_50 : decode cX9_init 50 = .ok (.iload_n 1, 1) := by decide +kernel
theorem dX9_init_51 : decode cX9_init 51 = .ok (.new 25, 3) := by decide +kernel
theorem dX9_init_54 : decode cX9_init 54 = .ok (.dup, 1) := by decide +kernel
theorem dX9_init_55 : decode cX9_init 55 = .ok (.invokespecial 31, 3) := by decide +kernel
theorem dX9_init_58 : decode cX9_init 58 = .ok (.aastore, 1) := by decide +kernel
theorem dX9_init_59 : decode cX9_init 59 = .ok (.iinc 1 1, 3) := by decide +kernel
theorem dX9_init_62 : decode cX9_init 62 = .ok (.goto (-25), 3) := by decide +kernel
theorem dX9_init_65 : decode cX9_init 65 = .ok (.aload_n 0, 1) := by decide +kernel
theorem dX9_init_66 : decode cX9_init 66 = .ok (.new 32, 3) := by decide +kernel
theorem dX9_init_69 : decode cX9_init 69 = .ok (.dup, 1) := by decide +kernel
theorem dX9_init_70 : decode cX9_init 70 = .ok (.invokespecial 34, 3) := by decide +kernel
theorem dX9_init_73 : decode cX9_init 73 = .ok (.putfield 35, 3) := by decide +kernel
theorem dX9_init_76 : decode cX9_init 76 = .ok (.aload_n 0, 1) := by decide +kernel
theorem dX9_init_77 : decode cX9_init 77 = .ok (.bipush 40, 2) := by decide +kernel
theorem dX9_init_79 : decode cX9_init 79 = .ok (.anewarray 39, 3) := by decide +kernel
theorem dX9_init_82 : decode cX9_init 82 = .ok (.putfield 41, 3) := by decide +kernel
theorem dX9_init_85 : decode cX9_init 85 = .ok (.iconst 0, 1) := by decide +kernel
theorem dX9_init_86 : decode cX9_init 86 = .ok (.istore_n 1, 1) := by decide +kernel
theorem dX9_init_87 : decode cX9_init 87 = .ok (.iload_n 1, 1) := by decide +kernel
theorem dX9_init_88 : decode cX9_init 88 = .ok (.aload_n 0, 1) := by decide +kernel
theorem dX9_init_89 : decode cX9_init 89 = .ok (.getfield 41, 3) := by decide +kernel
theorem dX9_init_92 : decode cX9_init 92 = .ok (.arraylength, 1) := by decide +kernel
theorem dX9_init_93 : decode cX9_init 93 = .ok (.if_icmp .ge 22, 3) := by decide +kernel
theorem dX9_init_96 : decode cX9_init 96 = .ok (.aload_n 0, 1) := by decide +kernel
theorem dX9_init_97 : decode cX9_init 97 = .ok (.getfield 41, 3) := by decide +kernel
theorem dX9_init_100 : decode cX9_init 100 = .ok (.iload_n 1, 1) := by decide +kernel
theorem dX9_init_101 : decode cX9_init 101 = .ok (.new 39, 3) := by decide +kernel
theorem dX9_init_104 : decode cX9_init 104 = .ok (.dup, 1) := by decide +kernel
theorem dX9_init_105 : decode cX9_init 105 = .ok (.invokespecial 45, 3) := by decide +kernel
theorem dX9_init_108 : decode cX9_init 108 = .ok (.aastore, 1) := by decide +kernel
theorem dX9_init_109 : decode cX9_init 109 = .ok (.iinc 1 1, 3) := by decide +kernel
theorem dX9_init_112 : decode cX9_init 112 = .ok (.goto (-25), 3) := by decide +kernel
theorem dX9_init_115 : decode cX9_init 115 = .ok (.aload_n 0, 1) := by decide +kernel
theorem dX9_init_116 : decode cX9_init 116 = .ok (.iconst (-1), 1) := by decide +kernel
theorem dX9_init_117 : decode cX9_init 117 = .ok (.putfield 46, 3) := by decide +kernel
theorem dX9_init_120 : decode cX9_init 120 = .ok (.aload_n 0, 1) := by decide +kernel
theorem dX9_init_121 : decode cX9_init 121 = .ok (.new 50, 3) := by decide +kernel
theorem dX9_init_124 : decode cX9_init 124 = .ok (.dup, 1) := by decide +kernel
theorem dX9_init_125 : decode cX9_init 125 = .ok (.invokespecial 52, 3) := by decide +kernel
theorem dX9_init_128 : decode cX9_init 128 = .ok (.putfield 53, 3) := by decide +kernel
theorem dX9_init_131 : decode cX9_init 131 = .ok (.aload_n 0, 1) := by decide +kernel
theorem dX9_init_132 : decode cX9_init 132 = .ok (.new 57, 3) := by decide +kernel
theorem dX9_init_135 : decode cX9_init 135 = .ok (.dup, 1) := by decide +kernel
theorem dX9_init_136 : decode cX9_init 136 = .ok (.invokespecial 59, 3) := by decide +kernel
theorem dX9_init_139 : decode cX9_init 139 = .ok (.putfield 60, 3) := by decide +kernel
theorem dX9_init_142 : decode cX9_init 142 = .ok (.return_, 1) := by decide +kernel
theorem dX9_feast_0 : decode cX9_feast 0 = .ok (.iload_n 1, 1) := by decide +kernel
theorem dX9_feast_1 : decode cX9_feast 1 = .ok (.invokestatic 64, 3) := by decide +kernel
theorem dX9_feast_4 : decode cX9_feast 4 = .ok (.ifCond .ne 9, 3) := by decide +kernel
theorem dX9_feast_7 : decode cX9_feast 7 = .ok (.aload_n 0, 1) := by decide +kernel
theorem dX9_feast_8 : decode cX9_feast 8 = .ok (.iconst 2, 1) := by decide +kernel
theorem dX9_feast_9 : decode cX9_feast 9 = .ok (.invokevirtual 68, 3) := by decide +kernel
theorem dX9_feast_12 : decode cX9_feast 12 = .ok (.ireturn, 1) := by decide +kernel
theorem dX9_feast_13 : decode cX9_feast 13 = .ok (.aload_n 0, 1) := by decide +kernel
theorem dX9_feast_14 : decode cX9_feast 14 = .ok (.getfield 12, 3) := by decide +kernel
theorem dX9_feast_17 : decode cX9_feast 17 = .ok (.iload_n 1, 1) := by decide +kernel
theorem dX9_feast_18 : decode cX9_feast 18 = .ok (.invokevirtual 71, 3) := by decide +kernel
theorem dX9_feast_21 : decode cX9_feast 21 = .ok (.iload_n 2, 1) := by decide +kernel
theorem dX9_feast_22 : decode cX9_feast 22 = .ok (.if_icmp .ne 8, 3) := by decide +kernel
theorem dX9_feast_25 : decode cX9_feast 25 = .ok (.aload_n 0, 1) := by decide +kernel
theorem dX9_feast_26 : decode cX9_feast 26 = .ok (.invokevirtual 74, 3) := by decide +kernel
theorem dX9_feast_29 : decode cX9_feast 29 = .ok (.ireturn, 1) := by decide +kernel
theorem dX9_feast_30 : decode cX9_feast 30 = .ok (.iload_n 2, 1) := by decide +kernel
theorem dX9_feast_31 : decode cX9_feast 31 = .ok (.ifCond .eq 21, 3) := by decide +kernel
theorem dX9_feast_34 : decode cX9_feast 34 = .ok (.aload_n 0, 1) := by decide +kernel
theorem dX9_feast_35 : decode cX9_feast 35 = .ok (.getfield 12, 3) := by decide +kernel
theorem dX9_feast_38 : decode cX9_feast 38 = .ok (.getfield 78, 3) := by decide +kernel
theorem dX9_feast_41 : decode cX9_feast 41 = .ok (.bipush 60, 2) := by decide +kernel
theorem dX9_feast_43 : decode cX9_feast 43 = .ok (.if_icmp .lt 9, 3) := by decide +kernel
theorem dX9_feast_46 : decode cX9_feast 46 = .ok (.aload_n 0, 1) := by decide +kernel
theorem dX9_feast_47 : decode cX9_feast 47 = .ok (.iconst 3, 1) := by decide +kernel
theorem dX9_feast_48 : decode cX9_feast 48 = .ok (.invokevirtual 68, 3) := by decide +kernel
theorem dX9_feast_51 : decode cX9_feast 51 = .ok (.ireturn, 1) := by decide +kernel
theorem dX9_feast_52 : decode cX9_feast 52 = .ok (.aload_n 0, 1) := by decide +kernel
theorem dX9_feast_53 : decode cX9_feast 53 = .ok (.getfield 12, 3) := by decide +kernel
theorem dX9_feast_56 : decode cX9_feast 56 = .ok (.iload_n 1, 1) := by decide +kernel
theorem dX9_feast_57 : decode cX9_feast 57 = .ok (.iload_n 2, 1) := by decide +kernel
theorem dX9_feast_58 : decode cX9_feast 58 = .ok (.invokevirtual 81, 3) := by decide +kernel
theorem dX9_feast_61 : decode cX9_feast 61 = .ok (.aload_n 0, 1) := by decide +kernel
theorem dX9_feast_62 : decode cX9_feast 62 = .ok (.getfield 60, 3) := by decide +kernel
theorem dX9_feast_65 : decode cX9_feast 65 = .ok (.iconst 0, 1) := by decide +kernel
theorem dX9_feast_66 : decode cX9_feast 66 = .ok (.iload_n 1, 1) := by decide +kernel
theorem dX9_feast_67 : decode cX9_feast 67 = .ok (.iload_n 2, 1) := by decide +kernel
theorem dX9_feast_68 : decode cX9_feast 68 = .ok (.ifCond .eq 7, 3) := by decide +kernel
theorem dX9_feast_71 : decode cX9_feast 71 = .ok (.lconst 1, 1) := by decide +kernel
theorem dX9_feast_72 : decode cX9_feast 72 = .ok (.goto 4, 3) := by decide +kernel
theorem dX9_feast_75 : decode cX9_feast 75 = .ok (.lconst 0, 1) := by decide +kernel
theorem dX9_feast_76 : decode cX9_feast 76 = .ok (.lconst 0, 1) := by decide +kernel
theorem dX9_feast_77 : decode cX9_feast 77 = .ok (.invokevirtual 85, 3) := by decide +kernel
theorem dX9_feast_80 : decode cX9_feast 80 = .ok (.aload_n 0, 1) := by decide +kernel
theorem dX9_feast_81 : decode cX9_feast 81 = .ok (.invokevirtual 74, 3) := by decide +kernel
theorem dX9_feast_84 : decode cX9_feast 84 = .ok (.ireturn, 1) := by decide +kernel
theorem dX9_working_0 : decode cX9_working 0 = .ok (.iload_n 1, 1) := by decide +kernel
theorem dX9_working_1 : decode cX9_working 1 = .ok (.invokestatic 64, 3) := by decide +kernel
theorem dX9_working_4 : decode cX9_working 4 = .ok (.ifCond .ne 9, 3) := by decide +kernel
theorem dX9_working_7 : decode cX9_working 7 = .ok (.aload_n 0, 1) := by decide +kernel
theorem dX9_working_8 : decode cX9_working 8 = .ok (.iconst 2, 1) := by decide +kernel
theorem dX9_working_9 : decode cX9_working 9 = .ok (.invokevirtual 89, 3) := by decide +kernel
theorem dX9_working_12 : decode cX9_working 12 = .ok (.ireturn, 1) := by decide +kernel
theorem dX9_working_13 : decode cX9_working 13 = .ok (.aload_n 0, 1) := by decide +kernel
theorem dX9_working_14 : decode cX9_working 14 = .ok (.aload_n 0, 1) := by decide +kernel
theorem dX9_working_15 : decode cX9_working 15 = .ok (.getfield 12, 3) := by decide +kernel
theorem dX9_working_18 : decode cX9_working 18 = .ok (.iload_n 1, 1) := by decide +kernel
theorem dX9_working_19 : decode cX9_working 19 = .ok (.invokevirtual 93, 3) := by decide +kernel
theorem dX9_working_22 : decode cX9_working 22 = .ok (.ifCond .eq 7, 3) := by decide +kernel
theorem dX9_working_25 : decode cX9_working 25 = .ok (.iconst 1, 1) := by decide +kernel
theorem dX9_working_26 : decode cX9_working 26 = .ok (.goto 4, 3) := by decide +kernel
theorem dX9_working_29 : decode cX9_working 29 = .ok (.iconst 0, 1) := by decide +kernel
theorem dX9_working_30 : decode cX9_working 30 = .ok (.invokevirtual 96, 3) := by decide +kernel
theorem dX9_working_33 : decode cX9_working 33 = .ok (.ireturn, 1) := by decide +kernel
theorem dX9_after_0 : decode cX9_after 0 = .ok (.iload_n 1, 1) := by decide +kernel
theorem dX9_after_1 : decode cX9_after 1 = .ok (.invokestatic 64, 3) := by decide +kernel
theorem dX9_after_4 : decode cX9_after 4 = .ok (.ifCond .eq 14, 3) := by decide +kernel
theorem dX9_after_7 : decode cX9_after 7 = .ok (.iload_n 2, 1) := by decide +kernel
theorem dX9_after_8 : decode cX9_after 8 = .ok (.ifCond .lt 10, 3) := by decide +kernel
theorem dX9_after_11 : decode cX9_after 11 = .ok (.iload_n 2, 1) := by decide +kernel
theorem dX9_after_12 : decode cX9_after 12 = .ok (.sipush 9999, 3) := by decide +kernel
theorem dX9_after_15 : decode cX9_after 15 = .ok (.if_icmp .le 9, 3) := by decide +kernel
theorem dX9_after_18 : decode cX9_after 18 = .ok (.aload_n 0, 1) := by decide +kernel
theorem dX9_after_19 : decode cX9_after 19 = .ok (.iconst 2, 1) := by decide +kernel
theorem dX9_after_20 : decode cX9_after 20 = .ok (.invokevirtual 89, 3) := by decide +kernel
theorem dX9_after_23 : decode cX9_after 23 = .ok (.ireturn, 1) := by decide +kernel
theorem dX9_after_24 : decode cX9_after 24 = .ok (.aload_n 0, 1) := by decide +kernel
theorem dX9_after_25 : decode cX9_after 25 = .ok (.aload_n 0, 1) := by decide +kernel
theorem dX9_after_26 : decode cX9_after 26 = .ok (.getfield 12, 3) := by decide +kernel
theorem dX9_after_29 : decode cX9_after 29 = .ok (.iload_n 1, 1) := by decide +kernel
theorem dX9_after_30 : decode cX9_after 30 = .ok (.iload_n 2, 1) := by decide +kernel
theorem dX9_after_31 : decode cX9_after 31 = .ok (.iload_n 3, 1) := by decide +kernel
theorem dX9_after_32 : decode cX9_after 32 = .ok (.invokevirtual 99, 3) := by decide +kernel
theorem dX9_after_35 : decode cX9_after 35 = .ok (.invokevirtual 96, 3) := by decide +kernel
theorem dX9_after_38 : decode cX9_after 38 = .ok (.ireturn, 1) := by decide +kernel
theorem dX9_feed_0 : decode cX9_feed 0 = .ok (.aload_n 0, 1) := by decide +kernel
theorem dX9_feed_1 : decode cX9_feed 1 = .ok (.getfield 21, 3) := by decide +kernel
theorem dX9_feed_4 : decode cX9_feed 4 = .ok (.getfield 103, 3) := by decide +kernel
theorem dX9_feed_7 : decode cX9_feed 7 = .ok (.bipush 20, 2) := by decide +kernel
theorem dX9_feed_9 : decode cX9_feed 9 = .ok (.iadd, 1) := by decide +kernel
theorem dX9_feed_10 : decode cX9_feed 10 = .ok (.sipush 400, 3) := by decide +kernel
theorem dX9_feed_13 : decode cX9_feed 13 = .ok (.if_icmp .le 5, 3) := by decide +kernel
theorem dX9_feed_16 : decode cX9_feed 16 = .ok (.iconst (-1), 1) := by decide +kernel
theorem dX9_feed_17 : decode cX9_feed 17 = .ok (.ireturn, 1) := by decide +kernel
theorem dX9_feed_18 : decode cX9_feed 18 = .ok (.aload_n 0, 1) := by decide +kernel
theorem dX9_feed_19 : decode cX9_feed 19 = .ok (.getfield 21, 3) := by decide +kernel
theorem dX9_feed_22 : decode cX9_feed 22 = .ok (.iload_n 1, 1) := by decide +kernel
theorem dX9_feed_23 : decode cX9_feed 23 = .ok (.invokevirtual 106, 3) := by decide +kernel
theorem dX9_feed_26 : decode cX9_feed 26 = .ok (.aload_n 0, 1) := by decide +kernel
theorem dX9_feed_27 : decode cX9_feed 27 = .ok (.getfield 21, 3) := by decide +kernel
theorem dX9_feed_30 : decode cX9_feed 30 = .ok (.iload_n 2, 1) := by decide +kernel
theorem dX9_feed_31 : decode cX9_feed 31 = .ok (.invokevirtual 106, 3) := by decide +kernel
theorem dX9_feed_34 : decode cX9_feed 34 = .ok (.aload_n 0, 1) := by decide +kernel
theorem dX9_feed_35 : decode cX9_feed 35 = .ok (.getfield 21, 3) := by decide +kernel
theorem dX9_feed_38 : decode cX9_feed 38 = .ok (.iload_n 3, 1) := by decide +kernel
theorem dX9_feed_39 : decode cX9_feed 39 = .ok (.invokevirtual 106, 3) := by decide +kernel
theorem dX9_feed_42 : decode cX9_feed 42 = .ok (.aload_n 0, 1) := by decide +kernel
theorem dX9_feed_43 : decode cX9_feed 43 = .ok (.getfield 21, 3) := by decide +kernel
theorem dX9_feed_46 : decode cX9_feed 46 = .ok (.iload 4, 2) := by decide +kernel
theorem dX9_feed_48 : decode cX9_feed 48 = .ok (.invokevirtual 106, 3) := by decide +kernel
theorem dX9_feed_51 : decode cX9_feed 51 = .ok (.aload_n 0, 1) := by decide +kernel
theorem dX9_feed_52 : decode cX9_feed 52 = .ok (.getfield 21, 3) := by decide +kernel
theorem dX9_feed_55 : decode cX9_feed 55 = .ok (.iload 5, 2) := by decide +kernel
theorem dX9_feed_57 : decode cX9_feed 57 = .ok (.invokevirtual 106, 3) := by decide +kernel
theorem dX9_feed_60 : decode cX9_feed 60 = .ok (.aload_n 0, 1) := by decide +kernel
theorem dX9_feed_61 : decode cX9_feed 61 = .ok (.getfield 21, 3) := by decide +kernel
theorem dX9_feed_64 : decode cX9_feed 64 = .ok (.getfield 103, 3) := by decide +kernel
theorem dX9_feed_67 : decode cX9_feed 67 = .ok (.ireturn, 1) := by decide +kernel
theorem dX9_form_0 : decode cX9_form 0 = .ok (.aload_n 0, 1) := by decide +kernel
theorem dX9_form_1 : decode cX9_form 1 = .ok (.getfield 21, 3) := by decide +kernel
theorem dX9_form_4 : decode cX9_form 4 = .ok (.iload_n 1, 1) := by decide +kernel
theorem dX9_form_5 : decode cX9_form 5 = .ok (.invokevirtual 110, 3) := by decide +kernel
theorem dX9_form_8 : decode cX9_form 8 = .ok (.ifCond .ne 9, 3) := by decide +kernel
theorem dX9_form_11 : decode cX9_form 11 = .ok (.aload_n 0, 1) := by decide +kernel
theorem dX9_form_12 : decode cX9_form 12 = .ok (.iconst 2, 1) := by decide +kernel
theorem dX9_form_13 : decode cX9_form 13 = .ok (.invokevirtual 89, 3) := by decide +kernel
theorem dX9_form_16 : decode cX9_form 16 = .ok (.ireturn, 1) := by decide +kernel
theorem dX9_form_17 : decode cX9_form 17 = .ok (.aload_n 0, 1) := by decide +kernel
theorem dX9_form_18 : decode cX9_form 18 = .ok (.getfield 21, 3) := by decide +kernel
theorem dX9_form_21 : decode cX9_form 21 = .ok (.iload_n 1, 1) := by decide +kernel
theorem dX9_form_22 : decode cX9_form 22 = .ok (.invokevirtual 113, 3) := by decide +kernel
theorem dX9_form_25 : decode cX9_form 25 = .ok (.aload_n 0, 1) := by decide +kernel
theorem dX9_form_26 : decode cX9_form 26 = .ok (.getfield 27, 3) := by decide +kernel
theorem dX9_form_29 : decode cX9_form 29 = .ok (.aload_n 0, 1) := by decide +kernel
theorem dX9_form_30 : decode cX9_form 30 = .ok (.getfield 116, 3) := by decide +kernel
theorem dX9_form_33 : decode cX9_form 33 = .ok (.aaload, 1) := by decide +kernel
theorem dX9_form_34 : decode cX9_form 34 = .ok (.aload_n 0, 1) := by decide +kernel
theorem dX9_form_35 : decode cX9_form 35 = .ok (.getfield 21, 3) := by decide +kernel
theorem dX9_form_38 : decode cX9_form 38 = .ok (.invokevirtual 119, 3) := by decide +kernel
theorem dX9_form_41 : decode cX9_form 41 = .ok (.istore_n 2, 1) := by decide +kernel
theorem dX9_form_42 : decode cX9_form 42 = .ok (.aload_n 0, 1) := by decide +kernel
theorem dX9_form_43 : decode cX9_form 43 = .ok (.getfield 21, 3) := by decide +kernel
theorem dX9_form_46 : decode cX9_form 46 = .ok (.iconst 0, 1) := by decide +kernel
theorem dX9_form_47 : decode cX9_form 47 = .ok (.putfield 103, 3) := by decide +kernel
theorem dX9_form_50 : decode cX9_form 50 = .ok (.iload_n 2, 1) := by decide +kernel
theorem dX9_form_51 : decode cX9_form 51 = .ok (.ifCond .ne 9, 3) := by decide +kernel
theorem dX9_form_54 : decode cX9_form 54 = .ok (.aload_n 0, 1) := by decide +kernel
theorem dX9_form_55 : decode cX9_form 55 = .ok (.iconst 4, 1) := by decide +kernel
theorem dX9_form_56 : decode cX9_form 56 = .ok (.invokevirtual 89, 3) := by decide +kernel
theorem dX9_form_59 : decode cX9_form 59 = .ok (.ireturn, 1) := by decide +kernel
theorem dX9_form_60 : decode cX9_form 60 = .ok (.aload_n 0, 1) := by decide +kernel
theorem dX9_form_61 : decode cX9_form 61 = .ok (.getfield 116, 3) := by decide +kernel
theorem dX9_form_64 : decode cX9_form 64 = .ok (.bipush 12, 2) := by decide +kernel
theorem dX9_form_66 : decode cX9_form 66 = .ok (.if_icmp .lt 9, 3) := by decide +kernel
theorem dX9_form_69 : decode cX9_form 69 = .ok (.aload_n 0, 1) := by decide +kernel
theorem dX9_form_70 : decode cX9_form 70 = .ok (.iconst 3, 1) := by decide +kernel
theorem dX9_form_71 : decode cX9_form 71 = .ok (.invokevirtual 89, 3) := by decide +kernel
theorem dX9_form_74 : decode cX9_form 74 = .ok (.ireturn, 1) := by decide +kernel
theorem dX9_form_75 : decode cX9_form 75 = .ok (.aload_n 0, 1) := by decide +kernel
theorem dX9_form_76 : decode cX9_form 76 = .ok (.getfield 60, 3) := by decide +kernel
theorem dX9_form_79 : decode cX9_form 79 = .ok (.iconst 1, 1) := by decide +kernel
theorem dX9_form_80 : decode cX9_form 80 = .ok (.aload_n 0, 1) := by decide +kernel
theorem dX9_form_81 : decode cX9_form 81 = .ok (.getfield 116, 3) := by decide +kernel
theorem dX9_form_84 : decode cX9_form 84 = .ok (.lconst 0, 1) := by decide +kernel
theorem dX9_form_85 : decode cX9_form 85 = .ok (.lconst 0, 1) := by decide +kernel
theorem dX9_form_86 : decode cX9_form 86 = .ok (.invokevirtual 85, 3) := by decide +kernel
theorem dX9_form_89 : decode cX9_form 89 = .ok (.aload_n 0, 1) := by decide +kernel
theorem dX9_form_90 : decode cX9_form 90 = .ok (.dup, 1) := by decide +kernel
theorem dX9_form_91 : decode cX9_form 91 = .ok (.getfield 116, 3) := by decide +kernel
theorem dX9_form_94 : decode cX9_form 94 = .ok (.iconst 1, 1) := by decide +kernel
theorem dX9_form_95 : decode cX9_form 95 = .ok (.iadd, 1) := by decide +kernel
theorem dX9_form_96 : decode cX9_form 96 = .ok (.putfield 116, 3) := by decide +kernel
theorem dX9_form_99 : decode cX9_form 99 = .ok (.aload_n 0, 1) := by decide +kernel
theorem dX9_form_100 : decode cX9_form 100 = .ok (.aload_n 0, 1) := by decide +kernel
theorem dX9_form_101 : decode cX9_form 101 = .ok (.getfield 116, 3) := by decide +kernel
theorem dX9_form_104 : decode cX9_form 104 = .ok (.iconst 1, 1) := by decide +kernel
theorem dX9_form_105 : decode cX9_form 105 = .ok (.isub, 1) := by decide +kernel
theorem dX9_form_106 : decode cX9_form 106 = .ok (.invokevirtual 96, 3) := by decide +kernel
theorem dX9_form_109 : decode cX9_form 109 = .ok (.ireturn, 1) := by decide +kernel
theorem dX9_notice_0 : decode cX9_notice 0 = .ok (.aload_n 0, 1) := by decide +kernel
theorem dX9_notice_1 : decode cX9_notice 1 = .ok (.iload_n 1, 1) := by decide +kernel
theorem dX9_notice_2 : decode cX9_notice 2 = .ok (.invokevirtual 123, 3) := by decide +kernel
theorem dX9_notice_5 : decode cX9_notice 5 = .ok (.astore 5, 2) := by decide +kernel
theorem dX9_notice_7 : decode cX9_notice 7 = .ok (.aload 5, 2) := by decide +kernel
theorem dX9_notice_9 : decode cX9_notice 9 = .ok (.ifnonnull 9, 3) := by decide +kernel
theorem dX9_notice_12 : decode cX9_notice 12 = .ok (.aload_n 0, 1) := by decide +kernel
theorem dX9_notice_13 : decode cX9_notice 13 = .ok (.iconst 1, 1) := by decide +kernel
theorem dX9_notice_14 : decode cX9_notice 14 = .ok (.invokevirtual 89, 3) := by decide +kernel
theorem dX9_notice_17 : decode cX9_notice 17 = .ok (.ireturn, 1) := by decide +kernel
theorem dX9_notice_18 : decode cX9_notice 18 = .ok (.aload_n 0, 1) := by decide +kernel
theorem dX9_notice_19 : decode cX9_notice 19 = .ok (.getfield 21, 3) := by decide +kernel
theorem dX9_notice_22 : decode cX9_notice 22 = .ok (.iload_n 2, 1) := by decide +kernel
theorem dX9_notice_23 : decode cX9_notice 23 = .ok (.invokevirtual 110, 3) := by decide +kernel
theorem dX9_notice_26 : decode cX9_notice 26 = .ok (.ifCond .eq 22, 3) := by decide +kernel
theorem dX9_notice_29 : decode cX9_notice 29 = .ok (.iload_n 3, 1) := by decide +kernel
theorem dX9_notice_30 : decode cX9_notice 30 = .ok (.iconst 1, 1) := by decide +kernel
theorem dX9_notice_31 : decode cX9_notice 31 = .ok (.if_icmp .lt 17, 3) := by decide +kernel
theorem dX9_notice_34 : decode cX9_notice 34 = .ok (.iload_n 3, 1) := by decide +kernel
theorem dX9_notice_35 : decode cX9_notice 35 = .ok (.bipush 60, 2) := by decide +kernel
theorem dX9_notice_37 : decode cX9_notice 37 = .ok (.if_icmp .gt 11, 3) := by decide +kernel
theorem dX9_notice_40 : decode cX9_notice 40 = .ok (.iload 4, 2) := by decide +kernel
theorem dX9_notice_42 : decode cX9_notice 42 = .ok (.invokestatic 64, 3) := by decide +kernel
theorem dX9_notice_45 : decode cX9_notice 45 = .ok (.ifCond .ne 9, 3) := by decide +kernel
theorem dX9_notice_48 : decode cX9_notice 48 = .ok (.aload_n 0, 1) := by decide +kernel
theorem dX9_notice_49 : decode cX9_notice 49 = .ok (.iconst 2, 1) := by decide +kernel
theorem dX9_notice_50 : decode cX9_notice 50 = .ok (.invokevirtual 89, 3) := by decide +kernel
theorem dX9_notice_53 : decode cX9_notice 53 = .ok (.ireturn, 1) := by decide +kernel
theorem dX9_notice_54 : decode cX9_notice 54 = .ok (.aload_n 0, 1) := by decide +kernel
theorem dX9_notice_55 : decode cX9_notice 55 = .ok (.getfield 35, 3) := by decide +kernel
theorem dX9_notice_58 : decode cX9_notice 58 = .ok (.invokevirtual 127, 3) := by decide +kernel
theorem dX9_notice_61 : decode cX9_notice 61 = .ok (.astore 6, 2) := by decide +kernel
theorem dX9_notice_63 : decode cX9_notice 63 = .ok (.aload 6, 2) := by decide +kernel
theorem dX9_notice_65 : decode cX9_notice 65 = .ok (.iload_n 1, 1) := by decide +kernel
theorem dX9_notice_66 : decode cX9_notice 66 = .ok (.iload_n 3, 1) := by decide +kernel
theorem dX9_notice_67 : decode cX9_notice 67 = .ok (.iload 4, 2) := by decide +kernel
theorem dX9_notice_69 : decode cX9_notice 69 = .ok (.invokevirtual 131, 3) := by decide +kernel
theorem dX9_notice_72 : decode cX9_notice 72 = .ok (.aload_n 0, 1) := by decide +kernel
theorem dX9_notice_73 : decode cX9_notice 73 = .ok (.getfield 21, 3) := by decide +kernel
theorem dX9_notice_76 : decode cX9_notice 76 = .ok (.iload_n 2, 1) := by decide +kernel
theorem dX9_notice_77 : decode cX9_notice 77 = .ok (.invokevirtual 113, 3) := by decide +kernel
theorem dX9_notice_80 : decode cX9_notice 80 = .ok (.aload 5, 2) := by decide +kernel
theorem dX9_notice_82 : decode cX9_notice 82 = .ok (.aload_n 0, 1) := by decide +kernel
theorem dX9_notice_83 : decode cX9_notice 83 = .ok (.getfield 21, 3) := by decide +kernel
theorem dX9_notice_86 : decode cX9_notice 86 = .ok (.aload 6, 2) := by decide +kernel
theorem dX9_notice_88 : decode cX9_notice 88 = .ok (.getfield 137, 3) := by decide +kernel
theorem dX9_notice_91 : decode cX9_notice 91 = .ok (.invokevirtual 141, 3) := by decide +kernel
theorem dX9_notice_94 : decode cX9_notice 94 = .ok (.istore 7, 2) := by decide +kernel
theorem dX9_notice_96 : decode cX9_notice 96 = .ok (.aload_n 0, 1) := by decide +kernel
theorem dX9_notice_97 : decode cX9_notice 97 = .ok (.getfield 21, 3) := by decide +kernel
theorem dX9_notice_100 : decode cX9_notice 100 = .ok (.iconst 0, 1) := by decide +kernel
theorem dX9_notice_101 : decode cX9_notice 101 = .ok (.putfield 103, 3) := by decide +kernel
theorem dX9_notice_104 : decode cX9_notice 104 = .ok (.iload 7, 2) := by decide +kernel
theorem dX9_notice_106 : decode cX9_notice 106 = .ok (.ifCond .ne 9, 3) := by decide +kernel
theorem dX9_notice_109 : decode cX9_notice 109 = .ok (.aload_n 0, 1) := by decide +kernel
theorem dX9_notice_110 : decode cX9_notice 110 = .ok (.iconst 4, 1) := by decide +kernel
theorem dX9_notice_111 : decode cX9_notice 111 = .ok (.invokevirtual 89, 3) := by decide +kernel
theorem dX9_notice_114 : decode cX9_notice 114 = .ok (.ireturn, 1) := by decide +kernel
theorem dX9_notice_115 : decode cX9_notice 115 = .ok (.aload_n 0, 1) := by decide +kernel
theorem dX9_notice_116 : decode cX9_notice 116 = .ok (.getfield 35, 3) := by decide +kernel
theorem dX9_notice_119 : decode cX9_notice 119 = .ok (.getfield 145, 3) := by decide +kernel
theorem dX9_notice_122 : decode cX9_notice 122 = .ok (.bipush 60, 2) := by decide +kernel
theorem dX9_notice_124 : decode cX9_notice 124 = .ok (.if_icmp .lt 9, 3) := by decide +kernel
theorem dX9_notice_127 : decode cX9_notice 127 = .ok (.aload_n 0, 1) := by decide +kernel
theorem dX9_notice_128 : decode cX9_notice 128 = .ok (.iconst 3, 1) := by decide +kernel
theorem dX9_notice_129 : decode cX9_notice 129 = .ok (.invokevirtual 89, 3) := by decide +kernel
theorem dX9_notice_132 : decode cX9_notice 132 = .ok (.ireturn, 1) := by decide +kernel
theorem dX9_notice_133 : decode cX9_notice 133 = .ok (.aload_n 0, 1) := by decide +kernel
theorem dX9_notice_134 : decode cX9_notice 134 = .ok (.getfield 60, 3) := by decide +kernel
theorem dX9_notice_137 : decode cX9_notice 137 = .ok (.iconst 2, 1) := by decide +kernel
theorem dX9_notice_138 : decode cX9_notice 138 = .ok (.aload_n 0, 1) := by decide +kernel
theorem dX9_notice_139 : decode cX9_notice 139 = .ok (.getfield 35, 3) := by decide +kernel
theorem dX9_notice_142 : decode cX9_notice 142 = .ok (.getfield 145, 3) := by decide +kernel
theorem dX9_notice_145 : decode cX9_notice 145 = .ok (.lconst 0, 1) := by decide +kernel
theorem dX9_notice_146 : decode cX9_notice 146 = .ok (.lconst 0, 1) := by decide +kernel
theorem dX9_notice_147 : decode cX9_notice 147 = .ok (.invokevirtual 85, 3) := by decide +kernel
theorem dX9_notice_150 : decode cX9_notice 150 = .ok (.aload_n 0, 1) := by decide +kernel
theorem dX9_notice_151 : decode cX9_notice 151 = .ok (.getfield 35, 3) := by decide +kernel
theorem dX9_notice_154 : decode cX9_notice 154 = .ok (.dup, 1) := by decide +kernel
theorem dX9_notice_155 : decode cX9_notice 155 = .ok (.getfield 145, 3) := by decide +kernel
theorem dX9_notice_158 : decode cX9_notice 158 = .ok (.iconst 1, 1) := by decide +kernel
theorem dX9_notice_159 : decode cX9_notice 159 = .ok (.iadd, 1) := by decide +kernel
theorem dX9_notice_160 : decode cX9_notice 160 = .ok (.putfield 145, 3) := by decide +kernel
theorem dX9_notice_163 : decode cX9_notice 163 = .ok (.aload_n 0, 1) := by decide +kernel
theorem dX9_notice_164 : decode cX9_notice 164 = .ok (.aload_n 0, 1) := by decide +kernel
theorem dX9_notice_165 : decode cX9_notice 165 = .ok (.getfield 35, 3) := by decide +kernel
theorem dX9_notice_168 : decode cX9_notice 168 = .ok (.getfield 145, 3) := by decide +kernel
theorem dX9_notice_171 : decode cX9_notice 171 = .ok (.iconst 1, 1) := by decide +kernel
theorem dX9_notice_172 : decode cX9_notice 172 = .ok (.isub, 1) := by decide +kernel
theorem dX9_notice_173 : decode cX9_notice 173 = .ok (.invokevirtual 96, 3) := by decide +kernel
theorem dX9_notice_176 : decode cX9_notice 176 = .ok (.ireturn, 1) := by decide +kernel
theorem dX9_fault_0 : decode cX9_fault 0 = .ok (.aload_n 0, 1) := by decide +kernel
theorem dX9_fault_1 : decode cX9_fault 1 = .ok (.getfield 21, 3) := by decide +kernel
theorem dX9_fault_4 : decode cX9_fault 4 = .ok (.getfield 148, 3) := by decide +kernel
theorem dX9_fault_7 : decode cX9_fault 7 = .ok (.ireturn, 1) := by decide +kernel
theorem dX9_where_0 : decode cX9_where 0 = .ok (.aload_n 0, 1) := by decide +kernel
theorem dX9_where_1 : decode cX9_where 1 = .ok (.getfield 151, 3) := by decide +kernel
theorem dX9_where_4 : decode cX9_where 4 = .ok (.iconst 4, 1) := by decide +kernel
theorem dX9_where_5 : decode cX9_where 5 = .ok (.if_icmp .ne 13, 3) := by decide +kernel
theorem dX9_where_8 : decode cX9_where 8 = .ok (.aload_n 0, 1) := by decide +kernel
theorem dX9_where_9 : decode cX9_where 9 = .ok (.getfield 21, 3) := by decide +kernel
theorem dX9_where_12 : decode cX9_where 12 = .ok (.getfield 154, 3) := by decide +kernel
theorem dX9_where_15 : decode cX9_where 15 = .ok (.goto 4, 3) := by decide +kernel
theorem dX9_where_18 : decode cX9_where 18 = .ok (.iconst (-1), 1) := by decide +kernel
theorem dX9_where_19 : decode cX9_where 19 = .ok (.ireturn, 1) := by decide +kernel
theorem dX9_lacks_0 : decode cX9_lacks 0 = .ok (.aload_n 0, 1) := by decide +kernel
theorem dX9_lacks_1 : decode cX9_lacks 1 = .ok (.getfield 21, 3) := by decide +kernel
theorem dX9_lacks_4 : decode cX9_lacks 4 = .ok (.getfield 148, 3) := by decide +kernel
theorem dX9_lacks_7 : decode cX9_lacks 7 = .ok (.bipush 6, 2) := by decide +kernel
theorem dX9_lacks_9 : decode cX9_lacks 9 = .ok (.if_icmp .ne 13, 3) := by decide +kernel
theorem dX9_lacks_12 : decode cX9_lacks 12 = .ok (.aload_n 0, 1) := by decide +kernel
theorem dX9_lacks_13 : decode cX9_lacks 13 = .ok (.getfield 21, 3) := by decide +kernel
theorem dX9_lacks_16 : decode cX9_lacks 16 = .ok (.getfield 157, 3) := by decide +kernel
theorem dX9_lacks_19 : decode cX9_lacks 19 = .ok (.goto 4, 3) := by decide +kernel
theorem dX9_lacks_22 : decode cX9_lacks 22 = .ok (.iconst (-1), 1) := by decide +kernel
theorem dX9_lacks_23 : decode cX9_lacks 23 = .ok (.ireturn, 1) := by decide +kernel
theorem dX9_field_0 : decode cX9_field 0 = .ok (.aload_n 0, 1) := by decide +kernel
theorem dX9_field_1 : decode cX9_field 1 = .ok (.iload_n 1, 1) := by decide +kernel
theorem dX9_field_2 : decode cX9_field 2 = .ok (.invokevirtual 123, 3) := by decide +kernel
theorem dX9_field_5 : decode cX9_field 5 = .ok (.astore 4, 2) := by decide +kernel
theorem dX9_field_7 : decode cX9_field 7 = .ok (.aload 4, 2) := by decide +kernel
theorem dX9_field_9 : decode cX9_field 9 = .ok (.ifnull 16, 3) := by decide +kernel
theorem dX9_field_12 : decode cX9_field 12 = .ok (.iload_n 2, 1) := by decide +kernel
theorem dX9_field_13 : decode cX9_field 13 = .ok (.ifCond .lt 12, 3) := by decide +kernel
theorem dX9_field_16 : decode cX9_field 16 = .ok (.iload_n 2, 1) := by decide +kernel
theorem dX9_field_17 : decode cX9_field 17 = .ok (.aload 4, 2) := by decide +kernel
theorem dX9_field_19 : decode cX9_field 19 = .ok (.getfield 160, 3) := by decide +kernel
theorem dX9_field_22 : decode cX9_field 22 = .ok (.if_icmp .lt 5, 3) := by decide +kernel
theorem dX9_field_25 : decode cX9_field 25 = .ok (.iconst (-1), 1) := by decide +kernel
theorem dX9_field_26 : decode cX9_field 26 = .ok (.ireturn, 1) := by decide +kernel
theorem dX9_field_27 : decode cX9_field 27 = .ok (.aload 4, 2) := by decide +kernel
theorem dX9_field_29 : decode cX9_field 29 = .ok (.getfield 161, 3) := by decide +kernel
theorem dX9_field_32 : decode cX9_field 32 = .ok (.iload_n 2, 1) := by decide +kernel
theorem dX9_field_33 : decode cX9_field 33 = .ok (.aaload, 1) := by decide +kernel
theorem dX9_field_34 : decode cX9_field 34 = .ok (.astore 5, 2) := by decide +kernel
theorem dX9_field_36 : decode cX9_field 36 = .ok (.iload_n 3, 1) := by decide +kernel
theorem dX9_field_37 : decode cX9_field 37 = .ok (.tableswitch 80 0 3 #[31, 37, 51, 74], 31) := by decide +kernel
theorem dX9_field_68 : decode cX9_field 68 = .ok (.aload 5, 2) := by decide +kernel
theorem dX9_field_70 : decode cX9_field 70 = .ok (.getfield 165, 3) := by decide +kernel
theorem dX9_field_73 : decode cX9_field 73 = .ok (.ireturn, 1) := by decide +kernel
theorem dX9_field_74 : decode cX9_field 74 = .ok (.aload 5, 2) := by decide +kernel
theorem dX9_field_76 : decode cX9_field 76 = .ok (.getfield 170, 3) := by decide +kernel
theorem dX9_field_79 : decode cX9_field 79 = .ok (.ifCond .eq 7, 3) := by decide +kernel
theorem dX9_field_82 : decode cX9_field 82 = .ok (.iconst 1, 1) := by decide +kernel
theorem dX9_field_83 : decode cX9_field 83 = .ok (.goto 4, 3) := by decide +kernel
theorem dX9_field_86 : decode cX9_field 86 = .ok (.iconst 0, 1) := by decide +kernel
theorem dX9_field_87 : decode cX9_field 87 = .ok (.ireturn, 1) := by decide +kernel
theorem dX9_field_88 : decode cX9_field 88 = .ok (.aload 5, 2) := by decide +kernel
theorem dX9_field_90 : decode cX9_field 90 = .ok (.getfield 165, 3) := by decide +kernel
theorem dX9_field_93 : decode cX9_field 93 = .ok (.iconst 3, 1) := by decide +kernel
theorem dX9_field_94 : decode cX9_field 94 = .ok (.if_icmp .ne 11, 3) := by decide +kernel
theorem dX9_field_97 : decode cX9_field 97 = .ok (.aload 5, 2) := by decide +kernel
theorem dX9_field_99 : decode cX9_field 99 = .ok (.getfield 174, 3) := by decide +kernel
theorem dX9_field_102 : decode cX9_field 102 = .ok (.goto 8, 3) := by decide +kernel
theorem dX9_field_105 : decode cX9_field 105 = .ok (.aload 5, 2) := by decide +kernel
theorem dX9_field_107 : decode cX9_field 107 = .ok (.getfield 177, 3) := by decide +kernel
theorem dX9_field_110 : decode cX9_field 110 = .ok (.ireturn, 1) := by decide +kernel
theorem dX9_field_111 : decode cX9_field 111 = .ok (.aload 5, 2) := by decide +kernel
theorem dX9_field_113 : decode cX9_field 113 = .ok (.getfield 180, 3) := by decide +kernel
theorem dX9_field_116 : decode cX9_field 116 = .ok (.ireturn, 1) := by decide +kernel
theorem dX9_field_117 : decode cX9_field 117 = .ok (.iconst (-1), 1) := by decide +kernel
theorem dX9_field_118 : decode cX9_field 118 = .ok (.ireturn, 1) := by decide +kernel
theorem dX9_fields_0 : decode cX9_fields 0 = .ok (.aload_n 0, 1) := by decide +kernel
theorem dX9_fields_1 : decode cX9_fields 1 = .ok (.iload_n 1, 1) := by decide +kernel
theorem dX9_fields_2 : decode cX9_fields 2 = .ok (.invokevirtual 123, 3) := by decide +kernel
theorem dX9_fields_5 : decode cX9_fields 5 = .ok (.astore_n 2, 1) := by decide +kernel
theorem dX9_fields_6 : decode cX9_fields 6 = .ok (.aload_n 2, 1) := by decide +kernel
theorem dX9_fields_7 : decode cX9_fields 7 = .ok (.ifnonnull 7, 3) := by decide +kernel
theorem dX9_fields_10 : decode cX9_fields 10 = .ok (.iconst (-1), 1) := by decide +kernel
theorem dX9_fields_11 : decode cX9_fields 11 = .ok (.goto 7, 3) := by decide +kernel
theorem dX9_fields_14 : decode cX9_fields 14 = .ok (.aload_n 2, 1) := by decide +kernel
theorem dX9_fields_15 : decode cX9_fields 15 = .ok (.getfield 160, 3) := by decide +kernel
theorem dX9_fields_18 : decode cX9_fields 18 = .ok (.ireturn, 1) := by decide +kernel
theorem dX9_value_0 : decode cX9_value 0 = .ok (.aload_n 0, 1) := by decide +kernel
theorem dX9_value_1 : decode cX9_value 1 = .ok (.getfield 35, 3) := by decide +kernel
theorem dX9_value_4 : decode cX9_value 4 = .ok (.iload_n 1, 1) := by decide +kernel
theorem dX9_value_5 : decode cX9_value 5 = .ok (.invokevirtual 183, 3) := by decide +kernel
theorem dX9_value_8 : decode cX9_value 8 = .ok (.astore_n 3, 1) := by decide +kernel
theorem dX9_value_9 : decode cX9_value 9 = .ok (.aload_n 3, 1) := by decide +kernel
theorem dX9_value_10 : decode cX9_value 10 = .ok (.ifnonnull 7, 3) := by decide +kernel
theorem dX9_value_13 : decode cX9_value 13 = .ok (.ldc2_w 187, 3) := by decide +kernel
theorem dX9_value_16 : decode cX9_value 16 = .ok (.lreturn, 1) := by decide +kernel
theorem dX9_value_17 : decode cX9_value 17 = .ok (.aload_n 0, 1) := by decide +kernel
theorem dX9_value_18 : decode cX9_value 18 = .ok (.aload_n 3, 1) := by decide +kernel
theorem dX9_value_19 : decode cX9_value 19 = .ok (.getfield 189, 3) := by decide +kernel
theorem dX9_value_22 : decode cX9_value 22 = .ok (.invokevirtual 123, 3) := by decide +kernel
theorem dX9_value_25 : decode cX9_value 25 = .ok (.astore 4, 2) := by decide +kernel
theorem dX9_value_27 : decode cX9_value 27 = .ok (.aload 4, 2) := by decide +kernel
theorem dX9_value_29 : decode cX9_value 29 = .ok (.ifnull 16, 3) := by decide +kernel
theorem dX9_value_32 : decode cX9_value 32 = .ok (.iload_n 2, 1) := by decide +kernel
theorem dX9_value_33 : decode cX9_value 33 = .ok (.ifCond .lt 12, 3) := by decide +kernel
theorem dX9_value_36 : decode cX9_value 36 = .ok (.iload_n 2, 1) := by decide +kernel
theorem dX9_value_37 : decode cX9_value 37 = .ok (.aload 4, 2) := by decide +kernel
theorem dX9_value_39 : decode cX9_value 39 = .ok (.getfield 160, 3) := by decide +kernel
theorem dX9_value_42 : decode cX9_value 42 = .ok (.if_icmp .lt 7, 3) := by decide +kernel
theorem dX9_value_45 : decode cX9_value 45 = .ok (.ldc2_w 187, 3) := by decide +kernel
theorem dX9_value_48 : decode cX9_value 48 = .ok (.lreturn, 1) := by decide +kernel
theorem dX9_value_49 : decode cX9_value 49 = .ok (.aload_n 3, 1) := by decide +kernel
theorem dX9_value_50 : decode cX9_value 50 = .ok (.invokevirtual 192, 3) := by decide +kernel
theorem dX9_value_53 : decode cX9_value 53 = .ok (.ifCond .eq 16, 3) := by decide +kernel
theorem dX9_value_56 : decode cX9_value 56 = .ok (.aload 4, 2) := by decide +kernel
theorem dX9_value_58 : decode cX9_value 58 = .ok (.aload_n 3, 1) := by decide +kernel
theorem dX9_value_59 : decode cX9_value 59 = .ok (.getfield 137, 3) := by decide +kernel
theorem dX9_value_62 : decode cX9_value 62 = .ok (.aload_n 0, 1) := by decide +kernel
theorem dX9_value_63 : decode cX9_value 63 = .ok (.getfield 12, 3) := by decide +kernel
theorem dX9_value_66 : decode cX9_value 66 = .ok (.invokevirtual 195, 3) := by decide +kernel
theorem dX9_value_69 : decode cX9_value 69 = .ok (.aload_n 3, 1) := by decide +kernel
theorem dX9_value_70 : decode cX9_value 70 = .ok (.getfield 137, 3) := by decide +kernel
theorem dX9_value_73 : decode cX9_value 73 = .ok (.iload_n 2, 1) := by decide +kernel
theorem dX9_value_74 : decode cX9_value 74 = .ok (.laload, 1) := by decide +kernel
theorem dX9_value_75 : decode cX9_value 75 = .ok (.lreturn, 1) := by decide +kernel
theorem dX9_about_0 : decode cX9_about 0 = .ok (.aload_n 0, 1) := by decide +kernel
theorem dX9_about_1 : decode cX9_about 1 = .ok (.getfield 35, 3) := by decide +kernel
theorem dX9_about_4 : decode cX9_about 4 = .ok (.iload_n 1, 1) := by decide +kernel
theorem dX9_about_5 : decode cX9_about 5 = .ok (.invokevirtual 183, 3) := by decide +kernel
theorem dX9_about_8 : decode cX9_about 8 = .ok (.astore_n 3, 1) := by decide +kernel
theorem dX9_about_9 : decode cX9_about 9 = .ok (.aload_n 3, 1) := by decide +kernel
theorem dX9_about_10 : decode cX9_about 10 = .ok (.ifnonnull 5, 3) := by decide +kernel
theorem dX9_about_13 : decode cX9_about 13 = .ok (.iconst (-1), 1) := by decide +kernel
theorem dX9_about_14 : decode cX9_about 14 = .ok (.ireturn, 1) := by decide +kernel
theorem dX9_about_15 : decode cX9_about 15 = .ok (.iload_n 2, 1) := by decide +kernel
theorem dX9_about_16 : decode cX9_about 16 = .ok (.tableswitch 108 0 7 #[48, 53, 58, 63, 68, 73, 78, 93], 48) := by decide +kernel
theorem dX9_about_64 : decode cX9_about 64 = .ok (.aload_n 3, 1) := by decide +kernel
theorem dX9_about_65 : decode cX9_about 65 = .ok (.getfield 189, 3) := by decide +kernel
theorem dX9_about_68 : decode cX9_about 68 = .ok (.ireturn, 1) := by decide +kernel
theorem dX9_about_69 : decode cX9_about 69 = .ok (.aload_n 3, 1) := by decide +kernel
theorem dX9_about_70 : decode cX9_about 70 = .ok (.getfield 199, 3) := by decide +kernel
theorem dX9_about_73 : decode cX9_about 73 = .ok (.ireturn, 1) := by decide +kernel
theorem dX9_about_74 : decode cX9_about 74 = .ok (.aload_n 3, 1) := by decide +kernel
theorem dX9_about_75 : decode cX9_about 75 = .ok (.getfield 202, 3) := by decide +kernel
theorem dX9_about_78 : decode cX9_about 78 = .ok (.ireturn, 1) := by decide +kernel
theorem dX9_about_79 : decode cX9_about 79 = .ok (.aload_n 3, 1) := by decide +kernel
theorem dX9_about_80 : decode cX9_about 80 = .ok (.getfield 205, 3) := by decide +kernel
theorem dX9_about_83 : decode cX9_about 83 = .ok (.ireturn, 1) := by decide +kernel
theorem dX9_about_84 : decode cX9_about 84 = .ok (.aload_n 3, 1) := by decide +kernel
theorem dX9_about_85 : decode cX9_about 85 = .ok (.getfield 208, 3) := by decide +kernel
theorem dX9_about_88 : decode cX9_about 88 = .ok (.ireturn, 1) := by decide +kernel
theorem dX9_about_89 : decode cX9_about 89 = .ok (.aload_n 3, 1) := by decide +kernel
theorem dX9_about_90 : decode cX9_about 90 = .ok (.getfield 211, 3) := by decide +kernel
theorem dX9_about_93 : decode cX9_about 93 = .ok (.ireturn, 1) := by decide +kernel
theorem dX9_about_94 : decode cX9_about 94 = .ok (.aload_n 3, 1) := by decide +kernel
theorem dX9_about_95 : decode cX9_about 95 = .ok (.getfield 214, 3) := by decide +kernel
theorem dX9_about_98 : decode cX9_about 98 = .ok (.lconst 0, 1) := by decide +kernel
theorem dX9_about_99 : decode cX9_about 99 = .ok (.lcmp, 1) := by decide +kernel
theorem dX9_about_100 : decode cX9_about 100 = .ok (.ifCond .eq 7, 3) := by decide +kernel
theorem dX9_about_103 : decode cX9_about 103 = .ok (.iconst 1, 1) := by decide +kernel
theorem dX9_about_104 : decode cX9_about 104 = .ok (.goto 4, 3) := by decide +kernel
theorem dX9_about_107 : decode cX9_about 107 = .ok (.iconst 0, 1) := by decide +kernel
theorem dX9_about_108 : decode cX9_about 108 = .ok (.ireturn, 1) := by decide +kernel
theorem dX9_about_109 : decode cX9_about 109 = .ok (.aload_n 3, 1) := by decide +kernel
theorem dX9_about_110 : decode cX9_about 110 = .ok (.getfield 218, 3) := by decide +kernel
theorem dX9_about_113 : decode cX9_about 113 = .ok (.lconst 0, 1) := by decide +kernel
theorem dX9_about_114 : decode cX9_about 114 = .ok (.lcmp, 1) := by decide +kernel
theorem dX9_about_115 : decode cX9_about 115 = .ok (.ifCond .eq 7, 3) := by decide +kernel
theorem dX9_about_118 : decode cX9_about 118 = .ok (.iconst 1, 1) := by decide +kernel
theorem dX9_about_119 : decode cX9_about 119 = .ok (.goto 4, 3) := by decide +kernel
theorem dX9_about_122 : decode cX9_about 122 = .ok (.iconst 0, 1) := by decide +kernel
theorem dX9_about_123 : decode cX9_about 123 = .ok (.ireturn, 1) := by decide +kernel
theorem dX9_about_124 : decode cX9_about 124 = .ok (.iconst (-1), 1) := by decide +kernel
theorem dX9_about_125 : decode cX9_about 125 = .ok (.ireturn, 1) := by decide +kernel
theorem dX9_says_0 : decode cX9_says 0 = .ok (.aload_n 0, 1) := by decide +kernel
theorem dX9_says_1 : decode cX9_says 1 = .ok (.getfield 35, 3) := by decide +kernel
theorem dX9_says_4 : decode cX9_says 4 = .ok (.iload_n 1, 1) := by decide +kernel
theorem dX9_says_5 : decode cX9_says 5 = .ok (.invokevirtual 183, 3) := by decide +kernel
theorem dX9_says_8 : decode cX9_says 8 = .ok (.astore 5, 2) := by decide +kernel
theorem dX9_says_10 : decode cX9_says 10 = .ok (.aload 5, 2) := by decide +kernel
theorem dX9_says_12 : decode cX9_says 12 = .ok (.ifnonnull 9, 3) := by decide +kernel
theorem dX9_says_15 : decode cX9_says 15 = .ok (.aload_n 0, 1) := by decide +kernel
theorem dX9_says_16 : decode cX9_says 16 = .ok (.iconst 1, 1) := by decide +kernel
theorem dX9_says_17 : decode cX9_says 17 = .ok (.invokevirtual 89, 3) := by decide +kernel
theorem dX9_says_20 : decode cX9_says 20 = .ok (.ireturn, 1) := by decide +kernel
theorem dX9_says_21 : decode cX9_says 21 = .ok (.aload 5, 2) := by decide +kernel
theorem dX9_says_23 : decode cX9_says 23 = .ok (.invokevirtual 192, 3) := by decide +kernel
theorem dX9_says_26 : decode cX9_says 26 = .ok (.ifCond .ne 10, 3) := by decide +kernel
theorem dX9_says_29 : decode cX9_says 29 = .ok (.aload_n 0, 1) := by decide +kernel
theorem dX9_says_30 : decode cX9_says 30 = .ok (.bipush 6, 2) := by decide +kernel
theorem dX9_says_32 : decode cX9_says 32 = .ok (.invokevirtual 89, 3) := by decide +kernel
theorem dX9_says_35 : decode cX9_says 35 = .ok (.ireturn, 1) := by decide +kernel
theorem dX9_says_36 : decode cX9_says 36 = .ok (.iload_n 2, 1) := by decide +kernel
theorem dX9_says_37 : decode cX9_says 37 = .ok (.invokestatic 221, 3) := by decide +kernel
theorem dX9_says_40 : decode cX9_says 40 = .ok (.ifCond .eq 17, 3) := by decide +kernel
theorem dX9_says_43 : decode cX9_says 43 = .ok (.iload_n 3, 1) := by decide +kernel
theorem dX9_says_44 : decode cX9_says 44 = .ok (.ldc 224, 2) := by decide +kernel
theorem dX9_says_46 : decode cX9_says 46 = .ok (.if_icmp .eq 11, 3) := by decide +kernel
theorem dX9_says_49 : decode cX9_says 49 = .ok (.iload 4, 2) := by decide +kernel
theorem dX9_says_51 : decode cX9_says 51 = .ok (.invokestatic 64, 3) := by decide +kernel
theorem dX9_says_54 : decode cX9_says 54 = .ok (.ifCond .ne 9, 3) := by decide +kernel
theorem dX9_says_57 : decode cX9_says 57 = .ok (.aload_n 0, 1) := by decide +kernel
theorem dX9_says_58 : decode cX9_says 58 = .ok (.iconst 2, 1) := by decide +kernel
theorem dX9_says_59 : decode cX9_says 59 = .ok (.invokevirtual 89, 3) := by decide +kernel
theorem dX9_says_62 : decode cX9_says 62 = .ok (.ireturn, 1) := by decide +kernel
theorem dX9_says_63 : decode cX9_says 63 = .ok (.aload 5, 2) := by decide +kernel
theorem dX9_says_65 : decode cX9_says 65 = .ok (.getfield 208, 3) := by decide +kernel
theorem dX9_says_68 : decode cX9_says 68 = .ok (.iconst 4, 1) := by decide +kernel
theorem dX9_says_69 : decode cX9_says 69 = .ok (.if_icmp .lt 9, 3) := by decide +kernel
theorem dX9_says_72 : decode cX9_says 72 = .ok (.aload_n 0, 1) := by decide +kernel
theorem dX9_says_73 : decode cX9_says 73 = .ok (.iconst 3, 1) := by decide +kernel
theorem dX9_says_74 : decode cX9_says 74 = .ok (.invokevirtual 89, 3) := by decide +kernel
theorem dX9_says_77 : decode cX9_says 77 = .ok (.ireturn, 1) := by decide +kernel
theorem dX9_says_78 : decode cX9_says 78 = .ok (.aload 5, 2) := by decide +kernel
theorem dX9_says_80 : decode cX9_says 80 = .ok (.iload_n 2, 1) := by decide +kernel
theorem dX9_says_81 : decode cX9_says 81 = .ok (.iload_n 3, 1) := by decide +kernel
theorem dX9_says_82 : decode cX9_says 82 = .ok (.iload 4, 2) := by decide +kernel
theorem dX9_says_84 : decode cX9_says 84 = .ok (.invokevirtual 225, 3) := by decide +kernel
theorem dX9_says_87 : decode cX9_says 87 = .ok (.aload_n 0, 1) := by decide +kernel
theorem dX9_says_88 : decode cX9_says 88 = .ok (.getfield 60, 3) := by decide +kernel
theorem dX9_says_91 : decode cX9_says 91 = .ok (.iconst 3, 1) := by decide +kernel
theorem dX9_says_92 : decode cX9_says 92 = .ok (.iload_n 1, 1) := by decide +kernel
theorem dX9_says_93 : decode cX9_says 93 = .ok (.lconst 0, 1) := by decide +kernel
theorem dX9_says_94 : decode cX9_says 94 = .ok (.lconst 0, 1) := by decide +kernel
theorem dX9_says_95 : decode cX9_says 95 = .ok (.invokevirtual 85, 3) := by decide +kernel
theorem dX9_says_98 : decode cX9_says 98 = .ok (.aload_n 0, 1) := by decide +kernel
theorem dX9_says_99 : decode cX9_says 99 = .ok (.aload 5, 2) := by decide +kernel
theorem dX9_says_101 : decode cX9_says 101 = .ok (.getfield 208, 3) := by decide +kernel
theorem dX9_says_104 : decode cX9_says 104 = .ok (.invokevirtual 96, 3) := by decide +kernel
theorem dX9_says_107 : decode cX9_says 107 = .ok (.ireturn, 1) := by decide +kernel
theorem dX9_corrects_0 : decode cX9_corrects 0 = .ok (.aload_n 0, 1) := by decide +kernel
theorem dX9_corrects_1 : decode cX9_corrects 1 = .ok (.getfield 35, 3) := by decide +kernel
theorem dX9_corrects_4 : decode cX9_corrects 4 = .ok (.iload_n 1, 1) := by decide +kernel
theorem dX9_corrects_5 : decode cX9_corrects 5 = .ok (.invokevirtual 183, 3) := by decide +kernel
theorem dX9_corrects_8 : decode cX9_corrects 8 = .ok (.astore_n 3, 1) := by decide +kernel
theorem dX9_corrects_9 : decode cX9_corrects 9 = .ok (.aload_n 3, 1) := by decide +kernel
theorem dX9_corrects_10 : decode cX9_corrects 10 = .ok (.ifnull 14, 3) := by decide +kernel
theorem dX9_corrects_13 : decode cX9_corrects 13 = .ok (.aload_n 0, 1) := by decide +kernel
theorem dX9_corrects_14 : decode cX9_corrects 14 = .ok (.getfield 35, 3) := by decide +kernel
theorem dX9_corrects_17 : decode cX9_corrects 17 = .ok (.iload_n 2, 1) := by decide +kernel
theorem dX9_corrects_18 : decode cX9_corrects 18 = .ok (.invokevirtual 183, 3) := by decide +kernel
theorem dX9_corrects_21 : decode cX9_corrects 21 = .ok (.ifnonnull 9, 3) := by decide +kernel
theorem dX9_corrects_24 : decode cX9_corrects 24 = .ok (.aload_n 0, 1) := by decide +kernel
theorem dX9_corrects_25 : decode cX9_corrects 25 = .ok (.iconst 1, 1) := by decide +kernel
theorem dX9_corrects_26 : decode cX9_corrects 26 = .ok (.invokevirtual 68, 3) := by decide +kernel
theorem dX9_corrects_29 : decode cX9_corrects 29 = .ok (.ireturn, 1) := by decide +kernel
theorem dX9_corrects_30 : decode cX9_corrects 30 = .ok (.aload_n 3, 1) := by decide +kernel
theorem dX9_corrects_31 : decode cX9_corrects 31 = .ok (.invokevirtual 192, 3) := by decide +kernel
theorem dX9_corrects_34 : decode cX9_corrects 34 = .ok (.ifCond .ne 10, 3) := by decide +kernel
theorem dX9_corrects_37 : decode cX9_corrects 37 = .ok (.aload_n 0, 1) := by decide +kernel
theorem dX9_corrects_38 : decode cX9_corrects 38 = .ok (.bipush 6, 2) := by decide +kernel
theorem dX9_corrects_40 : decode cX9_corrects 40 = .ok (.invokevirtual 68, 3) := by decide +kernel
theorem dX9_corrects_43 : decode cX9_corrects 43 = .ok (.ireturn, 1) := by decide +kernel
theorem dX9_corrects_44 : decode cX9_corrects 44 = .ok (.iload_n 2, 1) := by decide +kernel
theorem dX9_corrects_45 : decode cX9_corrects 45 = .ok (.iload_n 1, 1) := by decide +kernel
theorem dX9_corrects_46 : decode cX9_corrects 46 = .ok (.if_icmp .lt 9, 3) := by decide +kernel
theorem dX9_corrects_49 : decode cX9_corrects 49 = .ok (.aload_n 0, 1) := by decide +kernel
theorem dX9_corrects_50 : decode cX9_corrects 50 = .ok (.iconst 2, 1) := by decide +kernel
theorem dX9_corrects_51 : decode cX9_corrects 51 = .ok (.invokevirtual 68, 3) := by decide +kernel
theorem dX9_corrects_54 : decode cX9_corrects 54 = .ok (.ireturn, 1) := by decide +kernel
theorem dX9_corrects_55 : decode cX9_corrects 55 = .ok (.aload_n 0, 1) := by decide +kernel
theorem dX9_corrects_56 : decode cX9_corrects 56 = .ok (.getfield 60, 3) := by decide +kernel
theorem dX9_corrects_59 : decode cX9_corrects 59 = .ok (.iconst 4, 1) := by decide +kernel
theorem dX9_corrects_60 : decode cX9_corrects 60 = .ok (.iload_n 1, 1) := by decide +kernel
theorem dX9_corrects_61 : decode cX9_corrects 61 = .ok (.aload_n 3, 1) := by decide +kernel
theorem dX9_corrects_62 : decode cX9_corrects 62 = .ok (.getfield 211, 3) := by decide +kernel
theorem dX9_corrects_65 : decode cX9_corrects 65 = .ok (.i2l, 1) := by decide +kernel
theorem dX9_corrects_66 : decode cX9_corrects 66 = .ok (.lconst 0, 1) := by decide +kernel
theorem dX9_corrects_67 : decode cX9_corrects 67 = .ok (.invokevirtual 85, 3) := by decide +kernel
theorem dX9_corrects_70 : decode cX9_corrects 70 = .ok (.aload_n 3, 1) := by decide +kernel
theorem dX9_corrects_71 : decode cX9_corrects 71 = .ok (.iload_n 2, 1) := by decide +kernel
theorem dX9_corrects_72 : decode cX9_corrects 72 = .ok (.putfield 211, 3) := by decide +kernel
theorem dX9_corrects_75 : decode cX9_corrects 75 = .ok (.aload_n 0, 1) := by decide +kernel
theorem dX9_corrects_76 : decode cX9_corrects 76 = .ok (.invokevirtual 74, 3) := by decide +kernel
theorem dX9_corrects_79 : decode cX9_corrects 79 = .ok (.ireturn, 1) := by decide +kernel
theorem dX9_renames_0 : decode cX9_renames 0 = .ok (.aload_n 0, 1) := by decide +kernel
theorem dX9_renames_1 : decode cX9_renames 1 = .ok (.getfield 35, 3) := by decide +kernel
theorem dX9_renames_4 : decode cX9_renames 4 = .ok (.iload_n 1, 1) := by decide +kernel
theorem dX9_renames_5 : decode cX9_renames 5 = .ok (.invokevirtual 183, 3) := by decide +kernel
theorem dX9_renames_8 : decode cX9_renames 8 = .ok (.astore 6, 2) := by decide +kernel
theorem dX9_renames_10 : decode cX9_renames 10 = .ok (.aload 6, 2) := by decide +kernel
theorem dX9_renames_12 : decode cX9_renames 12 = .ok (.ifnonnull 9, 3) := by decide +kernel
theorem dX9_renames_15 : decode cX9_renames 15 = .ok (.aload_n 0, 1) := by decide +kernel
theorem dX9_renames_16 : decode cX9_renames 16 = .ok (.iconst 1, 1) := by decide +kernel
theorem dX9_renames_17 : decode cX9_renames 17 = .ok (.invokevirtual 68, 3) := by decide +kernel
theorem dX9_renames_20 : decode cX9_renames 20 = .ok (.ireturn, 1) := by decide +kernel
theorem dX9_renames_21 : decode cX9_renames 21 = .ok (.aload 6, 2) := by decide +kernel
theorem dX9_renames_23 : decode cX9_renames 23 = .ok (.invokevirtual 192, 3) := by decide +kernel
theorem dX9_renames_26 : decode cX9_renames 26 = .ok (.ifCond .ne 10, 3) := by decide +kernel
theorem dX9_renames_29 : decode cX9_renames 29 = .ok (.aload_n 0, 1) := by decide +kernel
theorem dX9_renames_30 : decode cX9_renames 30 = .ok (.bipush 6, 2) := by decide +kernel
theorem dX9_renames_32 : decode cX9_renames 32 = .ok (.invokevirtual 68, 3) := by decide +kernel
theorem dX9_renames_35 : decode cX9_renames 35 = .ok (.ireturn, 1) := by decide +kernel
theorem dX9_renames_36 : decode cX9_renames 36 = .ok (.lload_n 2, 1) := by decide +kernel
theorem dX9_renames_37 : decode cX9_renames 37 = .ok (.invokestatic 228, 3) := by decide +kernel
theorem dX9_renames_40 : decode cX9_renames 40 = .ok (.ifCond .eq 18, 3) := by decide +kernel
theorem dX9_renames_43 : decode cX9_renames 43 = .ok (.lload 4, 2) := by decide +kernel
theorem dX9_renames_45 : decode cX9_renames 45 = .ok (.invokestatic 228, 3) := by decide +kernel
theorem dX9_renames_48 : decode cX9_renames 48 = .ok (.ifCond .eq 10, 3) := by decide +kernel
theorem dX9_renames_51 : decode cX9_renames 51 = .ok (.lload_n 2, 1) := by decide +kernel
theorem dX9_renames_52 : decode cX9_renames 52 = .ok (.lload 4, 2) := by decide +kernel
theorem dX9_renames_54 : decode cX9_renames 54 = .ok (.lcmp, 1) := by decide +kernel
theorem dX9_renames_55 : decode cX9_renames 55 = .ok (.ifCond .ne 9, 3) := by decide +kernel
theorem dX9_renames_58 : decode cX9_renames 58 = .ok (.aload_n 0, 1) := by decide +kernel
theorem dX9_renames_59 : decode cX9_renames 59 = .ok (.iconst 2, 1) := by decide +kernel
theorem dX9_renames_60 : decode cX9_renames 60 = .ok (.invokevirtual 68, 3) := by decide +kernel
theorem dX9_renames_63 : decode cX9_renames 63 = .ok (.ireturn, 1) := by decide +kernel
theorem dX9_renames_64 : decode cX9_renames 64 = .ok (.aload_n 0, 1) := by decide +kernel
theorem dX9_renames_65 : decode cX9_renames 65 = .ok (.getfield 60, 3) := by decide +kernel
theorem dX9_renames_68 : decode cX9_renames 68 = .ok (.iconst 5, 1) := by decide +kernel
theorem dX9_renames_69 : decode cX9_renames 69 = .ok (.iload_n 1, 1) := by decide +kernel
theorem dX9_renames_70 : decode cX9_renames 70 = .ok (.aload 6, 2) := by decide +kernel
theorem dX9_renames_72 : decode cX9_renames 72 = .ok (.getfield 232, 3) := by decide +kernel
theorem dX9_renames_75 : decode cX9_renames 75 = .ok (.aload 6, 2) := by decide +kernel
theorem dX9_renames_77 : decode cX9_renames 77 = .ok (.getfield 214, 3) := by decide +kernel
theorem dX9_renames_80 : decode cX9_renames 80 = .ok (.invokevirtual 85, 3) := by decide +kernel
theorem dX9_renames_83 : decode cX9_renames 83 = .ok (.aload 6, 2) := by decide +kernel
theorem dX9_renames_85 : decode cX9_renames 85 = .ok (.lload_n 2, 1) := by decide +kernel
theorem dX9_renames_86 : decode cX9_renames 86 = .ok (.putfield 232, 3) := by decide +kernel
theorem dX9_renames_89 : decode cX9_renames 89 = .ok (.aload 6, 2) := by decide +kernel
theorem dX9_renames_91 : decode cX9_renames 91 = .ok (.lload 4, 2) := by decide +kernel
theorem dX9_renames_93 : decode cX9_renames 93 = .ok (.putfield 214, 3) := by decide +kernel
theorem dX9_renames_96 : decode cX9_renames 96 = .ok (.aload_n 0, 1) := by decide +kernel
theorem dX9_renames_97 : decode cX9_renames 97 = .ok (.invokevirtual 74, 3) := by decide +kernel
theorem dX9_renames_100 : decode cX9_renames 100 = .ok (.ireturn, 1) := by decide +kernel
theorem dX9_strikes_0 : decode cX9_strikes 0 = .ok (.aload_n 0, 1) := by decide +kernel
theorem dX9_strikes_1 : decode cX9_strikes 1 = .ok (.getfield 35, 3) := by decide +kernel
theorem dX9_strikes_4 : decode cX9_strikes 4 = .ok (.iload_n 1, 1) := by decide +kernel
theorem dX9_strikes_5 : decode cX9_strikes 5 = .ok (.invokevirtual 183, 3) := by decide +kernel
theorem dX9_strikes_8 : decode cX9_strikes 8 = .ok (.astore 4, 2) := by decide +kernel
theorem dX9_strikes_10 : decode cX9_strikes 10 = .ok (.aload 4, 2) := by decide +kernel
theorem dX9_strikes_12 : decode cX9_strikes 12 = .ok (.ifnonnull 9, 3) := by decide +kernel
theorem dX9_strikes_15 : decode cX9_strikes 15 = .ok (.aload_n 0, 1) := by decide +kernel
theorem dX9_strikes_16 : decode cX9_strikes 16 = .ok (.iconst 1, 1) := by decide +kernel
theorem dX9_strikes_17 : decode cX9_strikes 17 = .ok (.invokevirtual 68, 3) := by decide +kernel
theorem dX9_strikes_20 : decode cX9_strikes 20 = .ok (.ireturn, 1) := by decide +kernel
theorem dX9_strikes_21 : decode cX9_strikes 21 = .ok (.aload 4, 2) := by decide +kernel
theorem dX9_strikes_23 : decode cX9_strikes 23 = .ok (.invokevirtual 192, 3) := by decide +kernel
theorem dX9_strikes_26 : decode cX9_strikes 26 = .ok (.ifCond .ne 10, 3) := by decide +kernel
theorem dX9_strikes_29 : decode cX9_strikes 29 = .ok (.aload_n 0, 1) := by decide +kernel
theorem dX9_strikes_30 : decode cX9_strikes 30 = .ok (.bipush 6, 2) := by decide +kernel
theorem dX9_strikes_32 : decode cX9_strikes 32 = .ok (.invokevirtual 68, 3) := by decide +kernel
theorem dX9_strikes_35 : decode cX9_strikes 35 = .ok (.ireturn, 1) := by decide +kernel
theorem dX9_strikes_36 : decode cX9_strikes 36 = .ok (.lload_n 2, 1) := by decide +kernel
theorem dX9_strikes_37 : decode cX9_strikes 37 = .ok (.invokestatic 228, 3) := by decide +kernel
theorem dX9_strikes_40 : decode cX9_strikes 40 = .ok (.ifCond .ne 9, 3) := by decide +kernel
theorem dX9_strikes_43 : decode cX9_strikes 43 = .ok (.aload_n 0, 1) := by decide +kernel
theorem dX9_strikes_44 : decode cX9_strikes 44 = .ok (.iconst 2, 1) := by decide +kernel
theorem dX9_strikes_45 : decode cX9_strikes 45 = .ok (.invokevirtual 68, 3) := by decide +kernel
theorem dX9_strikes_48 : decode cX9_strikes 48 = .ok (.ireturn, 1) := by decide +kernel
theorem dX9_strikes_49 : decode cX9_strikes 49 = .ok (.aload_n 0, 1) := by decide +kernel
theorem dX9_strikes_50 : decode cX9_strikes 50 = .ok (.getfield 60, 3) := by decide +kernel
theorem dX9_strikes_53 : decode cX9_strikes 53 = .ok (.bipush 6, 2) := by decide +kernel
theorem dX9_strikes_55 : decode cX9_strikes 55 = .ok (.iload_n 1, 1) := by decide +kernel
theorem dX9_strikes_56 : decode cX9_strikes 56 = .ok (.aload 4, 2) := by decide +kernel
theorem dX9_strikes_58 : decode cX9_strikes 58 = .ok (.getfield 218, 3) := by decide +kernel
theorem dX9_strikes_61 : decode cX9_strikes 61 = .ok (.lconst 0, 1) := by decide +kernel
theorem dX9_strikes_62 : decode cX9_strikes 62 = .ok (.invokevirtual 85, 3) := by decide +kernel
theorem dX9_strikes_65 : decode cX9_strikes 65 = .ok (.aload 4, 2) := by decide +kernel
theorem dX9_strikes_67 : decode cX9_strikes 67 = .ok (.lload_n 2, 1) := by decide +kernel
theorem dX9_strikes_68 : decode cX9_strikes 68 = .ok (.putfield 218, 3) := by decide +kernel
theorem dX9_strikes_71 : decode cX9_strikes 71 = .ok (.aload_n 0, 1) := by decide +kernel
theorem dX9_strikes_72 : decode cX9_strikes 72 = .ok (.invokevirtual 74, 3) := by decide +kernel
theorem dX9_strikes_75 : decode cX9_strikes 75 = .ok (.ireturn, 1) := by decide +kernel
theorem dX9_issue_0 : decode cX9_issue 0 = .ok (.iload_n 1, 1) := by decide +kernel
theorem dX9_issue_1 : decode cX9_issue 1 = .ok (.invokestatic 64, 3) := by decide +kernel
theorem dX9_issue_4 : decode cX9_issue 4 = .ok (.ifCond .eq 23, 3) := by decide +kernel
theorem dX9_issue_7 : decode cX9_issue 7 = .ok (.iload_n 1, 1) := by decide +kernel
theorem dX9_issue_8 : decode cX9_issue 8 = .ok (.aload_n 0, 1) := by decide +kernel
theorem dX9_issue_9 : decode cX9_issue 9 = .ok (.getfield 46, 3) := by decide +kernel
theorem dX9_issue_12 : decode cX9_issue 12 = .ok (.if_icmp .le 15, 3) := by decide +kernel
theorem dX9_issue_15 : decode cX9_issue 15 = .ok (.iload_n 2, 1) := by decide +kernel
theorem dX9_issue_16 : decode cX9_issue 16 = .ok (.iload_n 1, 1) := by decide +kernel
theorem dX9_issue_17 : decode cX9_issue 17 = .ok (.if_icmp .le 10, 3) := by decide +kernel
theorem dX9_issue_20 : decode cX9_issue 20 = .ok (.iload_n 2, 1) := by decide +kernel
theorem dX9_issue_21 : decode cX9_issue 21 = .ok (.sipush 10000, 3) := by decide +kernel
theorem dX9_issue_24 : decode cX9_issue 24 = .ok (.if_icmp .le 9, 3) := by decide +kernel
theorem dX9_issue_27 : decode cX9_issue 27 = .ok (.aload_n 0, 1) := by decide +kernel
theorem dX9_issue_28 : decode cX9_issue 28 = .ok (.iconst 2, 1) := by decide +kernel
theorem dX9_issue_29 : decode cX9_issue 29 = .ok (.invokevirtual 89, 3) := by decide +kernel
theorem dX9_issue_32 : decode cX9_issue 32 = .ok (.ireturn, 1) := by decide +kernel
theorem dX9_issue_33 : decode cX9_issue 33 = .ok (.iload_n 3, 1) := by decide +kernel
theorem dX9_issue_34 : decode cX9_issue 34 = .ok (.iconst 1, 1) := by decide +kernel
theorem dX9_issue_35 : decode cX9_issue 35 = .ok (.if_icmp .lt 23, 3) := by decide +kernel
theorem dX9_issue_38 : decode cX9_issue 38 = .ok (.iload_n 3, 1) := by decide +kernel
theorem dX9_issue_39 : decode cX9_issue 39 = .ok (.bipush 8, 2) := by decide +kernel
theorem dX9_issue_41 : decode cX9_issue 41 = .ok (.if_icmp .gt 17, 3) := by decide +kernel
theorem dX9_issue_44 : decode cX9_issue 44 = .ok (.iload 4, 2) := by decide +kernel
theorem dX9_issue_46 : decode cX9_issue 46 = .ok (.bipush 10, 2) := by decide +kernel
theorem dX9_issue_48 : decode cX9_issue 48 = .ok (.if_icmp .lt 10, 3) := by decide +kernel
theorem dX9_issue_51 : decode cX9_issue 51 = .ok (.iload 4, 2) := by decide +kernel
theorem dX9_issue_53 : decode cX9_issue 53 = .ok (.bipush 60, 2) := by decide +kernel
theorem dX9_issue_55 : decode cX9_issue 55 = .ok (.if_icmp .le 9, 3) := by decide +kernel
theorem dX9_issue_58 : decode cX9_issue 58 = .ok (.aload_n 0, 1) := by decide +kernel
theorem dX9_issue_59 : decode cX9_issue 59 = .ok (.iconst 2, 1) := by decide +kernel
theorem dX9_issue_60 : decode cX9_issue 60 = .ok (.invokevirtual 89, 3) := by decide +kernel
theorem dX9_issue_63 : decode cX9_issue 63 = .ok (.ireturn, 1) := by decide +kernel
theorem dX9_issue_64 : decode cX9_issue 64 = .ok (.aload_n 0, 1) := by decide +kernel
theorem dX9_issue_65 : decode cX9_issue 65 = .ok (.getfield 235, 3) := by decide +kernel
theorem dX9_issue_68 : decode cX9_issue 68 = .ok (.bipush 40, 2) := by decide +kernel
theorem dX9_issue_70 : decode cX9_issue 70 = .ok (.if_icmp .lt 9, 3) := by decide +kernel
theorem dX9_issue_73 : decode cX9_issue 73 = .ok (.aload_n 0, 1) := by decide +kernel
theorem dX9_issue_74 : decode cX9_issue 74 = .ok (.iconst 3, 1) := by decide +kernel
theorem dX9_issue_75 : decode cX9_issue 75 = .ok (.invokevirtual 89, 3) := by decide +kernel
theorem dX9_issue_78 : decode cX9_issue 78 = .ok (.ireturn, 1) := by decide +kernel
theorem dX9_issue_79 : decode cX9_issue 79 = .ok (.aload_n 0, 1) := by decide +kernel
theorem dX9_issue_80 : decode cX9_issue 80 = .ok (.getfield 53, 3) := by decide +kernel
theorem dX9_issue_83 : decode cX9_issue 83 = .ok (.iload_n 3, 1) := by decide +kernel
theorem dX9_issue_84 : decode cX9_issue 84 = .ok (.iload 4, 2) := by decide +kernel
theorem dX9_issue_86 : decode cX9_issue 86 = .ok (.invokevirtual 238, 3) := by decide +kernel
theorem dX9_issue_89 : decode cX9_issue 89 = .ok (.aload_n 0, 1) := by decide +kernel
theorem dX9_issue_90 : decode cX9_issue 90 = .ok (.getfield 35, 3) := by decide +kernel
theorem dX9_issue_93 : decode cX9_issue 93 = .ok (.aload_n 0, 1) := by decide +kernel
theorem dX9_issue_94 : decode cX9_issue 94 = .ok (.getfield 53, 3) := by decide +kernel
theorem dX9_issue_97 : decode cX9_issue 97 = .ok (.iload_n 2, 1) := by decide +kernel
theorem dX9_issue_98 : decode cX9_issue 98 = .ok (.invokevirtual 241, 3) := by decide +kernel
theorem dX9_issue_101 : decode cX9_issue 101 = .ok (.ifCond .ne 9, 3) := by decide +kernel
theorem dX9_issue_104 : decode cX9_issue 104 = .ok (.aload_n 0, 1) := by decide +kernel
theorem dX9_issue_105 : decode cX9_issue 105 = .ok (.iconst 5, 1) := by decide +kernel
theorem dX9_issue_106 : decode cX9_issue 106 = .ok (.invokevirtual 89, 3) := by decide +kernel
theorem dX9_issue_109 : decode cX9_issue 109 = .ok (.ireturn, 1) := by decide +kernel
theorem dX9_issue_110 : decode cX9_issue 110 = .ok (.aload_n 0, 1) := by decide +kernel
theorem dX9_issue_111 : decode cX9_issue 111 = .ok (.getfield 35, 3) := by decide +kernel
theorem dX9_issue_114 : decode cX9_issue 114 = .ok (.aload_n 0, 1) := by decide +kernel
theorem dX9_issue_115 : decode cX9_issue 115 = .ok (.getfield 53, 3) := by decide +kernel
theorem dX9_issue_118 : decode cX9_issue 118 = .ok (.iload_n 2, 1) := by decide +kernel
theorem dX9_issue_119 : decode cX9_issue 119 = .ok (.invokevirtual 245, 3) := by decide +kernel
theorem dX9_issue_122 : decode cX9_issue 122 = .ok (.aload_n 0, 1) := by decide +kernel
theorem dX9_issue_123 : decode cX9_issue 123 = .ok (.iload_n 1, 1) := by decide +kernel
theorem dX9_issue_124 : decode cX9_issue 124 = .ok (.invokevirtual 249, 3) := by decide +kernel
theorem dX9_issue_127 : decode cX9_issue 127 = .ok (.aload_n 0, 1) := by decide +kernel
theorem dX9_issue_128 : decode cX9_issue 128 = .ok (.aload_n 0, 1) := by decide +kernel
theorem dX9_issue_129 : decode cX9_issue 129 = .ok (.getfield 235, 3) := by decide +kernel
theorem dX9_issue_132 : decode cX9_issue 132 = .ok (.iconst 1, 1) := by decide +kernel
theorem dX9_issue_133 : decode cX9_issue 133 = .ok (.isub, 1) := by decide +kernel
theorem dX9_issue_134 : decode cX9_issue 134 = .ok (.invokevirtual 96, 3) := by decide +kernel
theorem dX9_issue_137 : decode cX9_issue 137 = .ok (.ireturn, 1) := by decide +kernel
theorem dX9_issued_0 : decode cX9_issued 0 = .ok (.iload_n 1, 1) := by decide +kernel
theorem dX9_issued_1 : decode cX9_issued 1 = .ok (.ifCond .lt 11, 3) := by decide +kernel
theorem dX9_issued_4 : decode cX9_issued 4 = .ok (.iload_n 1, 1) := by decide +kernel
theorem dX9_issued_5 : decode cX9_issued 5 = .ok (.aload_n 0, 1) := by decide +kernel
theorem dX9_issued_6 : decode cX9_issued 6 = .ok (.getfield 235, 3) := by decide +kernel
theorem dX9_issued_9 : decode cX9_issued 9 = .ok (.if_icmp .lt 5, 3) := by decide +kernel
theorem dX9_issued_12 : decode cX9_issued 12 = .ok (.iconst (-1), 1) := by decide +kernel
theorem dX9_issued_13 : decode cX9_issued 13 = .ok (.ireturn, 1) := by decide +kernel
theorem dX9_issued_14 : decode cX9_issued 14 = .ok (.aload_n 0, 1) := by decide +kernel
theorem dX9_issued_15 : decode cX9_issued 15 = .ok (.getfield 41, 3) := by decide +kernel
theorem dX9_issued_18 : decode cX9_issued 18 = .ok (.iload_n 1, 1) := by decide +kernel
theorem dX9_issued_19 : decode cX9_issued 19 = .ok (.aaload, 1) := by decide +kernel
theorem dX9_issued_20 : decode cX9_issued 20 = .ok (.astore_n 3, 1) := by decide +kernel
theorem dX9_issued_21 : decode cX9_issued 21 = .ok (.iload_n 2, 1) := by decide +kernel
theorem dX9_issued_22 : decode cX9_issued 22 = .ok (.tableswitch 59 0 4 #[34, 39, 44, 49, 54], 34) := by decide +kernel
theorem dX9_issued_56 : decode cX9_issued 56 = .ok (.aload_n 3, 1) := by decide +kernel
theorem dX9_issued_57 : decode cX9_issued 57 = .ok (.getfield 252, 3) := by decide +kernel
theorem dX9_issued_60 : decode cX9_issued 60 = .ok (.ireturn, 1) := by decide +kernel
theorem dX9_issued_61 : decode cX9_issued 61 = .ok (.aload_n 3, 1) := by decide +kernel
theorem dX9_issued_62 : decode cX9_issued 62 = .ok (.getfield 255, 3) := by decide +kernel
theorem dX9_issued_65 : decode cX9_issued 65 = .ok (.ireturn, 1) := by decide +kernel
theorem dX9_issued_66 : decode cX9_issued 66 = .ok (.aload_n 3, 1) := by decide +kernel
theorem dX9_issued_67 : decode cX9_issued 67 = .ok (.getfield 256, 3) := by decide +kernel
theorem dX9_issued_70 : decode cX9_issued 70 = .ok (.ireturn, 1) := by decide +kernel
theorem dX9_issued_71 : decode cX9_issued 71 = .ok (.aload_n 3, 1) := by decide +kernel
theorem dX9_issued_72 : decode cX9_issued 72 = .ok (.getfield 259, 3) := by decide +kernel
theorem dX9_issued_75 : decode cX9_issued 75 = .ok (.ireturn, 1) := by decide +kernel
theorem dX9_issued_76 : decode cX9_issued 76 = .ok (.aload_n 3, 1) := by decide +kernel
theorem dX9_issued_77 : decode cX9_issued 77 = .ok (.getfield 262, 3) := by decide +kernel
theorem dX9_issued_80 : decode cX9_issued 80 = .ok (.ireturn, 1) := by decide +kernel
theorem dX9_issued_81 : decode cX9_issued 81 = .ok (.iconst (-1), 1) := by decide +kernel
theorem dX9_issued_82 : decode cX9_issued 82 = .ok (.ireturn, 1) := by decide +kernel
theorem dX9_printed_0 : decode cX9_printed 0 = .ok (.iload_n 1, 1) := by decide +kernel
theorem dX9_printed_1 : decode cX9_printed 1 = .ok (.ifCond .lt 11, 3) := by decide +kernel
theorem dX9_printed_4 : decode cX9_printed 4 = .ok (.iload_n 1, 1) := by decide +kernel
theorem dX9_printed_5 : decode cX9_printed 5 = .ok (.aload_n 0, 1) := by decide +kernel
theorem dX9_printed_6 : decode cX9_printed 6 = .ok (.getfield 235, 3) := by decide +kernel
theorem dX9_printed_9 : decode cX9_printed 9 = .ok (.if_icmp .lt 5, 3) := by decide +kernel
theorem dX9_printed_12 : decode cX9_printed 12 = .ok (.iconst (-1), 1) := by decide +kernel
theorem dX9_printed_13 : decode cX9_printed 13 = .ok (.ireturn, 1) := by decide +kernel
theorem dX9_printed_14 : decode cX9_printed 14 = .ok (.aload_n 0, 1) := by decide +kernel
theorem dX9_printed_15 : decode cX9_printed 15 = .ok (.getfield 41, 3) := by decide +kernel
theorem dX9_printed_18 : decode cX9_printed 18 = .ok (.iload_n 1, 1) := by decide +kernel
theorem dX9_printed_19 : decode cX9_printed 19 = .ok (.aaload, 1) := by decide +kernel
theorem dX9_printed_20 : decode cX9_printed 20 = .ok (.astore_n 3, 1) := by decide +kernel
theorem dX9_printed_21 : decode cX9_printed 21 = .ok (.iload_n 2, 1) := by decide +kernel
theorem dX9_printed_22 : decode cX9_printed 22 = .ok (.ifCond .lt 11, 3) := by decide +kernel
theorem dX9_printed_25 : decode cX9_printed 25 = .ok (.iload_n 2, 1) := by decide +kernel
theorem dX9_printed_26 : decode cX9_printed 26 = .ok (.aload_n 3, 1) := by decide +kernel
theorem dX9_printed_27 : decode cX9_printed 27 = .ok (.getfield 255, 3) := by decide +kernel
theorem dX9_printed_30 : decode cX9_printed 30 = .ok (.if_icmp .lt 7, 3) := by decide +kernel
theorem dX9_printed_33 : decode cX9_printed 33 = .ok (.iconst (-1), 1) := by decide +kernel
theorem dX9_printed_34 : decode cX9_printed 34 = .ok (.goto 9, 3) := by decide +kernel
theorem dX9_printed_37 : decode cX9_printed 37 = .ok (.aload_n 3, 1) := by decide +kernel
theorem dX9_printed_38 : decode cX9_printed 38 = .ok (.getfield 265, 3) := by decide +kernel
theorem dX9_printed_41 : decode cX9_printed 41 = .ok (.iload_n 2, 1) := by decide +kernel
theorem dX9_printed_42 : decode cX9_printed 42 = .ok (.iaload, 1) := by decide +kernel
theorem dX9_printed_43 : decode cX9_printed 43 = .ok (.ireturn, 1) := by decide +kernel
theorem dX9_law_0 : decode cX9_law 0 = .ok (.iload_n 1, 1) := by decide +kernel
theorem dX9_law_1 : decode cX9_law 1 = .ok (.invokestatic 221, 3) := by decide +kernel
theorem dX9_law_4 : decode cX9_law 4 = .ok (.ifCond .eq 17, 3) := by decide +kernel
theorem dX9_law_7 : decode cX9_law 7 = .ok (.iload_n 2, 1) := by decide +kernel
theorem dX9_law_8 : decode cX9_law 8 = .ok (.invokestatic 64, 3) := by decide +kernel
theorem dX9_law_11 : decode cX9_law 11 = .ok (.ifCond .eq 10, 3) := by decide +kernel
theorem dX9_law_14 : decode cX9_law 14 = .ok (.iload_n 3, 1) := by decide +kernel
theorem dX9_law_15 : decode cX9_law 15 = .ok (.invokestatic 64, 3) := by decide +kernel
theorem dX9_law_18 : decode cX9_law 18 = .ok (.ifCond .ne 6, 3) := by decide +kernel
theorem dX9_law_21 : decode cX9_law 21 = .ok (.ldc 224, 2) := by decide +kernel
theorem dX9_law_23 : decode cX9_law 23 = .ok (.ireturn, 1) := by decide +kernel
theorem dX9_law_24 : decode cX9_law 24 = .ok (.aload_n 0, 1) := by decide +kernel
theorem dX9_law_25 : decode cX9_law 25 = .ok (.getfield 35, 3) := by decide +kernel
theorem dX9_law_28 : decode cX9_law 28 = .ok (.iload_n 3, 1) := by decide +kernel
theorem dX9_law_29 : decode cX9_law 29 = .ok (.invokevirtual 269, 3) := by decide +kernel
theorem dX9_law_32 : decode cX9_law 32 = .ok (.aload_n 0, 1) := by decide +kernel
theorem dX9_law_33 : decode cX9_law 33 = .ok (.getfield 35, 3) := by decide +kernel
theorem dX9_law_36 : decode cX9_law 36 = .ok (.aload_n 0, 1) := by decide +kernel
theorem dX9_law_37 : decode cX9_law 37 = .ok (.getfield 35, 3) := by decide +kernel
theorem dX9_law_40 : decode cX9_law 40 = .ok (.iload_n 1, 1) := by decide +kernel
theorem dX9_law_41 : decode cX9_law 41 = .ok (.iload_n 2, 1) := by decide +kernel
theorem dX9_law_42 : decode cX9_law 42 = .ok (.iload_n 3, 1) := by decide +kernel
theorem dX9_law_43 : decode cX9_law 43 = .ok (.invokevirtual 272, 3) := by decide +kernel
theorem dX9_law_46 : decode cX9_law 46 = .ok (.invokevirtual 276, 3) := by decide +kernel
theorem dX9_law_49 : decode cX9_law 49 = .ok (.ireturn, 1) := by decide +kernel
theorem dX9_source_0 : decode cX9_source 0 = .ok (.iload_n 1, 1) := by decide +kernel
theorem dX9_source_1 : decode cX9_source 1 = .ok (.invokestatic 221, 3) := by decide +kernel
theorem dX9_source_4 : decode cX9_source 4 = .ok (.ifCond .eq 17, 3) := by decide +kernel
theorem dX9_source_7 : decode cX9_source 7 = .ok (.iload_n 2, 1) := by decide +kernel
theorem dX9_source_8 : decode cX9_source 8 = .ok (.invokestatic 64, 3) := by decide +kernel
theorem dX9_source_11 : decode cX9_source 11 = .ok (.ifCond .eq 10, 3) := by decide +kernel
theorem dX9_source_14 : decode cX9_source 14 = .ok (.iload_n 3, 1) := by decide +kernel
theorem dX9_source_15 : decode cX9_source 15 = .ok (.invokestatic 64, 3) := by decide +kernel
theorem dX9_source_18 : decode cX9_source 18 = .ok (.ifCond .ne 5, 3) := by decide +kernel
theorem dX9_source_21 : decode cX9_source 21 = .ok (.iconst (-1), 1) := by decide +kernel
theorem dX9_source_22 : decode cX9_source 22 = .ok (.ireturn, 1) := by decide +kernel
theorem dX9_source_23 : decode cX9_source 23 = .ok (.aload_n 0, 1) := by decide +kernel
theorem dX9_source_24 : decode cX9_source 24 = .ok (.getfield 35, 3) := by decide +kernel
theorem dX9_source_27 : decode cX9_source 27 = .ok (.iload_n 3, 1) := by decide +kernel
theorem dX9_source_28 : decode cX9_source 28 = .ok (.invokevirtual 269, 3) := by decide +kernel
theorem dX9_source_31 : decode cX9_source 31 = .ok (.aload_n 0, 1) := by decide +kernel
theorem dX9_source_32 : decode cX9_source 32 = .ok (.getfield 35, 3) := by decide +kernel
theorem dX9_source_35 : decode cX9_source 35 = .ok (.iload_n 1, 1) := by decide +kernel
theorem dX9_source_36 : decode cX9_source 36 = .ok (.iload_n 2, 1) := by decide +kernel
theorem dX9_source_37 : decode cX9_source 37 = .ok (.iload_n 3, 1) := by decide +kernel
theorem dX9_source_38 : decode cX9_source 38 = .ok (.invokevirtual 272, 3) := by decide +kernel
theorem dX9_source_41 : decode cX9_source 41 = .ok (.istore 4, 2) := by decide +kernel
theorem dX9_source_43 : decode cX9_source 43 = .ok (.iload 4, 2) := by decide +kernel
theorem dX9_source_45 : decode cX9_source 45 = .ok (.iconst (-1), 1) := by decide +kernel
theorem dX9_source_46 : decode cX9_source 46 = .ok (.if_icmp .ne 7, 3) := by decide +kernel
theorem dX9_source_49 : decode cX9_source 49 = .ok (.iconst (-1), 1) := by decide +kernel
theorem dX9_source_50 : decode cX9_source 50 = .ok (.goto 7, 3) := by decide +kernel
theorem dX9_source_53 : decode cX9_source 53 = .ok (.iload 4, 2) := by decide +kernel
theorem dX9_source_55 : decode cX9_source 55 = .ok (.iconst 4, 1) := by decide +kernel
theorem dX9_source_56 : decode cX9_source 56 = .ok (.idiv, 1) := by decide +kernel
theorem dX9_source_57 : decode cX9_source 57 = .ok (.ireturn, 1) := by decide +kernel
theorem dX9_isVoid_0 : decode cX9_isVoid 0 = .ok (.aload_n 0, 1) := by decide +kernel
theorem dX9_isVoid_1 : decode cX9_isVoid 1 = .ok (.getfield 35, 3) := by decide +kernel
theorem dX9_isVoid_4 : decode cX9_isVoid 4 = .ok (.iload_n 1, 1) := by decide +kernel
theorem dX9_isVoid_5 : decode cX9_isVoid 5 = .ok (.invokevirtual 183, 3) := by decide +kernel
theorem dX9_isVoid_8 : decode cX9_isVoid 8 = .ok (.astore_n 3, 1) := by decide +kernel
theorem dX9_isVoid_9 : decode cX9_isVoid 9 = .ok (.aload_n 3, 1) := by decide +kernel
theorem dX9_isVoid_10 : decode cX9_isVoid 10 = .ok (.ifnull 18, 3) := by decide +kernel
theorem dX9_isVoid_13 : decode cX9_isVoid 13 = .ok (.iload_n 2, 1) := by decide +kernel
theorem dX9_isVoid_14 : decode cX9_isVoid 14 = .ok (.invokestatic 64, 3) := by decide +kernel
theorem dX9_isVoid_17 : decode cX9_isVoid 17 = .ok (.ifCond .eq 11, 3) := by decide +kernel
theorem dX9_isVoid_20 : decode cX9_isVoid 20 = .ok (.aload_n 3, 1) := by decide +kernel
theorem dX9_isVoid_21 : decode cX9_isVoid 21 = .ok (.iload_n 2, 1) := by decide +kernel
theorem dX9_isVoid_22 : decode cX9_isVoid 22 = .ok (.invokevirtual 279, 3) := by decide +kernel
theorem dX9_isVoid_25 : decode cX9_isVoid 25 = .ok (.ifCond .ne 5, 3) := by decide +kernel
theorem dX9_isVoid_28 : decode cX9_isVoid 28 = .ok (.iconst (-1), 1) := by decide +kernel
theorem dX9_isVoid_29 : decode cX9_isVoid 29 = .ok (.ireturn, 1) := by decide +kernel
theorem dX9_isVoid_30 : decode cX9_isVoid 30 = .ok (.aload_n 0, 1) := by decide +kernel
theorem dX9_isVoid_31 : decode cX9_isVoid 31 = .ok (.getfield 35, 3) := by decide +kernel
theorem dX9_isVoid_34 : decode cX9_isVoid 34 = .ok (.iload_n 2, 1) := by decide +kernel
theorem dX9_isVoid_35 : decode cX9_isVoid 35 = .ok (.invokevirtual 269, 3) := by decide +kernel
theorem dX9_isVoid_38 : decode cX9_isVoid 38 = .ok (.aload_n 3, 1) := by decide +kernel
theorem dX9_isVoid_39 : decode cX9_isVoid 39 = .ok (.getfield 282, 3) := by decide +kernel
theorem dX9_isVoid_42 : decode cX9_isVoid 42 = .ok (.ifCond .eq 7, 3) := by decide +kernel
theorem dX9_isVoid_45 : decode cX9_isVoid 45 = .ok (.iconst 1, 1) := by decide +kernel
theorem dX9_isVoid_46 : decode cX9_isVoid 46 = .ok (.goto 4, 3) := by decide +kernel
theorem dX9_isVoid_49 : decode cX9_isVoid 49 = .ok (.iconst 0, 1) := by decide +kernel
theorem dX9_isVoid_50 : decode cX9_isVoid 50 = .ok (.ireturn, 1) := by decide +kernel
theorem dX9_changes_0 : decode cX9_changes 0 = .ok (.iload_n 1, 1) := by decide +kernel
theorem dX9_changes_1 : decode cX9_changes 1 = .ok (.invokestatic 221, 3) := by decide +kernel
theorem dX9_changes_4 : decode cX9_changes 4 = .ok (.ifCond .eq 10, 3) := by decide +kernel
theorem dX9_changes_7 : decode cX9_changes 7 = .ok (.iload_n 2, 1) := by decide +kernel
theorem dX9_changes_8 : decode cX9_changes 8 = .ok (.invokestatic 64, 3) := by decide +kernel
theorem dX9_changes_11 : decode cX9_changes 11 = .ok (.ifCond .ne 5, 3) := by decide +kernel
theorem dX9_changes_14 : decode cX9_changes 14 = .ok (.iconst (-1), 1) := by decide +kernel
theorem dX9_changes_15 : decode cX9_changes 15 = .ok (.ireturn, 1) := by decide +kernel
theorem dX9_changes_16 : decode cX9_changes 16 = .ok (.aload_n 0, 1) := by decide +kernel
theorem dX9_changes_17 : decode cX9_changes 17 = .ok (.getfield 35, 3) := by decide +kernel
theorem dX9_changes_20 : decode cX9_changes 20 = .ok (.iload_n 2, 1) := by decide +kernel
theorem dX9_changes_21 : decode cX9_changes 21 = .ok (.invokevirtual 269, 3) := by decide +kernel
theorem dX9_changes_24 : decode cX9_changes 24 = .ok (.aload_n 0, 1) := by decide +kernel
theorem dX9_changes_25 : decode cX9_changes 25 = .ok (.getfield 35, 3) := by decide +kernel
theorem dX9_changes_28 : decode cX9_changes 28 = .ok (.iload_n 1, 1) := by decide +kernel
theorem dX9_changes_29 : decode cX9_changes 29 = .ok (.iload_n 2, 1) := by decide +kernel
theorem dX9_changes_30 : decode cX9_changes 30 = .ok (.invokevirtual 285, 3) := by decide +kernel
theorem dX9_changes_33 : decode cX9_changes 33 = .ok (.ireturn, 1) := by decide +kernel
theorem dX9_find_0 : decode cX9_find 0 = .ok (.lload_n 1, 1) := by decide +kernel
theorem dX9_find_1 : decode cX9_find 1 = .ok (.invokestatic 228, 3) := by decide +kernel
theorem dX9_find_4 : decode cX9_find 4 = .ok (.ifCond .eq 10, 3) := by decide +kernel
theorem dX9_find_7 : decode cX9_find 7 = .ok (.iload_n 3, 1) := by decide +kernel
theorem dX9_find_8 : decode cX9_find 8 = .ok (.invokestatic 64, 3) := by decide +kernel
theorem dX9_find_11 : decode cX9_find 11 = .ok (.ifCond .ne 5, 3) := by decide +kernel
theorem dX9_find_14 : decode cX9_find 14 = .ok (.iconst (-1), 1) := by decide +kernel
theorem dX9_find_15 : decode cX9_find 15 = .ok (.ireturn, 1) := by decide +kernel
theorem dX9_find_16 : decode cX9_find 16 = .ok (.aload_n 0, 1) := by decide +kernel
theorem dX9_find_17 : decode cX9_find 17 = .ok (.getfield 35, 3) := by decide +kernel
theorem dX9_find_20 : decode cX9_find 20 = .ok (.lload_n 1, 1) := by decide +kernel
theorem dX9_find_21 : decode cX9_find 21 = .ok (.iload_n 3, 1) := by decide +kernel
theorem dX9_find_22 : decode cX9_find 22 = .ok (.invokevirtual 289, 3) := by decide +kernel
theorem dX9_find_25 : decode cX9_find 25 = .ok (.aload_n 0, 1) := by decide +kernel
theorem dX9_find_26 : decode cX9_find 26 = .ok (.getfield 35, 3) := by decide +kernel
theorem dX9_find_29 : decode cX9_find 29 = .ok (.aload_n 0, 1) := by decide +kernel
theorem dX9_find_30 : decode cX9_find 30 = .ok (.getfield 27, 3) := by decide +kernel
theorem dX9_find_33 : decode cX9_find 33 = .ok (.iload_n 3, 1) := by decide +kernel
theorem dX9_find_34 : decode cX9_find 34 = .ok (.invokevirtual 293, 3) := by decide +kernel
theorem dX9_find_37 : decode cX9_find 37 = .ok (.aload_n 0, 1) := by decide +kernel
theorem dX9_find_38 : decode cX9_find 38 = .ok (.getfield 35, 3) := by decide +kernel
theorem dX9_find_41 : decode cX9_find 41 = .ok (.getfield 297, 3) := by decide +kernel
theorem dX9_find_44 : decode cX9_find 44 = .ok (.ireturn, 1) := by decide +kernel
theorem dX9_found_0 : decode cX9_found 0 = .ok (.iload_n 1, 1) := by decide +kernel
theorem dX9_found_1 : decode cX9_found 1 = .ok (.ifCond .lt 14, 3) := by decide +kernel
theorem dX9_found_4 : decode cX9_found 4 = .ok (.iload_n 1, 1) := by decide +kernel
theorem dX9_found_5 : decode cX9_found 5 = .ok (.aload_n 0, 1) := by decide +kernel
theorem dX9_found_6 : decode cX9_found 6 = .ok (.getfield 35, 3) := by decide +kernel
theorem dX9_found_9 : decode cX9_found 9 = .ok (.getfield 297, 3) := by decide +kernel
theorem dX9_found_12 : decode cX9_found 12 = .ok (.if_icmp .lt 7, 3) := by decide +kernel
theorem dX9_found_15 : decode cX9_found 15 = .ok (.iconst (-1), 1) := by decide +kernel
theorem dX9_found_16 : decode cX9_found 16 = .ok (.goto 12, 3) := by decide +kernel
theorem dX9_found_19 : decode cX9_found 19 = .ok (.aload_n 0, 1) := by decide +kernel
theorem dX9_found_20 : decode cX9_found 20 = .ok (.getfield 35, 3) := by decide +kernel
theorem dX9_found_23 : decode cX9_found 23 = .ok (.getfield 300, 3) := by decide +kernel
theorem dX9_found_26 : decode cX9_found 26 = .ok (.iload_n 1, 1) := by decide +kernel
theorem dX9_found_27 : decode cX9_found 27 = .ok (.iaload, 1) := by decide +kernel
theorem dX9_found_28 : decode cX9_found 28 = .ok (.ireturn, 1) := by decide +kernel
theorem dX9_struck_0 : decode cX9_struck 0 = .ok (.lload_n 1, 1) := by decide +kernel
theorem dX9_struck_1 : decode cX9_struck 1 = .ok (.invokestatic 228, 3) := by decide +kernel
theorem dX9_struck_4 : decode cX9_struck 4 = .ok (.ifCond .eq 10, 3) := by decide +kernel
theorem dX9_struck_7 : decode cX9_struck 7 = .ok (.iload_n 3, 1) := by decide +kernel
theorem dX9_struck_8 : decode cX9_struck 8 = .ok (.invokestatic 64, 3) := by decide +kernel
theorem dX9_struck_11 : decode cX9_struck 11 = .ok (.ifCond .ne 5, 3) := by decide +kernel
theorem dX9_struck_14 : decode cX9_struck 14 = .ok (.iconst (-1), 1) := by decide +kernel
theorem dX9_struck_15 : decode cX9_struck 15 = .ok (.ireturn, 1) := by decide +kernel
theorem dX9_struck_16 : decode cX9_struck 16 = .ok (.aload_n 0, 1) := by decide +kernel
theorem dX9_struck_17 : decode cX9_struck 17 = .ok (.getfield 35, 3) := by decide +kernel
theorem dX9_struck_20 : decode cX9_struck 20 = .ok (.lload_n 1, 1) := by decide +kernel
theorem dX9_struck_21 : decode cX9_struck 21 = .ok (.iload_n 3, 1) := by decide +kernel
theorem dX9_struck_22 : decode cX9_struck 22 = .ok (.invokevirtual 303, 3) := by decide +kernel
theorem dX9_struck_25 : decode cX9_struck 25 = .ok (.ifCond .eq 7, 3) := by decide +kernel
theorem dX9_struck_28 : decode cX9_struck 28 = .ok (.iconst 1, 1) := by decide +kernel
theorem dX9_struck_29 : decode cX9_struck 29 = .ok (.goto 4, 3) := by decide +kernel
theorem dX9_struck_32 : decode cX9_struck 32 = .ok (.iconst 0, 1) := by decide +kernel
theorem dX9_struck_33 : decode cX9_struck 33 = .ok (.ireturn, 1) := by decide +kernel
theorem dX9_undo_0 : decode cX9_undo 0 = .ok (.aload_n 0, 1) := by decide +kernel
theorem dX9_undo_1 : decode cX9_undo 1 = .ok (.getfield 60, 3) := by decide +kernel
theorem dX9_undo_4 : decode cX9_undo 4 = .ok (.getfield 307, 3) := by decide +kernel
theorem dX9_undo_7 : decode cX9_undo 7 = .ok (.ifCond .ne 5, 3) := by decide +kernel
theorem dX9_undo_10 : decode cX9_undo 10 = .ok (.iconst 0, 1) := by decide +kernel
theorem dX9_undo_11 : decode cX9_undo 11 = .ok (.ireturn, 1) := by decide +kernel
theorem dX9_undo_12 : decode cX9_undo 12 = .ok (.aload_n 0, 1) := by decide +kernel
theorem dX9_undo_13 : decode cX9_undo 13 = .ok (.getfield 60, 3) := by decide +kernel
theorem dX9_undo_16 : decode cX9_undo 16 = .ok (.invokevirtual 308, 3) := by decide +kernel
theorem dX9_undo_19 : decode cX9_undo 19 = .ok (.aload_n 0, 1) := by decide +kernel
theorem dX9_undo_20 : decode cX9_undo 20 = .ok (.invokevirtual 311, 3) := by decide +kernel
theorem dX9_undo_23 : decode cX9_undo 23 = .ok (.iconst 1, 1) := by decide +kernel
theorem dX9_undo_24 : decode cX9_undo 24 = .ok (.ireturn, 1) := by decide +kernel
theorem dX9_count_0 : decode cX9_count 0 = .ok (.iload_n 1, 1) := by decide +kernel
theorem dX9_count_1 : decode cX9_count 1 = .ok (.tableswitch 93 0 6 #[43, 51, 56, 64, 69, 77, 85], 43) := by decide +kernel
theorem dX9_count_44 : decode cX9_count 44 = .ok (.aload_n 0, 1) := by decide +kernel
theorem dX9_count_45 : decode cX9_count 45 = .ok (.getfield 12, 3) := by decide +kernel
theorem dX9_count_48 : decode cX9_count 48 = .ok (.getfield 78, 3) := by decide +kernel
theorem dX9_count_51 : decode cX9_count 51 = .ok (.ireturn, 1) := by decide +kernel
theorem dX9_count_52 : decode cX9_count 52 = .ok (.aload_n 0, 1) := by decide +kernel
theorem dX9_count_53 : decode cX9_count 53 = .ok (.getfield 116, 3) := by decide +kernel
theorem dX9_count_56 : decode cX9_count 56 = .ok (.ireturn, 1) := by decide +kernel
theorem dX9_count_57 : decode cX9_count 57 = .ok (.aload_n 0, 1) := by decide +kernel
theorem dX9_count_58 : decode cX9_count 58 = .ok (.getfield 35, 3) := by decide +kernel
theorem dX9_count_61 : decode cX9_count 61 = .ok (.getfield 145, 3) := by decide +kernel
theorem dX9_count_64 : decode cX9_count 64 = .ok (.ireturn, 1) := by decide +kernel
theorem dX9_count_65 : decode cX9_count 65 = .ok (.aload_n 0, 1) := by decide +kernel
theorem dX9_count_66 : decode cX9_count 66 = .ok (.getfield 235, 3) := by decide +kernel
theorem dX9_count_69 : decode cX9_count 69 = .ok (.ireturn, 1) := by decide +kernel
theorem dX9_count_70 : decode cX9_count 70 = .ok (.aload_n 0, 1) := by decide +kernel
theorem dX9_count_71 : decode cX9_count 71 = .ok (.getfield 35, 3) := by decide +kernel
theorem dX9_count_74 : decode cX9_count 74 = .ok (.invokevirtual 314, 3) := by decide +kernel
theorem dX9_count_77 : decode cX9_count 77 = .ok (.ireturn, 1) := by decide +kernel
theorem dX9_count_78 : decode cX9_count 78 = .ok (.aload_n 0, 1) := by decide +kernel
theorem dX9_count_79 : decode cX9_count 79 = .ok (.getfield 60, 3) := by decide +kernel
theorem dX9_count_82 : decode cX9_count 82 = .ok (.getfield 307, 3) := by decide +kernel
theorem dX9_count_85 : decode cX9_count 85 = .ok (.ireturn, 1) := by decide +kernel
theorem dX9_count_86 : decode cX9_count 86 = .ok (.aload_n 0, 1) := by decide +kernel
theorem dX9_count_87 : decode cX9_count 87 = .ok (.getfield 21, 3) := by decide +kernel
theorem dX9_count_90 : decode cX9_count 90 = .ok (.getfield 103, 3) := by decide +kernel
theorem dX9_count_93 : decode cX9_count 93 = .ok (.ireturn, 1) := by decide +kernel
theorem dX9_count_94 : decode cX9_count 94 = .ok (.iconst (-1), 1) := by decide +kernel
theorem dX9_count_95 : decode cX9_count 95 = .ok (.ireturn, 1) := by decide +kernel
theorem dX9_trouble_0 : decode cX9_trouble 0 = .ok (.aload_n 0, 1) := by decide +kernel
theorem dX9_trouble_1 : decode cX9_trouble 1 = .ok (.getfield 151, 3) := by decide +kernel
theorem dX9_trouble_4 : decode cX9_trouble 4 = .ok (.ireturn, 1) := by decide +kernel
theorem dX9_refused_0 : decode cX9_refused 0 = .ok (.aload_n 0, 1) := by decide +kernel
theorem dX9_refused_1 : decode cX9_refused 1 = .ok (.iload_n 1, 1) := by decide +kernel
theorem dX9_refused_2 : decode cX9_refused 2 = .ok (.putfield 151, 3) := by decide +kernel
theorem dX9_refused_5 : decode cX9_refused 5 = .ok (.iconst (-1), 1) := by decide +kernel
theorem dX9_refused_6 : decode cX9_refused 6 = .ok (.ireturn, 1) := by decide +kernel
theorem dX9_refusal_0 : decode cX9_refusal 0 = .ok (.aload_n 0, 1) := by decide +kernel
theorem dX9_refusal_1 : decode cX9_refusal 1 = .ok (.iload_n 1, 1) := by decide +kernel
theorem dX9_refusal_2 : decode cX9_refusal 2 = .ok (.putfield 151, 3) := by decide +kernel
theorem dX9_refusal_5 : decode cX9_refusal 5 = .ok (.iconst 0, 1) := by decide +kernel
theorem dX9_refusal_6 : decode cX9_refusal 6 = .ok (.ireturn, 1) := by decide +kernel
theorem dX9_accepted_0 : decode cX9_accepted 0 = .ok (.aload_n 0, 1) := by decide +kernel
theorem dX9_accepted_1 : decode cX9_accepted 1 = .ok (.iconst 0, 1) := by decide +kernel
theorem dX9_accepted_2 : decode cX9_accepted 2 = .ok (.putfield 151, 3) := by decide +kernel
theorem dX9_accepted_5 : decode cX9_accepted 5 = .ok (.iload_n 1, 1) := by decide +kernel
theorem dX9_accepted_6 : decode cX9_accepted 6 = .ok (.ireturn, 1) := by decide +kernel
theorem dX9_acceptance_0 : decode cX9_acceptance 0 = .ok (.aload_n 0, 1) := by decide +kernel
theorem dX9_acceptance_1 : decode cX9_acceptance 1 = .ok (.iconst 0, 1) := by decide +kernel
theorem dX9_acceptance_2 : decode cX9_acceptance 2 = .ok (.putfield 151, 3) := by decide +kernel
theorem dX9_acceptance_5 : decode cX9_acceptance 5 = .ok (.iconst 1, 1) := by decide +kernel
theorem dX9_acceptance_6 : decode cX9_acceptance 6 = .ok (.ireturn, 1) := by decide +kernel
theorem dX9_isDay_0 : decode cX9_isDay 0 = .ok (.iload_n 0, 1) := by decide +kernel
theorem dX9_isDay_1 : decode cX9_isDay 1 = .ok (.ifCond .lt 14, 3) := by decide +kernel
theorem dX9_isDay_4 : decode cX9_isDay 4 = .ok (.iload_n 0, 1) := by decide +kernel
theorem dX9_isDay_5 : decode cX9_isDay 5 = .ok (.sipush 9999, 3) := by decide +kernel
theorem dX9_isDay_8 : decode cX9_isDay 8 = .ok (.if_icmp .gt 7, 3) := by decide +kernel
theorem dX9_isDay_11 : decode cX9_isDay 11 = .ok (.iconst 1, 1) := by decide +kernel
theorem dX9_isDay_12 : decode cX9_isDay 12 = .ok (.goto 4, 3) := by decide +kernel
theorem dX9_isDay_15 : decode cX9_isDay 15 = .ok (.iconst 0, 1) := by decide +kernel
theorem dX9_isDay_16 : decode cX9_isDay 16 = .ok (.ireturn, 1) := by decide +kernel
theorem dX9_isKey_0 : decode cX9_isKey 0 = .ok (.iload_n 0, 1) := by decide +kernel
theorem dX9_isKey_1 : decode cX9_isKey 1 = .ok (.ifCond .lt 13, 3) := by decide +kernel
theorem dX9_isKey_4 : decode cX9_isKey 4 = .ok (.iload_n 0, 1) := by decide +kernel
theorem dX9_isKey_5 : decode cX9_isKey 5 = .ok (.bipush 40, 2) := by decide +kernel
theorem dX9_isKey_7 : decode cX9_isKey 7 = .ok (.if_icmp .ge 7, 3) := by decide +kernel
theorem dX9_isKey_10 : decode cX9_isKey 10 = .ok (.iconst 1, 1) := by decide +kernel
theorem dX9_isKey_11 : decode cX9_isKey 11 = .ok (.goto 4, 3) := by decide +kernel
theorem dX9_isKey_14 : decode cX9_isKey 14 = .ok (.iconst 0, 1) := by decide +kernel
theorem dX9_isKey_15 : decode cX9_isKey 15 = .ok (.ireturn, 1) := by decide +kernel
theorem dX9_isWord_0 : decode cX9_isWord 0 = .ok (.lload_n 0, 1) := by decide +kernel
theorem dX9_isWord_1 : decode cX9_isWord 1 = .ok (.lconst 0, 1) := by decide +kernel
theorem dX9_isWord_2 : decode cX9_isWord 2 = .ok (.lcmp, 1) := by decide +kernel
theorem dX9_isWord_3 : decode cX9_isWord 3 = .ok (.ifCond .le 11, 3) := by decide +kernel
theorem dX9_isWord_6 : decode cX9_isWord 6 = .ok (.lload_n 0, 1) := by decide +kernel
theorem dX9_isWord_7 : decode cX9_isWord 7 = .ok (.ldc2_w 318, 3) := by decide +kernel
theorem dX9_isWord_10 : decode cX9_isWord 10 = .ok (.lcmp, 1) := by decide +kernel
theorem dX9_isWord_11 : decode cX9_isWord 11 = .ok (.ifCond .lt 5, 3) := by decide +kernel
theorem dX9_isWord_14 : decode cX9_isWord 14 = .ok (.iconst 0, 1) := by decide +kernel
theorem dX9_isWord_15 : decode cX9_isWord 15 = .ok (.ireturn, 1) := by decide +kernel
theorem dX9_isWord_16 : decode cX9_isWord 16 = .ok (.lload_n 0, 1) := by decide +kernel
theorem dX9_isWord_17 : decode cX9_isWord 17 = .ok (.lstore_n 2, 1) := by decide +kernel
theorem dX9_isWord_18 : decode cX9_isWord 18 = .ok (.iconst 0, 1) := by decide +kernel
theorem dX9_isWord_19 : decode cX9_isWord 19 = .ok (.istore 4, 2) := by decide +kernel
theorem dX9_isWord_21 : decode cX9_isWord 21 = .ok (.iload 4, 2) := by decide +kernel
theorem dX9_isWord_23 : decode cX9_isWord 23 = .ok (.bipush 8, 2) := by decide +kernel
theorem dX9_isWord_25 : decode cX9_isWord 25 = .ok (.if_icmp .ge 44, 3) := by decide +kernel
theorem dX9_isWord_28 : decode cX9_isWord 28 = .ok (.lload_n 2, 1) := by decide +kernel
theorem dX9_isWord_29 : decode cX9_isWord 29 = .ok (.lconst 0, 1) := by decide +kernel
theorem dX9_isWord_30 : decode cX9_isWord 30 = .ok (.lcmp, 1) := by decide +kernel
theorem dX9_isWord_31 : decode cX9_isWord 31 = .ok (.ifCond .le 38, 3) := by decide +kernel
theorem dX9_isWord_34 : decode cX9_isWord 34 = .ok (.lload_n 2, 1) := by decide +kernel
theorem dX9_isWord_35 : decode cX9_isWord 35 = .ok (.ldc2_w 320, 3) := by decide +kernel
theorem dX9_isWord_38 : decode cX9_isWord 38 = .ok (.land, 1) := by decide +kernel
theorem dX9_isWord_39 : decode cX9_isWord 39 = .ok (.lstore 5, 2) := by decide +kernel
theorem dX9_isWord_41 : decode cX9_isWord 41 = .ok (.lload 5, 2) := by decide +kernel
theorem dX9_isWord_43 : decode cX9_isWord 43 = .ok (.lconst 1, 1) := by decide +kernel
theorem dX9_isWord_44 : decode cX9_isWord 44 = .ok (.lcmp, 1) := by decide +kernel
theorem dX9_isWord_45 : decode cX9_isWord 45 = .ok (.ifCond .lt 12, 3) := by decide +kernel
theorem dX9_isWord_48 : decode cX9_isWord 48 = .ok (.lload 5, 2) := by decide +kernel
theorem dX9_isWord_50 : decode cX9_isWord 50 = .ok (.ldc2_w 322, 3) := by decide +kernel
theorem dX9_isWord_53 : decode cX9_isWord 53 = .ok (.lcmp, 1) := by decide +kernel
theorem dX9_isWord_54 : decode cX9_isWord 54 = .ok (.ifCond .le 5, 3) := by decide +kernel
theorem dX9_isWord_57 : decode cX9_isWord 57 = .ok (.iconst 0, 1) := by decide +kernel
theorem dX9_isWord_58 : decode cX9_isWord 58 = .ok (.ireturn, 1) := by decide +kernel
theorem dX9_isWord_59 : decode cX9_isWord 59 = .ok (.lload_n 2, 1) := by decide +kernel
theorem dX9_isWord_60 : decode cX9_isWord 60 = .ok (.iconst 5, 1) := by decide +kernel
theorem dX9_isWord_61 : decode cX9_isWord 61 = .ok (.lshr, 1) := by decide +kernel
theorem dX9_isWord_62 : decode cX9_isWord 62 = .ok (.lstore_n 2, 1) := by decide +kernel
theorem dX9_isWord_63 : decode cX9_isWord 63 = .ok (.iinc 4 1, 3) := by decide +kernel
theorem dX9_isWord_66 : decode cX9_isWord 66 = .ok (.goto (-45), 3) := by decide +kernel
theorem dX9_isWord_69 : decode cX9_isWord 69 = .ok (.iconst 1, 1) := by decide +kernel
theorem dX9_isWord_70 : decode cX9_isWord 70 = .ok (.ireturn, 1) := by decide +kernel
theorem dX9_formAt_0 : decode cX9_formAt 0 = .ok (.iload_n 1, 1) := by decide +kernel
theorem dX9_formAt_1 : decode cX9_formAt 1 = .ok (.ifCond .lt 11, 3) := by decide +kernel
theorem dX9_formAt_4 : decode cX9_formAt 4 = .ok (.iload_n 1, 1) := by decide +kernel
theorem dX9_formAt_5 : decode cX9_formAt 5 = .ok (.aload_n 0, 1) := by decide +kernel
theorem dX9_formAt_6 : decode cX9_formAt 6 = .ok (.getfield 116, 3) := by decide +kernel
theorem dX9_formAt_9 : decode cX9_formAt 9 = .ok (.if_icmp .lt 7, 3) := by decide +kernel
theorem dX9_formAt_12 : decode cX9_formAt 12 = .ok (.aconst_null, 1) := by decide +kernel
theorem dX9_formAt_13 : decode cX9_formAt 13 = .ok (.goto 9, 3) := by decide +kernel
theorem dX9_formAt_16 : decode cX9_formAt 16 = .ok (.aload_n 0, 1) := by decide +kernel
theorem dX9_formAt_17 : decode cX9_formAt 17 = .ok (.getfield 27, 3) := by decide +kernel
theorem dX9_formAt_20 : decode cX9_formAt 20 = .ok (.iload_n 1, 1) := by decide +kernel
theorem dX9_formAt_21 : decode cX9_formAt 21 = .ok (.aaload, 1) := by decide +kernel
theorem dX9_formAt_22 : decode cX9_formAt 22 = .ok (.areturn, 1) := by decide +kernel
theorem dX9_print_0 : decode cX9_print 0 = .ok (.aload_n 0, 1) := by decide +kernel
theorem dX9_print_1 : decode cX9_print 1 = .ok (.getfield 41, 3) := by decide +kernel
theorem dX9_print_4 : decode cX9_print 4 = .ok (.aload_n 0, 1) := by decide +kernel
theorem dX9_print_5 : decode cX9_print 5 = .ok (.getfield 235, 3) := by decide +kernel
theorem dX9_print_8 : decode cX9_print 8 = .ok (.aaload, 1) := by decide +kernel
theorem dX9_print_9 : decode cX9_print 9 = .ok (.astore_n 2, 1) := by decide +kernel
theorem dX9_print_10 : decode cX9_print 10 = .ok (.aload_n 2, 1) := by decide +kernel
theorem dX9_print_11 : decode cX9_print 11 = .ok (.iload_n 1, 1) := by decide +kernel
theorem dX9_print_12 : decode cX9_print 12 = .ok (.aload_n 0, 1) := by decide +kernel
theorem dX9_print_13 : decode cX9_print 13 = .ok (.getfield 53, 3) := by decide +kernel
theorem dX9_print_16 : decode cX9_print 16 = .ok (.invokevirtual 324, 3) := by decide +kernel
theorem dX9_print_19 : decode cX9_print 19 = .ok (.invokevirtual 327, 3) := by decide +kernel
theorem dX9_print_22 : decode cX9_print 22 = .ok (.iconst 0, 1) := by decide +kernel
theorem dX9_print_23 : decode cX9_print 23 = .ok (.istore_n 3, 1) := by decide +kernel
theorem dX9_print_24 : decode cX9_print 24 = .ok (.iload_n 3, 1) := by decide +kernel
theorem dX9_print_25 : decode cX9_print 25 = .ok (.aload_n 0, 1) := by decide +kernel
theorem dX9_print_26 : decode cX9_print 26 = .ok (.getfield 53, 3) := by decide +kernel
theorem dX9_print_29 : decode cX9_print 29 = .ok (.getfield 329, 3) := by decide +kernel
theorem dX9_print_32 : decode cX9_print 32 = .ok (.if_icmp .ge 76, 3) := by decide +kernel
theorem dX9_print_35 : decode cX9_print 35 = .ok (.aload_n 0, 1) := by decide +kernel
theorem dX9_print_36 : decode cX9_print 36 = .ok (.getfield 35, 3) := by decide +kernel
theorem dX9_print_39 : decode cX9_print 39 = .ok (.aload_n 0, 1) := by decide +kernel
theorem dX9_print_40 : decode cX9_print 40 = .ok (.getfield 53, 3) := by decide +kernel
theorem dX9_print_43 : decode cX9_print 43 = .ok (.getfield 330, 3) := by decide +kernel
theorem dX9_print_46 : decode cX9_print 46 = .ok (.iload_n 3, 1) := by decide +kernel
theorem dX9_print_47 : decode cX9_print 47 = .ok (.iaload, 1) := by decide +kernel
theorem dX9_print_48 : decode cX9_print 48 = .ok (.invokevirtual 183, 3) := by decide +kernel
theorem dX9_print_51 : decode cX9_print 51 = .ok (.astore 4, 2) := by decide +kernel
theorem dX9_print_53 : decode cX9_print 53 = .ok (.aload 4, 2) := by decide +kernel
theorem dX9_print_55 : decode cX9_print 55 = .ok (.ifnonnull 7, 3) := by decide +kernel
theorem dX9_print_58 : decode cX9_print 58 = .ok (.aconst_null, 1) := by decide +kernel
theorem dX9_print_59 : decode cX9_print 59 = .ok (.goto 12, 3) := by decide +kernel
theorem dX9_print_62 : decode cX9_print 62 = .ok (.aload_n 0, 1) := by decide +kernel
theorem dX9_print_63 : decode cX9_print 63 = .ok (.aload 4, 2) := by decide +kernel
theorem dX9_print_65 : decode cX9_print 65 = .ok (.getfield 189, 3) := by decide +kernel
theorem dX9_print_68 : decode cX9_print 68 = .ok (.invokevirtual 123, 3) := by decide +kernel
theorem dX9_print_71 : decode cX9_print 71 = .ok (.astore 5, 2) := by decide +kernel
theorem dX9_print_73 : decode cX9_print 73 = .ok (.aload 5, 2) := by decide +kernel
theorem dX9_print_75 : decode cX9_print 75 = .ok (.ifnull 27, 3) := by decide +kernel
theorem dX9_print_78 : decode cX9_print 78 = .ok (.aload 5, 2) := by decide +kernel
theorem dX9_print_80 : decode cX9_print 80 = .ok (.aload 4, 2) := by decide +kernel
theorem dX9_print_82 : decode cX9_print 82 = .ok (.getfield 137, 3) := by decide +kernel
theorem dX9_print_85 : decode cX9_print 85 = .ok (.aload_n 0, 1) := by decide +kernel
theorem dX9_print_86 : decode cX9_print 86 = .ok (.getfield 12, 3) := by decide +kernel
theorem dX9_print_89 : decode cX9_print 89 = .ok (.invokevirtual 195, 3) := by decide +kernel
theorem dX9_print_92 : decode cX9_print 92 = .ok (.aload 4, 2) := by decide +kernel
theorem dX9_print_94 : decode cX9_print 94 = .ok (.aload_n 0, 1) := by decide +kernel
theorem dX9_print_95 : decode cX9_print 95 = .ok (.getfield 235, 3) := by decide +kernel
theorem dX9_print_98 : decode cX9_print 98 = .ok (.iload_n 1, 1) := by decide +kernel
theorem dX9_print_99 : decode cX9_print 99 = .ok (.invokevirtual 331, 3) := by decide +kernel
theorem dX9_print_102 : decode cX9_print 102 = .ok (.iinc 3 1, 3) := by decide +kernel
theorem dX9_print_105 : decode cX9_print 105 = .ok (.goto (-81), 3) := by decide +kernel
theorem dX9_print_108 : decode cX9_print 108 = .ok (.aload_n 0, 1) := by decide +kernel
theorem dX9_print_109 : decode cX9_print 109 = .ok (.getfield 35, 3) := by decide +kernel
theorem dX9_print_112 : decode cX9_print 112 = .ok (.aload_n 0, 1) := by decide +kernel
theorem dX9_print_113 : decode cX9_print 113 = .ok (.getfield 235, 3) := by decide +kernel
theorem dX9_print_116 : decode cX9_print 116 = .ok (.aload_n 2, 1) := by decide +kernel
theorem dX9_print_117 : decode cX9_print 117 = .ok (.invokevirtual 333, 3) := by decide +kernel
theorem dX9_print_120 : decode cX9_print 120 = .ok (.aload_n 2, 1) := by decide +kernel
theorem dX9_print_121 : decode cX9_print 121 = .ok (.aload_n 0, 1) := by decide +kernel
theorem dX9_print_122 : decode cX9_print 122 = .ok (.getfield 35, 3) := by decide +kernel
theorem dX9_print_125 : decode cX9_print 125 = .ok (.invokevirtual 314, 3) := by decide +kernel
theorem dX9_print_128 : decode cX9_print 128 = .ok (.putfield 262, 3) := by decide +kernel
theorem dX9_print_131 : decode cX9_print 131 = .ok (.aload_n 0, 1) := by decide +kernel
theorem dX9_print_132 : decode cX9_print 132 = .ok (.dup, 1) := by decide +kernel
theorem dX9_print_133 : decode cX9_print 133 = .ok (.getfield 235, 3) := by decide +kernel
theorem dX9_print_136 : decode cX9_print 136 = .ok (.iconst 1, 1) := by decide +kernel
theorem dX9_print_137 : decode cX9_print 137 = .ok (.iadd, 1) := by decide +kernel
theorem dX9_print_138 : decode cX9_print 138 = .ok (.putfield 235, 3) := by decide +kernel
theorem dX9_print_141 : decode cX9_print 141 = .ok (.aload_n 0, 1) := by decide +kernel
theorem dX9_print_142 : decode cX9_print 142 = .ok (.iload_n 1, 1) := by decide +kernel
theorem dX9_print_143 : decode cX9_print 143 = .ok (.putfield 46, 3) := by decide +kernel
theorem dX9_print_146 : decode cX9_print 146 = .ok (.aload_n 0, 1) := by decide +kernel
theorem dX9_print_147 : decode cX9_print 147 = .ok (.getfield 60, 3) := by decide +kernel
theorem dX9_print_150 : decode cX9_print 150 = .ok (.invokevirtual 337, 3) := by decide +kernel
theorem dX9_print_153 : decode cX9_print 153 = .ok (.return_, 1) := by decide +kernel
theorem dX9_takeBack_0 : decode cX9_takeBack 0 = .ok (.aload_n 0, 1) := by decide +kernel
theorem dX9_takeBack_1 : decode cX9_takeBack 1 = .ok (.getfield 60, 3) := by decide +kernel
theorem dX9_takeBack_4 : decode cX9_takeBack 4 = .ok (.getfield 340, 3) := by decide +kernel
theorem dX9_takeBack_7 : decode cX9_takeBack 7 = .ok (.ifCond .ne 37, 3) := by decide +kernel
theorem dX9_takeBack_10 : decode cX9_takeBack 10 = .ok (.aload_n 0, 1) := by decide +kernel
theorem dX9_takeBack_11 : decode cX9_takeBack 11 = .ok (.getfield 12, 3) := by decide +kernel
theorem dX9_takeBack_14 : decode cX9_takeBack 14 = .ok (.aload_n 0, 1) := by decide +kernel
theorem dX9_takeBack_15 : decode cX9_takeBack 15 = .ok (.getfield 60, 3) := by decide +kernel
theorem dX9_takeBack_18 : decode cX9_takeBack 18 = .ok (.getfield 341, 3) := by decide +kernel
theorem dX9_takeBack_21 : decode cX9_takeBack 21 = .ok (.aload_n 0, 1) := by decide +kernel
theorem dX9_takeBack_22 : decode cX9_takeBack 22 = .ok (.getfield 60, 3) := by decide +kernel
theorem dX9_takeBack_25 : decode cX9_takeBack 25 = .ok (.getfield 344, 3) := by decide +kernel
theorem dX9_takeBack_28 : decode cX9_takeBack 28 = .ok (.lconst 0, 1) := by decide +kernel
theorem dX9_takeBack_29 : decode cX9_takeBack 29 = .ok (.lcmp, 1) := by decide +kernel
theorem dX9_takeBack_30 : decode cX9_takeBack 30 = .ok (.ifCond .ne 7, 3) := by decide +kernel
theorem dX9_takeBack_33 : decode cX9_takeBack 33 = .ok (.iconst 1, 1) := by decide +kernel
theorem dX9_takeBack_34 : decode cX9_takeBack 34 = .ok (.goto 4, 3) := by decide +kernel
theorem dX9_takeBack_37 : decode cX9_takeBack 37 = .ok (.iconst 0, 1) := by decide +kernel
theorem dX9_takeBack_38 : decode cX9_takeBack 38 = .ok (.invokevirtual 81, 3) := by decide +kernel
theorem dX9_takeBack_41 : decode cX9_takeBack 41 = .ok (.goto 74, 3) := by decide +kernel
theorem dX9_takeBack_44 : decode cX9_takeBack 44 = .ok (.aload_n 0, 1) := by decide +kernel
theorem dX9_takeBack_45 : decode cX9_takeBack 45 = .ok (.getfield 60, 3) := by decide +kernel
theorem dX9_takeBack_48 : decode cX9_takeBack 48 = .ok (.getfield 340, 3) := by decide +kernel
theorem dX9_takeBack_51 : decode cX9_takeBack 51 = .ok (.iconst 1, 1) := by decide +kernel
theorem dX9_takeBack_52 : decode cX9_takeBack 52 = .ok (.if_icmp .ne 17, 3) := by decide +kernel
theorem dX9_takeBack_55 : decode cX9_takeBack 55 = .ok (.aload_n 0, 1) := by decide +kernel
theorem dX9_takeBack_56 : decode cX9_takeBack 56 = .ok (.aload_n 0, 1) := by decide +kernel
theorem dX9_takeBack_57 : decode cX9_takeBack 57 = .ok (.getfield 60, 3) := by decide +kernel
theorem dX9_takeBack_60 : decode cX9_takeBack 60 = .ok (.getfield 341, 3) := by decide +kernel
theorem dX9_takeBack_63 : decode cX9_takeBack 63 = .ok (.putfield 116, 3) := by decide +kernel
theorem dX9_takeBack_66 : decode cX9_takeBack 66 = .ok (.goto 49, 3) := by decide +kernel
theorem dX9_takeBack_69 : decode cX9_takeBack 69 = .ok (.aload_n 0, 1) := by decide +kernel
theorem dX9_takeBack_70 : decode cX9_takeBack 70 = .ok (.getfield 60, 3) := by decide +kernel
theorem dX9_takeBack_73 : decode cX9_takeBack 73 = .ok (.getfield 340, 3) := by decide +kernel
theorem dX9_takeBack_76 : decode cX9_takeBack 76 = .ok (.iconst 2, 1) := by decide +kernel
theorem dX9_takeBack_77 : decode cX9_takeBack 77 = .ok (.if_icmp .ne 20, 3) := by decide +kernel
theorem dX9_takeBack_80 : decode cX9_takeBack 80 = .ok (.aload_n 0, 1) := by decide +kernel
theorem dX9_takeBack_81 : decode cX9_takeBack 81 = .ok (.getfield 35, 3) := by decide +kernel
theorem dX9_takeBack_84 : decode cX9_takeBack 84 = .ok (.aload_n 0, 1) := by decide +kernel
theorem dX9_takeBack_85 : decode cX9_takeBack 85 = .ok (.getfield 60, 3) := by decide +kernel
theorem dX9_takeBack_88 : decode cX9_takeBack 88 = .ok (.getfield 341, 3) := by decide +kernel
theorem dX9_takeBack_91 : decode cX9_takeBack 91 = .ok (.putfield 145, 3) := by decide +kernel
theorem dX9_takeBack_94 : decode cX9_takeBack 94 = .ok (.goto 21, 3) := by decide +kernel
theorem dX9_takeBack_97 : decode cX9_takeBack 97 = .ok (.aload_n 0, 1) := by decide +kernel
theorem dX9_takeBack_98 : decode cX9_takeBack 98 = .ok (.aload_n 0, 1) := by decide +kernel
theorem dX9_takeBack_99 : decode cX9_takeBack 99 = .ok (.getfield 35, 3) := by decide +kernel
theorem dX9_takeBack_102 : decode cX9_takeBack 102 = .ok (.aload_n 0, 1) := by decide +kernel
theorem dX9_takeBack_103 : decode cX9_takeBack 103 = .ok (.getfield 60, 3) := by decide +kernel
theorem dX9_takeBack_106 : decode cX9_takeBack 106 = .ok (.getfield 341, 3) := by decide +kernel
theorem dX9_takeBack_109 : decode cX9_takeBack 109 = .ok (.invokevirtual 183, 3) := by decide +kernel
theorem dX9_takeBack_112 : decode cX9_takeBack 112 = .ok (.invokevirtual 347, 3) := by decide +kernel
theorem dX9_takeBack_115 : decode cX9_takeBack 115 = .ok (.return_, 1) := by decide +kernel
theorem dX9_takeBackSaying_0 : decode cX9_takeBackSaying 0 = .ok (.aload_n 1, 1) := by decide +kernel
theorem dX9_takeBackSaying_1 : decode cX9_takeBackSaying 1 = .ok (.ifnonnull 4, 3) := by decide +kernel
theorem dX9_takeBackSaying_4 : decode cX9_takeBackSaying 4 = .ok (.return_, 1) := by decide +kernel
theorem dX9_takeBackSaying_5 : decode cX9_takeBackSaying 5 = .ok (.aload_n 0, 1) := by decide +kernel
theorem dX9_takeBackSaying_6 : decode cX9_takeBackSaying 6 = .ok (.getfield 60, 3) := by decide +kernel
theorem dX9_takeBackSaying_9 : decode cX9_takeBackSaying 9 = .ok (.getfield 340, 3) := by decide +kernel
theorem dX9_takeBackSaying_12 : decode cX9_takeBackSaying 12 = .ok (.iconst 3, 1) := by decide +kernel
theorem dX9_takeBackSaying_13 : decode cX9_takeBackSaying 13 = .ok (.if_icmp .ne 16, 3) := by decide +kernel
theorem dX9_takeBackSaying_16 : decode cX9_takeBackSaying 16 = .ok (.aload_n 1, 1) := by decide +kernel
theorem dX9_takeBackSaying_17 : decode cX9_takeBackSaying 17 = .ok (.dup, 1) := by decide +kernel
theorem dX9_takeBackSaying_18 : decode cX9_takeBackSaying 18 = .ok (.getfield 208, 3) := by decide +kernel
theorem dX9_takeBackSaying_21 : decode cX9_takeBackSaying 21 = .ok (.iconst 1, 1) := by decide +kernel
theorem dX9_takeBackSaying_22 : decode cX9_takeBackSaying 22 = .ok (.isub, 1) := by decide +kernel
theorem dX9_takeBackSaying_23 : decode cX9_takeBackSaying 23 = .ok (.putfield 208, 3) := by decide +kernel
theorem dX9_takeBackSaying_26 : decode cX9_takeBackSaying 26 = .ok (.goto 88, 3) := by decide +kernel
theorem dX9_takeBackSaying_29 : decode cX9_takeBackSaying 29 = .ok (.aload_n 0, 1) := by decide +kernel
theorem dX9_takeBackSaying_30 : decode cX9_takeBackSaying 30 = .ok (.getfield 60, 3) := by decide +kernel
theorem dX9_takeBackSaying_33 : decode cX9_takeBackSaying 33 = .ok (.getfield 340, 3) := by decide +kernel
theorem dX9_takeBackSaying_36 : decode cX9_takeBackSaying 36 = .ok (.iconst 4, 1) := by decide +kernel
theorem dX9_takeBackSaying_37 : decode cX9_takeBackSaying 37 = .ok (.if_icmp .ne 18, 3) := by decide +kernel
theorem dX9_takeBackSaying_40 : decode cX9_takeBackSaying 40 = .ok (.aload_n 1, 1) := by decide +kernel
theorem dX9_takeBackSaying_41 : decode cX9_takeBackSaying 41 = .ok (.aload_n 0, 1) := by decide +kernel
theorem dX9_takeBackSaying_42 : decode cX9_takeBackSaying 42 = .ok (.getfield 60, 3) := by decide +kernel
theorem dX9_takeBackSaying_45 : decode cX9_takeBackSaying 45 = .ok (.getfield 344, 3) := by decide +kernel
theorem dX9_takeBackSaying_48 : decode cX9_takeBackSaying 48 = .ok (.l2i, 1) := by decide +kernel
theorem dX9_takeBackSaying_49 : decode cX9_takeBackSaying 49 = .ok (.putfield 211, 3) := by decide +kernel
theorem dX9_takeBackSaying_52 : decode cX9_takeBackSaying 52 = .ok (.goto 62, 3) := by decide +kernel
theorem dX9_takeBackSaying_55 : decode cX9_takeBackSaying 55 = .ok (.aload_n 0, 1) := by decide +kernel
theorem dX9_takeBackSaying_56 : decode cX9_takeBackSaying 56 = .ok (.getfield 60, 3) := by decide +kernel
theorem dX9_takeBackSaying_59 : decode cX9_takeBackSaying 59 = .ok (.getfield 340, 3) := by decide +kernel
theorem dX9_takeBackSaying_62 : decode cX9_takeBackSaying 62 = .ok (.iconst 5, 1) := by decide +kernel
theorem dX9_takeBackSaying_63 : decode cX9_takeBackSaying 63 = .ok (.if_icmp .ne 28, 3) := by decide +kernel
theorem dX9_takeBackSaying_66 : decode cX9_takeBackSaying 66 = .ok (.aload_n 1, 1) := by decide +kernel
theorem dX9_takeBackSaying_67 : decode cX9_takeBackSaying 67 = .ok (.aload_n 0, 1) := by decide +kernel
theorem dX9_takeBackSaying_68 : decode cX9_takeBackSaying 68 = .ok (.getfield 60, 3) := by decide +kernel
theorem dX9_takeBackSaying_71 : decode cX9_takeBackSaying 71 = .ok (.getfield 344, 3) := by decide +kernel
theorem dX9_takeBackSaying_74 : decode cX9_takeBackSaying 74 = .ok (.putfield 232, 3) := by decide +kernel
theorem dX9_takeBackSaying_77 : decode cX9_takeBackSaying 77 = .ok (.aload_n 1, 1) := by decide +kernel
theorem dX9_takeBackSaying_78 : decode cX9_takeBackSaying 78 = .ok (.aload_n 0, 1) := by decide +kernel
theorem dX9_takeBackSaying_79 : decode cX9_takeBackSaying 79 = .ok (.getfield 60, 3) := by decide +kernel
theorem dX9_takeBackSaying_82 : decode cX9_takeBackSaying 82 = .ok (.getfield 351, 3) := by decide +kernel
theorem dX9_takeBackSaying_85 : decode cX9_takeBackSaying 85 = .ok (.putfield 214, 3) := by decide +kernel
theorem dX9_takeBackSaying_88 : decode cX9_takeBackSaying 88 = .ok (.goto 26, 3) := by decide +kernel
theorem dX9_takeBackSaying_91 : decode cX9_takeBackSaying 91 = .ok (.aload_n 0, 1) := by decide +kernel
theorem dX9_takeBackSaying_92 : decode cX9_takeBackSaying 92 = .ok (.getfield 60, 3) := by decide +kernel
theorem dX9_takeBackSaying_95 : decode cX9_takeBackSaying 95 = .ok (.getfield 340, 3) := by decide +kernel
theorem dX9_takeBackSaying_98 : decode cX9_takeBackSaying 98 = .ok (.bipush 6, 2) := by decide +kernel
theorem dX9_takeBackSaying_100 : decode cX9_takeBackSaying 100 = .ok (.if_icmp .ne 14, 3) := by decide +kernel
theorem dX9_takeBackSaying_103 : decode cX9_takeBackSaying 103 = .ok (.aload_n 1, 1) := by decide +kernel
theorem dX9_takeBackSaying_104 : decode cX9_takeBackSaying 104 = .ok (.aload_n 0, 1) := by decide +kernel
theorem dX9_takeBackSaying_105 : decode cX9_takeBackSaying 105 = .ok (.getfield 60, 3) := by decide +kernel
theorem dX9_takeBackSaying_108 : decode cX9_takeBackSaying 108 = .ok (.getfield 344, 3) := by decide +kernel
theorem dX9_takeBackSaying_111 : decode cX9_takeBackSaying 111 = .ok (.putfield 218, 3) := by decide +kernel
theorem dX9_takeBackSaying_114 : decode cX9_takeBackSaying 114 = .ok (.return_, 1) := by decide +kernel
end
section
theorem dX10_init_0 : decode cX10_init 0 = .ok (.aload_n 0, 1) := by decide +kernel
theorem dX10_init_1 : decode cX10_init 1 = .ok (.aconst_null, 1) := by decide +kernel
theorem dX10_init_2 : decode cX10_init 2 = .ok (.aconst_null, 1) := by decide +kernel
theorem dX10_init_3 : decode cX10_init 3 = .ok (.iconst 0, 1) := by decide +kernel
theorem dX10_init_4 : decode cX10_init 4 = .ok (.iconst 0, 1) := by decide +kernel
theorem dX10_init_5 : decode cX10_init 5 = .ok (.invokespecial 1, 3) := by decide +kernel
theorem dX10_init_8 : decode cX10_init 8 = .ok (.return_, 1) := by decide +kernel
theorem dX11_init_0 : decode cX11_init 0 = .ok (.aload_n 0, 1) := by decide +kernel
theorem dX11_init_1 : decode cX11_init 1 = .ok (.invokespecial 3, 3) := by decide +kernel
theorem dX11_init_4 : decode cX11_init 4 = .ok (.aload_n 0, 1) := by decide +kernel
theorem dX11_init_5 : decode cX11_init 5 = .ok (.iconst (-1), 1) := by decide +kernel
theorem dX11_init_6 : decode cX11_init 6 = .ok (.putfield 11, 3) := by decide +kernel
theorem dX11_init_9 : decode cX11_init 9 = .ok (.aload_n 0, 1) := by decide +kernel
theorem dX11_init_10 : decode cX11_init 10 = .ok (.iconst (-1), 1) := by decide +kernel
theorem dX11_init_11 : decode cX11_init 11 = .ok (.putfield 15, 3) := by decide +kernel
theorem dX11_init_14 : decode cX11_init 14 = .ok (.aload_n 0, 1) := by decide +kernel
theorem dX11_init_15 : decode cX11_init 15 = .ok (.bipush 100, 2) := by decide +kernel
theorem dX11_init_17 : decode cX11_init 17 = .ok (.newarray .int, 2) := by decide +kernel
theorem dX11_init_19 : decode cX11_init 19 = .ok (.putfield 18, 3) := by decide +kernel
theorem dX11_init_22 : decode cX11_init 22 = .ok (.aload_n 0, 1) := by decide +kernel
theorem dX11_init_23 : decode cX11_init 23 = .ok (.bipush 100, 2) := by decide +kernel
theorem dX11_init_25 : decode cX11_init 25 = .ok (.newarray .int, 2) := by decide +kernel
theorem dX11_init_27 : decode cX11_init 27 = .ok (.putfield 22, 3) := by decide +kernel
theorem dX11_init_30 : decode cX11_init 30 = .ok (.aload_n 0, 1) := by decide +kernel
theorem dX11_init_31 : decode cX11_init 31 = .ok (.bipush 100, 2) := by decide +kernel
theorem dX11_init_33 : decode cX11_init 33 = .ok (.newarray .long, 2) := by decide +kernel
theorem dX11_init_35 : decode cX11_init 35 = .ok (.putfield 25, 3) := by decide +kernel
theorem dX11_init_38 : decode cX11_init 38 = .ok (.aload_n 0, 1) := by decide +kernel
theorem dX11_init_39 : decode cX11_init 39 = .ok (.bipush 100, 2) := by decide +kernel
theorem dX11_init_41 : decode cX11_init 41 = .ok (.newarray .long, 2) := by decide +kernel
theorem dX11_init_43 : decode cX11_init 43 = .ok (.putfield 29, 3) := by decide +kernel
theorem dX11_init_46 : decode cX11_init 46 = .ok (.aload_n 0, 1) := by decide +kernel
theorem dX11_init_47 : decode cX11_init 47 = .ok (.sipush 10000, 3) := by decide +kernel
theorem dX11_init_50 : decode cX11_init 50 = .ok (.newarray .boolean, 2) := by decide +kernel
theorem dX11_init_52 : decode cX11_init 52 = .ok (.putfield 32, 3) := by decide +kernel
theorem dX11_init_55 : decode cX11_init 55 = .ok (.aload_n 0, 1) := by decide +kernel
theorem dX11_init_56 : decode cX11_init 56 = .ok (.new 36, 3) := by decide +kernel
theorem dX11_init_59 : decode cX11_init 59 = .ok (.dup, 1) := by decide +kernel
theorem dX11_init_60 : decode cX11_init 60 = .ok (.invokespecial 38, 3) := by decide +kernel
theorem dX11_init_63 : decode cX11_init 63 = .ok (.putfield 39, 3) := by decide +kernel
theorem dX11_init_66 : decode cX11_init 66 = .ok (.aload_n 0, 1) := by decide +kernel
theorem dX11_init_67 : decode cX11_init 67 = .ok (.sipush 400, 3) := by decide +kernel
theorem dX11_init_70 : decode cX11_init 70 = .ok (.newarray .byte, 2) := by decide +kernel
theorem dX11_init_72 : decode cX11_init 72 = .ok (.putfield 43, 3) := by decide +kernel
theorem dX11_init_75 : decode cX11_init 75 = .ok (.aload_n 0, 1) := by decide +kernel
theorem dX11_init_76 : decode cX11_init 76 = .ok (.bipush 13, 2) := by decide +kernel
theorem dX11_init_78 : decode cX11_init 78 = .ok (.newarray .int, 2) := by decide +kernel
theorem dX11_init_80 : decode cX11_init 80 = .ok (.putfield 47, 3) := by decide +kernel
theorem dX11_init_83 : decode cX11_init 83 = .ok (.aload_n 0, 1) := by decide +kernel
theorem dX11_init_84 : decode cX11_init 84 = .ok (.bipush 104, 2) := by decide +kernel
theorem dX11_init_86 : decode cX11_init 86 = .ok (.newarray .int, 2) := by decide +kernel
theorem dX11_init_88 : decode cX11_init 88 = .ok (.putfield 50, 3) := by decide +kernel
theorem dX11_init_91 : decode cX11_init 91 = .ok (.aload_n 0, 1) := by decide +kernel
theorem dX11_init_92 : decode cX11_init 92 = .ok (.bipush 104, 2) := by decide +kernel
theorem dX11_init_94 : decode cX11_init 94 = .ok (.newarray .int, 2) := by decide +kernel
theorem dX11_init_96 : decode cX11_init 96 = .ok (.putfield 53, 3) := by decide +kernel
theorem dX11_init_99 : decode cX11_init 99 = .ok (.aload_n 0, 1) := by decide +kernel
theorem dX11_init_100 : decode cX11_init 100 = .ok (.bipush 104, 2) := by decide +kernel
theorem dX11_init_102 : decode cX11_init 102 = .ok (.newarray .int, 2) := by decide +kernel
theorem dX11_init_104 : decode cX11_init 104 = .ok (.putfield 56, 3) := by decide +kernel
theorem dX11_init_107 : decode cX11_init 107 = .ok (.aload_n 0, 1) := by decide +kernel
theorem dX11_init_108 : decode cX11_init 108 = .ok (.bipush 104, 2) := by decide +kernel
theorem dX11_init_110 : decode cX11_init 110 = .ok (.newarray .boolean, 2) := by decide +kernel
theorem dX11_init_112 : decode cX11_init 112 = .ok (.putfield 59, 3) := by decide +kernel
theorem dX11_init_115 : decode cX11_init 115 = .ok (.aload_n 0, 1) := by decide +kernel
theorem dX11_init_116 : decode cX11_init 116 = .ok (.bipush 104, 2) := by decide +kernel
theorem dX11_init_118 : decode cX11_init 118 = .ok (.newarray .long, 2) := by decide +kernel
theorem dX11_init_120 : decode cX11_init 120 = .ok (.putfield 62, 3) := by decide +kernel
theorem dX11_init_123 : decode cX11_init 123 = .ok (.aload_n 0, 1) := by decide +kernel
theorem dX11_init_124 : decode cX11_init 124 = .ok (.sipush 416, 3) := by decide +kernel
theorem dX11_init_127 : decode cX11_init 127 = .ok (.newarray .long, 2) := by decide +kernel
theorem dX11_init_129 : decode cX11_init 129 = .ok (.putfield 65, 3) := by decide +kernel
theorem dX11_init_132 : decode cX11_init 132 = .ok (.aload_n 0, 1) := by decide +kernel
theorem dX11_init_133 : decode cX11_init 133 = .ok (.iconst (-1), 1) := by decide +kernel
theorem dX11_init_134 : decode cX11_init 134 = .ok (.putfield 68, 3) := by decide +kernel
theorem dX11_init_137 : decode cX11_init 137 = .ok (.aload_n 0, 1) := by decide +kernel
theorem dX11_init_138 : decode cX11_init 138 = .ok (.bipush 61, 2) := by decide +kernel
theorem dX11_init_140 : decode cX11_init 140 = .ok (.newarray .int, 2) := by decide +kernel
theorem dX11_init_142 : decode cX11_init 142 = .ok (.putfield 71, 3) := by decide +kernel
theorem dX11_init_145 : decode cX11_init 145 = .ok (.aload_n 0, 1) := by decide +kernel
theorem dX11_init_146 : decode cX11_init 146 = .ok (.bipush 61, 2) := by decide +kernel
theorem dX11_init_148 : decode cX11_init 148 = .ok (.newarray .int, 2) := by decide +kernel
theorem dX11_init_150 : decode cX11_init 150 = .ok (.putfield 74, 3) := by decide +kernel
theorem dX11_init_153 : decode cX11_init 153 = .ok (.aload_n 0, 1) := by decide +kernel
theorem dX11_init_154 : decode cX11_init 154 = .ok (.bipush 61, 2) := by decide +kernel
theorem dX11_init_156 : decode cX11_init 156 = .ok (.newarray .int, 2) := by decide +kernel
theorem dX11_init_158 : decode cX11_init 158 = .ok (.putfield 77, 3) := by decide +kernel
theorem dX11_init_161 : decode cX11_init 161 = .ok (.aload_n 0, 1) := by decide +kernel
theorem dX11_init_162 : decode cX11_init 162 = .ok (.bipush 61, 2) := by decide +kernel
theorem dX11_init_164 : decode cX11_init 164 = .ok (.newarray .int, 2) := by decide +kernel
theorem dX11_init_166 : decode cX11_init 166 = .ok (.putfield 80, 3) := by decide +kernel
theorem dX11_init_169 : decode cX11_init 169 = .ok (.aload_n 0, 1) := by decide +kernel
theorem dX11_init_170 : decode cX11_init 170 = .ok (.bipush 61, 2) := by decide +kernel
theorem dX11_init_172 : decode cX11_init 172 = .ok (.newarray .int, 2) := by decide +kernel
theorem dX11_init_174 : decode cX11_init 174 = .ok (.putfield 83, 3) := by decide +kernel
theorem dX11_init_177 : decode cX11_init 177 = .ok (.aload_n 0, 1) := by decide +kernel
theorem dX11_init_178 : decode cX11_init 178 = .ok (.bipush 61, 2) := by decide +kernel
theorem dX11_init_180 : decode cX11_init 180 = .ok (.newarray .int, 2) := by decide +kernel
theorem dX11_init_182 : decode cX11_init 182 = .ok (.putfield 86, 3) := by decide +kernel
theorem dX11_init_185 : decode cX11_init 185 = .ok (.aload_n 0, 1) := by decide +kernel
theorem dX11_init_186 : decode cX11_init 186 = .ok (.sipush 488, 3) := by decide +kernel
theorem dX11_init_189 : decode cX11_init 189 = .ok (.newarray .long, 2) := by decide +kernel
theorem dX11_init_191 : decode cX11_init 191 = .ok (.putfield 89, 3) := by decide +kernel
theorem dX11_init_194 : decode cX11_init 194 = .ok (.aload_n 0, 1) := by decide +kernel
theorem dX11_init_195 : decode cX11_init 195 = .ok (.bipush 61, 2) := by decide +kernel
theorem dX11_init_197 : decode cX11_init 197 = .ok (.newarray .long, 2) := by decide +kernel
theorem dX11_init_199 : decode cX11_init 199 = .ok (.putfield 92, 3) := by decide +kernel
theorem dX11_init_202 : decode cX11_init 202 = .ok (.aload_n 0, 1) := by decide +kernel
theorem dX11_init_203 : decode cX11_init 203 = .ok (.bipush 61, 2) := by decide +kernel
theorem dX11_init_205 : decode cX11_init 205 = .ok (.newarray .long, 2) := by decide +kernel
theorem dX11_init_207 : decode cX11_init 207 = .ok (.putfield 95, 3) := by decide +kernel
theorem dX11_init_210 : decode cX11_init 210 = .ok (.aload_n 0, 1) := by decide +kernel
theorem dX11_init_211 : decode cX11_init 211 = .ok (.bipush 61, 2) := by decide +kernel
theorem dX11_init_213 : decode cX11_init 213 = .ok (.newarray .long, 2) := by decide +kernel
theorem dX11_init_215 : decode cX11_init 215 = .ok (.putfield 98, 3) := by decide +kernel
theorem dX11_init_218 : decode cX11_init 218 = .ok (.aload_n 0, 1) := by decide +kernel
theorem dX11_init_219 : decode cX11_init 219 = .ok (.sipush 488, 3) := by decide +kernel
theorem dX11_init_222 : decode cX11_init 222 = .ok (.newarray .boolean, 2) := by decide +kernel
theorem dX11_init_224 : decode cX11_init 224 = .ok (.putfield 101, 3) := by decide +kernel
theorem dX11_init_227 : decode cX11_init 227 = .ok (.aload_n 0, 1) := by decide +kernel
theorem dX11_init_228 : decode cX11_init 228 = .ok (.sipush 240, 3) := by decide +kernel
theorem dX11_init_231 : decode cX11_init 231 = .ok (.newarray .int, 2) := by decide +kernel
theorem dX11_init_233 : decode cX11_init 233 = .ok (.putfield 104, 3) := by decide +kernel
theorem dX11_init_236 : decode cX11_init 236 = .ok (.aload_n 0, 1) := by decide +kernel
theorem dX11_init_237 : decode cX11_init 237 = .ok (.sipush 240, 3) := by decide +kernel
theorem dX11_init_240 : decode cX11_init 240 = .ok (.newarray .int, 2) := by decide +kernel
theorem dX11_init_242 : decode cX11_init 242 = .ok (.putfield 107, 3) := by decide +kernel
theorem dX11_init_245 : decode cX11_init 245 = .ok (.aload_n 0, 1) := by decide +kernel
theorem dX11_init_246 : decode cX11_init 246 = .ok (.sipush 240, 3) := by decide +kernel
theorem dX11_init_249 : decode cX11_init 249 = .ok (.newarray .int, 2) := by decide +kernel
theorem dX11_init_251 : decode cX11_init 251 = .ok (.putfield 110, 3) := by decide +kernel
theorem dX11_init_254 : decode cX11_init 254 = .ok (.aload_n 0, 1) := by decide +kernel
theorem dX11_init_255 : decode cX11_init 255 = .ok (.bipush 40, 2) := by decide +kernel
theorem dX11_init_257 : decode cX11_init 257 = .ok (.newarray .int, 2) := by decide +kernel
theorem dX11_init_259 : decode cX11_init 259 = .ok (.putfield 113, 3) := by decide +kernel
theorem dX11_init_262 : decode cX11_init 262 = .ok (.aload_n 0, 1) := by decide +kernel
theorem dX11_init_263 : decode cX11_init 263 = .ok (.bipush 40, 2) := by decide +kernel
theorem dX11_init_265 : decode cX11_init 265 = .ok (.newarray .int, 2) := by decide +kernel
theorem dX11_init_267 : decode cX11_init 267 = .ok (.putfield 116, 3) := by decide +kernel
theorem dX11_init_270 : decode cX11_init 270 = .ok (.aload_n 0, 1) := by decide +kernel
theorem dX11_init_271 : decode cX11_init 271 = .ok (.bipush 40, 2) := by decide +kernel
theorem dX11_init_273 : decode cX11_init 273 = .ok (.newarray .int, 2) := by decide +kernel
theorem dX11_init_275 : decode cX11_init 275 = .ok (.putfield 119, 3) := by decide +kernel
theorem dX11_init_278 : decode cX11_init 278 = .ok (.aload_n 0, 1) := by decide +kernel
theorem dX11_init_279 : decode cX11_init 279 = .ok (.bipush 40, 2) := by decide +kernel
theorem dX11_init_281 : decode cX11_init 281 = .ok (.newarray .int, 2) := by decide +kernel
theorem dX11_init_283 : decode cX11_init 283 = .ok (.putfield 122, 3) := by decide +kernel
theorem dX11_init_286 : decode cX11_init 286 = .ok (.aload_n 0, 1) := by decide +kernel
theorem dX11_init_287 : decode cX11_init 287 = .ok (.bipush 40, 2) := by decide +kernel
theorem dX11_init_289 : decode cX11_init 289 = .ok (.newarray .int, 2) := by decide +kernel
theorem dX11_init_291 : decode cX11_init 291 = .ok (.putfield 125, 3) := by decide +kernel
theorem dX11_init_294 : decode cX11_init 294 = .ok (.aload_n 0, 1) := by decide +kernel
theorem dX11_init_295 : decode cX11_init 295 = .ok (.sipush 480, 3) := by decide +kernel
theorem dX11_init_298 : decode cX11_init 298 = .ok (.newarray .int, 2) := by decide +kernel
theorem dX11_init_300 : decode cX11_init 300 = .ok (.putfield 128, 3) := by decide +kernel
theorem dX11_init_303 : decode cX11_init 303 = .ok (.aload_n 0, 1) := by decide +kernel
theorem dX11_init_304 : decode cX11_init 304 = .ok (.bipush 12, 2) := by decide +kernel
theorem dX11_init_306 : decode cX11_init 306 = .ok (.newarray .int, 2) := by decide +kernel
theorem dX11_init_308 : decode cX11_init 308 = .ok (.putfield 131, 3) := by decide +kernel
theorem dX11_init_311 : decode cX11_init 311 = .ok (.aload_n 0, 1) := by decide +kernel
theorem dX11_init_312 : decode cX11_init 312 = .ok (.sipush 4096, 3) := by decide +kernel
theorem dX11_init_315 : decode cX11_init 315 = .ok (.newarray .int, 2) := by decide +kernel
theorem dX11_init_317 : decode cX11_init 317 = .ok (.putfield 134, 3) := by decide +kernel
theorem dX11_init_320 : decode cX11_init 320 = .ok (.aload_n 0, 1) := by decide +kernel
theorem dX11_init_321 : decode cX11_init 321 = .ok (.sipush 4096, 3) := by decide +kernel
theorem dX11_init_324 : decode cX11_init 324 = .ok (.newarray .int, 2) := by decide +kernel
theorem dX11_init_326 : decode cX11_init 326 = .ok (.putfield 137, 3) := by decide +kernel
theorem dX11_init_329 : decode cX11_init 329 = .ok (.aload_n 0, 1) := by decide +kernel
theorem dX11_init_330 : decode cX11_init 330 = .ok (.bipush 60, 2) := by decide +kernel
theorem dX11_init_332 : decode cX11_init 332 = .ok (.newarray .boolean, 2) := by decide +kernel
theorem dX11_init_334 : decode cX11_init 334 = .ok (.putfield 140, 3) := by decide +kernel
theorem dX11_init_337 : decode cX11_init 337 = .ok (.aload_n 0, 1) := by decide +kernel
theorem dX11_init_338 : decode cX11_init 338 = .ok (.sipush 10000, 3) := by decide +kernel
theorem dX11_init_341 : decode cX11_init 341 = .ok (.newarray .int, 2) := by decide +kernel
theorem dX11_init_343 : decode cX11_init 343 = .ok (.putfield 143, 3) := by decide +kernel
theorem dX11_init_346 : decode cX11_init 346 = .ok (.aload_n 0, 1) := by decide +kernel
theorem dX11_init_347 : decode cX11_init 347 = .ok (.sipush 10000, 3) := by decide +kernel
theorem dX11_init_350 : decode cX11_init 350 = .ok (.newarray .int, 2) := by decide +kernel
theorem dX11_init_352 : decode cX11_init 352 = .ok (.putfield 146, 3) := by decide +kernel
theorem dX11_init_355 : decode cX11_init 355 = .ok (.aload_n 0, 1) := by decide +kernel
theorem dX11_init_356 : decode cX11_init 356 = .ok (.sipush 10000, 3) := by decide +kernel
theorem dX11_init_359 : decode cX11_init 359 = .ok (.newarray .boolean, 2) := by decide +kernel
theorem dX11_init_361 : decode cX11_init 361 = .ok (.putfield 149, 3) := by decide +kernel
theorem dX11_init_364 : decode cX11_init 364 = .ok (.aload_n 0, 1) := by decide +kernel
theorem dX11_init_365 : decode cX11_init 365 = .ok (.bipush 61, 2) := by decide +kernel
theorem dX11_init_367 : decode cX11_init 367 = .ok (.newarray .long, 2) := by decide +kernel
theorem dX11_init_369 : decode cX11_init 369 = .ok (.putfield 152, 3) := by decide +kernel
theorem dX11_init_372 : decode cX11_init 372 = .ok (.aload_n 0, 1) := by decide +kernel
theorem dX11_init_373 : decode cX11_init 373 = .ok (.bipush 60, 2) := by decide +kernel
theorem dX11_init_375 : decode cX11_init 375 = .ok (.newarray .int, 2) := by decide +kernel
theorem dX11_init_377 : decode cX11_init 377 = .ok (.putfield 155, 3) := by decide +kernel
theorem dX11_init_380 : decode cX11_init 380 = .ok (.return_, 1) := by decide +kernel
theorem dX11_refused_0 : decode cX11_refused 0 = .ok (.aload_n 0, 1) := by decide +kernel
theorem dX11_refused_1 : decode cX11_refused 1 = .ok (.iload_n 1, 1) := by decide +kernel
theorem dX11_refused_2 : decode cX11_refused 2 = .ok (.putfield 161, 3) := by decide +kernel
theorem dX11_refused_5 : decode cX11_refused 5 = .ok (.aload_n 0, 1) := by decide +kernel
theorem dX11_refused_6 : decode cX11_refused 6 = .ok (.iconst (-1), 1) := by decide +kernel
theorem dX11_refused_7 : decode cX11_refused 7 = .ok (.putfield 11, 3) := by decide +kernel
theorem dX11_refused_10 : decode cX11_refused 10 = .ok (.iconst (-1), 1) := by decide +kernel
theorem dX11_refused_11 : decode cX11_refused 11 = .ok (.ireturn, 1) := by decide +kernel
theorem dX11_denied_0 : decode cX11_denied 0 = .ok (.aload_n 0, 1) := by decide +kernel
theorem dX11_denied_1 : decode cX11_denied 1 = .ok (.iload_n 1, 1) := by decide +kernel
theorem dX11_denied_2 : decode cX11_denied 2 = .ok (.putfield 161, 3) := by decide +kernel
theorem dX11_denied_5 : decode cX11_denied 5 = .ok (.aload_n 0, 1) := by decide +kernel
theorem dX11_denied_6 : decode cX11_denied 6 = .ok (.iconst (-1), 1) := by decide +kernel
theorem dX11_denied_7 : decode cX11_denied 7 = .ok (.putfield 11, 3) := by decide +kernel
theorem dX11_denied_10 : decode cX11_denied 10 = .ok (.iconst 0, 1) := by decide +kernel
theorem dX11_denied_11 : decode cX11_denied 11 = .ok (.ireturn, 1) := by decide +kernel
theorem dX11_done_0 : decode cX11_done 0 = .ok (.aload_n 0, 1) := by decide +kernel
theorem dX11_done_1 : decode cX11_done 1 = .ok (.iconst 0, 1) := by decide +kernel
theorem dX11_done_2 : decode cX11_done 2 = .ok (.putfield 161, 3) := by decide +kernel
theorem dX11_done_5 : decode cX11_done 5 = .ok (.aload_n 0, 1) := by decide +kernel
theorem dX11_done_6 : decode cX11_done 6 = .ok (.iconst (-1), 1) := by decide +kernel
theorem dX11_done_7 : decode cX11_done 7 = .ok (.putfield 11, 3) := by decide +kernel
theorem dX11_done_10 : decode cX11_done 10 = .ok (.iload_n 1, 1) := by decide +kernel
theorem dX11_done_11 : decode cX11_done 11 = .ok (.ireturn, 1) := by decide +kernel
theorem dX11_in_0 : decode cX11_in 0 = .ok (.iload_n 0, 1) := by decide +kernel
theorem dX11_in_1 : decode cX11_in 1 = .ok (.iload_n 1, 1) := by decide +kernel
theorem dX11_in_2 : decode cX11_in 2 = .ok (.if_icmp .lt 12, 3) := by decide +kernel
theorem dX11_in_5 : decode cX11_in 5 = .ok (.iload_n 0, 1) := by decide +kernel
theorem dX11_in_6 : decode cX11_in 6 = .ok (.iload_n 2, 1) := by decide +kernel
theorem dX11_in_7 : decode cX11_in 7 = .ok (.if_icmp .gt 7, 3) := by decide +kernel
theorem dX11_in_10 : decode cX11_in 10 = .ok (.iconst 1, 1) := by decide +kernel
theorem dX11_in_11 : decode cX11_in 11 = .ok (.goto 4, 3) := by decide +kernel
theorem dX11_in_14 : decode cX11_in 14 = .ok (.iconst 0, 1) := by decide +kernel
theorem dX11_in_15 : decode cX11_in 15 = .ok (.ireturn, 1) := by decide +kernel
theorem dX11_act_0 : decode cX11_act 0 = .ok (.aload_n 0, 1) := by decide +kernel
theorem dX11_act_1 : decode cX11_act 1 = .ok (.getfield 164, 3) := by decide +kernel
theorem dX11_act_4 : decode cX11_act 4 = .ok (.bipush 100, 2) := by decide +kernel
theorem dX11_act_6 : decode cX11_act 6 = .ok (.if_icmp .ne 93, 3) := by decide +kernel
theorem dX11_act_9 : decode cX11_act 9 = .ok (.iconst 1, 1) := by decide +kernel
theorem dX11_act_10 : decode cX11_act 10 = .ok (.istore 7, 2) := by decide +kernel
theorem dX11_act_12 : decode cX11_act 12 = .ok (.iload 7, 2) := by decide +kernel
theorem dX11_act_14 : decode cX11_act 14 = .ok (.bipush 100, 2) := by decide +kernel
theorem dX11_act_16 : decode cX11_act 16 = .ok (.if_icmp .ge 73, 3) := by decide +kernel
theorem dX11_act_19 : decode cX11_act 19 = .ok (.aload_n 0, 1) := by decide +kernel
theorem dX11_act_20 : decode cX11_act 20 = .ok (.getfield 18, 3) := by decide +kernel
theorem dX11_act_23 : decode cX11_act 23 = .ok (.iload 7, 2) := by decide +kernel
theorem dX11_act_25 : decode cX11_act 25 = .ok (.iconst 1, 1) := by decide +kernel
theorem dX11_act_26 : decode cX11_act 26 = .ok (.isub, 1) := by decide +kernel
theorem dX11_act_27 : decode cX11_act 27 = .ok (.aload_n 0, 1) := by decide +kernel
theorem dX11_act_28 : decode cX11_act 28 = .ok (.getfield 18, 3) := by decide +kernel
theorem dX11_act_31 : decode cX11_act 31 = .ok (.iload 7, 2) := by decide +kernel
theorem dX11_act_33 : decode cX11_act 33 = .ok (.iaload, 1) := by decide +kernel
theorem dX11_act_34 : decode cX11_act 34 = .ok (.iastore, 1) := by decide +kernel
theorem dX11_act_35 : decode cX11_act 35 = .ok (.aload_n 0, 1) := by decide +kernel
theorem dX11_act_36 : decode cX11_act 36 = .ok (.getfield 22, 3) := by decide +kernel
theorem dX11_act_39 : decode cX11_act 39 = .ok (.iload 7, 2) := by decide +kernel
theorem dX11_act_41 : decode cX11_act 41 = .ok (.iconst 1, 1) := by decide +kernel
theorem dX11_act_42 : decode cX11_act 42 = .ok (.isub, 1) := by decide +kernel
theorem dX11_act_43 : decode cX11_act 43 = .ok (.aload_n 0, 1) := by decide +kernel
theorem dX11_act_44 : decode cX11_act 44 = .ok (.getfield 22, 3) := by decide +kernel
theorem dX11_act_47 : decode cX11_act 47 = .ok (.iload 7, 2) := by decide +kernel
theorem dX11_act_49 : decode cX11_act 49 = .ok (.iaload, 1) := by decide +kernel
theorem dX11_act_50 : decode cX11_act 50 = .ok (.iastore, 1) := by decide +kernel
theorem dX11_act_51 : decode cX11_act 51 = .ok (.aload_n 0, 1) := by decide +kernel
theorem dX11_act_52 : decode cX11_act 52 = .ok (.getfield 25, 3) := by decide +kernel
theorem dX11_act_55 : decode cX11_act 55 = .ok (.iload 7, 2) := by decide +kernel
theorem dX11_act_57 : decode cX11_act 57 = .ok (.iconst 1, 1) := by decide +kernel
theorem dX11_act_58 : decode cX11_act 58 = .ok (.isub, 1) := by decide +kernel
theorem dX11_act_59 : decode cX11_act 59 = .ok (.aload_n 0, 1) := by decide +kernel
theorem dX11_act_60 : decode cX11_act 60 = .ok (.getfield 25, 3) := by decide +kernel
theorem dX11_act_63 : decode cX11_act 63 = .ok (.iload 7, 2) := by decide +kernel
theorem dX11_act_65 : decode cX11_act 65 = .ok (.laload, 1) := by decide +kernel
theorem dX11_act_66 : decode cX11_act 66 = .ok (.lastore, 1) := by decide +kernel
theorem dX11_act_67 : decode cX11_act 67 = .ok (.aload_n 0, 1) := by decide +kernel
theorem dX11_act_68 : decode cX11_act 68 = .ok (.getfield 29, 3) := by decide +kernel
theorem dX11_act_71 : decode cX11_act 71 = .ok (.iload 7, 2) := by decide +kernel
theorem dX11_act_73 : decode cX11_act 73 = .ok (.iconst 1, 1) := by decide +kernel
theorem dX11_act_74 : decode cX11_act 74 = .ok (.isub, 1) := by decide +kernel
theorem dX11_act_75 : decode cX11_act 75 = .ok (.aload_n 0, 1) := by decide +kernel
theorem dX11_act_76 : decode cX11_act 76 = .ok (.getfield 29, 3) := by decide +kernel
theorem dX11_act_79 : decode cX11_act 79 = .ok (.iload 7, 2) := by decide +kernel
theorem dX11_act_81 : decode cX11_act 81 = .ok (.laload, 1) := by decide +kernel
theorem dX11_act_82 : decode cX11_act 82 = .ok (.lastore, 1) := by decide +kernel
theorem dX11_act_83 : decode cX11_act 83 = .ok (.iinc 7 1, 3) := by decide +kernel
theorem dX11_act_86 : decode cX11_act 86 = .ok (.goto (-74), 3) := by decide +kernel
theorem dX11_act_89 : decode cX11_act 89 = .ok (.aload_n 0, 1) := by decide +kernel
theorem dX11_act_90 : decode cX11_act 90 = .ok (.dup, 1) := by decide +kernel
theorem dX11_act_91 : decode cX11_act 91 = .ok (.getfield 164, 3) := by decide +kernel
theorem dX11_act_94 : decode cX11_act 94 = .ok (.iconst 1, 1) := by decide +kernel
theorem dX11_act_95 : decode cX11_act 95 = .ok (.isub, 1) := by decide +kernel
theorem dX11_act_96 : decode cX11_act 96 = .ok (.putfield 164, 3) := by decide +kernel
theorem dX11_act_99 : decode cX11_act 99 = .ok (.aload_n 0, 1) := by decide +kernel
theorem dX11_act_100 : decode cX11_act 100 = .ok (.getfield 18, 3) := by decide +kernel
theorem dX11_act_103 : decode cX11_act 103 = .ok (.aload_n 0, 1) := by decide +kernel
theorem dX11_act_104 : decode cX11_act 104 = .ok (.getfield 164, 3) := by decide +kernel
theorem dX11_act_107 : decode cX11_act 107 = .ok (.iload_n 1, 1) := by decide +kernel
theorem dX11_act_108 : decode cX11_act 108 = .ok (.iastore, 1) := by decide +kernel
theorem dX11_act_109 : decode cX11_act 109 = .ok (.aload_n 0, 1) := by decide +kernel
theorem dX11_act_110 : decode cX11_act 110 = .ok (.getfield 22, 3) := by decide +kernel
theorem dX11_act_113 : decode cX11_act 113 = .ok (.aload_n 0, 1) := by decide +kernel
theorem dX11_act_114 : decode cX11_act 114 = .ok (.getfield 164, 3) := by decide +kernel
theorem dX11_act_117 : decode cX11_act 117 = .ok (.iload_n 2, 1) := by decide +kernel
theorem dX11_act_118 : decode cX11_act 118 = .ok (.iastore, 1) := by decide +kernel
theorem dX11_act_119 : decode cX11_act 119 = .ok (.aload_n 0, 1) := by decide +kernel
theorem dX11_act_120 : decode cX11_act 120 = .ok (.getfield 25, 3) := by decide +kernel
theorem dX11_act_123 : decode cX11_act 123 = .ok (.aload_n 0, 1) := by decide +kernel
theorem dX11_act_124 : decode cX11_act 124 = .ok (.getfield 164, 3) := by decide +kernel
theorem dX11_act_127 : decode cX11_act 127 = .ok (.lload_n 3, 1) := by decide +kernel
theorem dX11_act_128 : decode cX11_act 128 = .ok (.lastore, 1) := by decide +kernel
theorem dX11_act_129 : decode cX11_act 129 = .ok (.aload_n 0, 1) := by decide +kernel
theorem dX11_act_130 : decode cX11_act 130 = .ok (.getfield 29, 3) := by decide +kernel
theorem dX11_act_133 : decode cX11_act 133 = .ok (.aload_n 0, 1) := by decide +kernel
theorem dX11_act_134 : decode cX11_act 134 = .ok (.getfield 164, 3) := by decide +kernel
theorem dX11_act_137 : decode cX11_act 137 = .ok (.lload 5, 2) := by decide +kernel
theorem dX11_act_139 : decode cX11_act 139 = .ok (.lastore, 1) := by decide +kernel
theorem dX11_act_140 : decode cX11_act 140 = .ok (.aload_n 0, 1) := by decide +kernel
theorem dX11_act_141 : decode cX11_act 141 = .ok (.dup, 1) := by decide +kernel
theorem dX11_act_142 : decode cX11_act 142 = .ok (.getfield 164, 3) := by decide +kernel
theorem dX11_act_145 : decode cX11_act 145 = .ok (.iconst 1, 1) := by decide +kernel
theorem dX11_act_146 : decode cX11_act 146 = .ok (.iadd, 1) := by decide +kernel
theorem dX11_act_147 : decode cX11_act 147 = .ok (.putfield 164, 3) := by decide +kernel
theorem dX11_act_150 : decode cX11_act 150 = .ok (.return_, 1) := by decide +kernel
theorem dX11_undo_0 : decode cX11_undo 0 = .ok (.aload_n 0, 1) := by decide +kernel
theorem dX11_undo_1 : decode cX11_undo 1 = .ok (.iconst 0, 1) := by decide +kernel
theorem dX11_undo_2 : decode cX11_undo 2 = .ok (.putfield 158, 3) := by decide +kernel
theorem dX11_undo_5 : decode cX11_undo 5 = .ok (.aload_n 0, 1) := by decide +kernel
theorem dX11_undo_6 : decode cX11_undo 6 = .ok (.getfield 164, 3) := by decide +kernel
theorem dX11_undo_9 : decode cX11_undo 9 = .ok (.ifCond .ne 5, 3) := by decide +kernel
theorem dX11_undo_12 : decode cX11_undo 12 = .ok (.iconst 0, 1) := by decide +kernel
theorem dX11_undo_13 : decode cX11_undo 13 = .ok (.ireturn, 1) := by decide +kernel
theorem dX11_undo_14 : decode cX11_undo 14 = .ok (.aload_n 0, 1) := by decide +kernel
theorem dX11_undo_15 : decode cX11_undo 15 = .ok (.dup, 1) := by decide +kernel
theorem dX11_undo_16 : decode cX11_undo 16 = .ok (.getfield 164, 3) := by decide +kernel
theorem dX11_undo_19 : decode cX11_undo 19 = .ok (.iconst 1, 1) := by decide +kernel
theorem dX11_undo_20 : decode cX11_undo 20 = .ok (.isub, 1) := by decide +kernel
theorem dX11_undo_21 : decode cX11_undo 21 = .ok (.putfield 164, 3) := by decide +kernel
theorem dX11_undo_24 : decode cX11_undo 24 = .ok (.aload_n 0, 1) := by decide +kernel
theorem dX11_undo_25 : decode cX11_undo 25 = .ok (.getfield 22, 3) := by decide +kernel
theorem dX11_undo_28 : decode cX11_undo 28 = .ok (.aload_n 0, 1) := by decide +kernel
theorem dX11_undo_29 : decode cX11_undo 29 = .ok (.getfield 164, 3) := by decide +kernel
theorem dX11_undo_32 : decode cX11_undo 32 = .ok (.iaload, 1) := by decide +kernel
theorem dX11_undo_33 : decode cX11_undo 33 = .ok (.istore_n 1, 1) := by decide +kernel
theorem dX11_undo_34 : decode cX11_undo 34 = .ok (.aload_n 0, 1) := by decide +kernel
theorem dX11_undo_35 : decode cX11_undo 35 = .ok (.getfield 18, 3) := by decide +kernel
theorem dX11_undo_38 : decode cX11_undo 38 = .ok (.aload_n 0, 1) := by decide +kernel
theorem dX11_undo_39 : decode cX11_undo 39 = .ok (.getfield 164, 3) := by decide +kernel
theorem dX11_undo_42 : decode cX11_undo 42 = .ok (.iaload, 1) := by decide +kernel
theorem dX11_undo_43 : decode cX11_undo 43 = .ok (.tableswitch 179 0 5 #[37, 88, 101, 114, 127, 146], 37) := by decide +kernel
theorem dX11_undo_80 : decode cX11_undo 80 = .ok (.aload_n 0, 1) := by decide +kernel
theorem dX11_undo_81 : decode cX11_undo 81 = .ok (.getfield 32, 3) := by decide +kernel
theorem dX11_undo_84 : decode cX11_undo 84 = .ok (.iload_n 1, 1) := by decide +kernel
theorem dX11_undo_85 : decode cX11_undo 85 = .ok (.aload_n 0, 1) := by decide +kernel
theorem dX11_undo_86 : decode cX11_undo 86 = .ok (.getfield 25, 3) := by decide +kernel
theorem dX11_undo_89 : decode cX11_undo 89 = .ok (.aload_n 0, 1) := by decide +kernel
theorem dX11_undo_90 : decode cX11_undo 90 = .ok (.getfield 164, 3) := by decide +kernel
theorem dX11_undo_93 : decode cX11_undo 93 = .ok (.laload, 1) := by decide +kernel
theorem dX11_undo_94 : decode cX11_undo 94 = .ok (.lconst 1, 1) := by decide +kernel
theorem dX11_undo_95 : decode cX11_undo 95 = .ok (.lcmp, 1) := by decide +kernel
theorem dX11_undo_96 : decode cX11_undo 96 = .ok (.ifCond .ne 7, 3) := by decide +kernel
theorem dX11_undo_99 : decode cX11_undo 99 = .ok (.iconst 1, 1) := by decide +kernel
theorem dX11_undo_100 : decode cX11_undo 100 = .ok (.goto 4, 3) := by decide +kernel
theorem dX11_undo_103 : decode cX11_undo 103 = .ok (.iconst 0, 1) := by decide +kernel
theorem dX11_undo_104 : decode cX11_undo 104 = .ok (.bastore, 1) := by decide +kernel
theorem dX11_undo_105 : decode cX11_undo 105 = .ok (.aload_n 0, 1) := by decide +kernel
theorem dX11_undo_106 : decode cX11_undo 106 = .ok (.dup, 1) := by decide +kernel
theorem dX11_undo_107 : decode cX11_undo 107 = .ok (.getfield 167, 3) := by decide +kernel
theorem dX11_undo_110 : decode cX11_undo 110 = .ok (.aload_n 0, 1) := by decide +kernel
theorem dX11_undo_111 : decode cX11_undo 111 = .ok (.getfield 32, 3) := by decide +kernel
theorem dX11_undo_114 : decode cX11_undo 114 = .ok (.iload_n 1, 1) := by decide +kernel
theorem dX11_undo_115 : decode cX11_undo 115 = .ok (.baload, 1) := by decide +kernel
theorem dX11_undo_116 : decode cX11_undo 116 = .ok (.ifCond .eq 7, 3) := by decide +kernel
theorem dX11_undo_119 : decode cX11_undo 119 = .ok (.iconst 1, 1) := by decide +kernel
theorem dX11_undo_120 : decode cX11_undo 120 = .ok (.goto 4, 3) := by decide +kernel
theorem dX11_undo_123 : decode cX11_undo 123 = .ok (.iconst (-1), 1) := by decide +kernel
theorem dX11_undo_124 : decode cX11_undo 124 = .ok (.iadd, 1) := by decide +kernel
theorem dX11_undo_125 : decode cX11_undo 125 = .ok (.putfield 167, 3) := by decide +kernel
theorem dX11_undo_128 : decode cX11_undo 128 = .ok (.goto 109, 3) := by decide +kernel
theorem dX11_undo_131 : decode cX11_undo 131 = .ok (.aload_n 0, 1) := by decide +kernel
theorem dX11_undo_132 : decode cX11_undo 132 = .ok (.dup, 1) := by decide +kernel
theorem dX11_undo_133 : decode cX11_undo 133 = .ok (.getfield 170, 3) := by decide +kernel
theorem dX11_undo_136 : decode cX11_undo 136 = .ok (.iconst 1, 1) := by decide +kernel
theorem dX11_undo_137 : decode cX11_undo 137 = .ok (.isub, 1) := by decide +kernel
theorem dX11_undo_138 : decode cX11_undo 138 = .ok (.putfield 170, 3) := by decide +kernel
theorem dX11_undo_141 : decode cX11_undo 141 = .ok (.goto 96, 3) := by decide +kernel
theorem dX11_undo_144 : decode cX11_undo 144 = .ok (.aload_n 0, 1) := by decide +kernel
theorem dX11_undo_145 : decode cX11_undo 145 = .ok (.dup, 1) := by decide +kernel
theorem dX11_undo_146 : decode cX11_undo 146 = .ok (.getfield 173, 3) := by decide +kernel
theorem dX11_undo_149 : decode cX11_undo 149 = .ok (.iconst 1, 1) := by decide +kernel
theorem dX11_undo_150 : decode cX11_undo 150 = .ok (.isub, 1) := by decide +kernel
theorem dX11_undo_151 : decode cX11_undo 151 = .ok (.putfield 173, 3) := by decide +kernel
theorem dX11_undo_154 : decode cX11_undo 154 = .ok (.goto 83, 3) := by decide +kernel
theorem dX11_undo_157 : decode cX11_undo 157 = .ok (.aload_n 0, 1) := by decide +kernel
theorem dX11_undo_158 : decode cX11_undo 158 = .ok (.getfield 83, 3) := by decide +kernel
theorem dX11_undo_161 : decode cX11_undo 161 = .ok (.iload_n 1, 1) := by decide +kernel
theorem dX11_undo_162 : decode cX11_undo 162 = .ok (.dup2, 1) := by decide +kernel
theorem dX11_undo_163 : decode cX11_undo 163 = .ok (.iaload, 1) := by decide +kernel
theorem dX11_undo_164 : decode cX11_undo 164 = .ok (.iconst 1, 1) := by decide +kernel
theorem dX11_undo_165 : decode cX11_undo 165 = .ok (.isub, 1) := by decide +kernel
theorem dX11_undo_166 : decode cX11_undo 166 = .ok (.iastore, 1) := by decide +kernel
theorem dX11_undo_167 : decode cX11_undo 167 = .ok (.goto 70, 3) := by decide +kernel
theorem dX11_undo_170 : decode cX11_undo 170 = .ok (.aload_n 0, 1) := by decide +kernel
theorem dX11_undo_171 : decode cX11_undo 171 = .ok (.getfield 86, 3) := by decide +kernel
theorem dX11_undo_174 : decode cX11_undo 174 = .ok (.iload_n 1, 1) := by decide +kernel
theorem dX11_undo_175 : decode cX11_undo 175 = .ok (.aload_n 0, 1) := by decide +kernel
theorem dX11_undo_176 : decode cX11_undo 176 = .ok (.getfield 25, 3) := by decide +kernel
theorem dX11_undo_179 : decode cX11_undo 179 = .ok (.aload_n 0, 1) := by decide +kernel
theorem dX11_undo_180 : decode cX11_undo 180 = .ok (.getfield 164, 3) := by decide +kernel
theorem dX11_undo_183 : decode cX11_undo 183 = .ok (.laload, 1) := by decide +kernel
theorem dX11_undo_184 : decode cX11_undo 184 = .ok (.l2i, 1) := by decide +kernel
theorem dX11_undo_185 : decode cX11_undo 185 = .ok (.iastore, 1) := by decide +kernel
theorem dX11_undo_186 : decode cX11_undo 186 = .ok (.goto 51, 3) := by decide +kernel
theorem dX11_undo_189 : decode cX11_undo 189 = .ok (.aload_n 0, 1) := by decide +kernel
theorem dX11_undo_190 : decode cX11_undo 190 = .ok (.getfield 92, 3) := by decide +kernel
theorem dX11_undo_193 : decode cX11_undo 193 = .ok (.iload_n 1, 1) := by decide +kernel
theorem dX11_undo_194 : decode cX11_undo 194 = .ok (.aload_n 0, 1) := by decide +kernel
theorem dX11_undo_195 : decode cX11_undo 195 = .ok (.getfield 25, 3) := by decide +kernel
theorem dX11_undo_198 : decode cX11_undo 198 = .ok (.aload_n 0, 1) := by decide +kernel
theorem dX11_undo_199 : decode cX11_undo 199 = .ok (.getfield 164, 3) := by decide +kernel
theorem dX11_undo_202 : decode cX11_undo 202 = .ok (.laload, 1) := by decide +kernel
theorem dX11_undo_203 : decode cX11_undo 203 = .ok (.lastore, 1) := by decide +kernel
theorem dX11_undo_204 : decode cX11_undo 204 = .ok (.aload_n 0, 1) := by decide +kernel
theorem dX11_undo_205 : decode cX11_undo 205 = .ok (.getfield 95, 3) := by decide +kernel
theorem dX11_undo_208 : decode cX11_undo 208 = .ok (.iload_n 1, 1) := by decide +kernel
theorem dX11_undo_209 : decode cX11_undo 209 = .ok (.aload_n 0, 1) := by decide +kernel
theorem dX11_undo_210 : decode cX11_undo 210 = .ok (.getfield 29, 3) := by decide +kernel
theorem dX11_undo_213 : decode cX11_undo 213 = .ok (.aload_n 0, 1) := by decide +kernel
theorem dX11_undo_214 : decode cX11_undo 214 = .ok (.getfield 164, 3) := by decide +kernel
theorem dX11_undo_217 : decode cX11_undo 217 = .ok (.laload, 1) := by decide +kernel
theorem dX11_undo_218 : decode cX11_undo 218 = .ok (.lastore, 1) := by decide +kernel
theorem dX11_undo_219 : decode cX11_undo 219 = .ok (.goto 18, 3) := by decide +kernel
theorem dX11_undo_222 : decode cX11_undo 222 = .ok (.aload_n 0, 1) := by decide +kernel
theorem dX11_undo_223 : decode cX11_undo 223 = .ok (.getfield 98, 3) := by decide +kernel
theorem dX11_undo_226 : decode cX11_undo 226 = .ok (.iload_n 1, 1) := by decide +kernel
theorem dX11_undo_227 : decode cX11_undo 227 = .ok (.aload_n 0, 1) := by decide +kernel
theorem dX11_undo_228 : decode cX11_undo 228 = .ok (.getfield 25, 3) := by decide +kernel
theorem dX11_undo_231 : decode cX11_undo 231 = .ok (.aload_n 0, 1) := by decide +kernel
theorem dX11_undo_232 : decode cX11_undo 232 = .ok (.getfield 164, 3) := by decide +kernel
theorem dX11_undo_235 : decode cX11_undo 235 = .ok (.laload, 1) := by decide +kernel
theorem dX11_undo_236 : decode cX11_undo 236 = .ok (.lastore, 1) := by decide +kernel
theorem dX11_undo_237 : decode cX11_undo 237 = .ok (.iconst 1, 1) := by decide +kernel
theorem dX11_undo_238 : decode cX11_undo 238 = .ok (.ireturn, 1) := by decide +kernel
theorem dX11_isDay_0 : decode cX11_isDay 0 = .ok (.iload_n 0, 1) := by decide +kernel
theorem dX11_isDay_1 : decode cX11_isDay 1 = .ok (.ifCond .lt 14, 3) := by decide +kernel
theorem dX11_isDay_4 : decode cX11_isDay 4 = .ok (.iload_n 0, 1) := by decide +kernel
theorem dX11_isDay_5 : decode cX11_isDay 5 = .ok (.sipush 10000, 3) := by decide +kernel
theorem dX11_isDay_8 : decode cX11_isDay 8 = .ok (.if_icmp .ge 7, 3) := by decide +kernel
theorem dX11_isDay_11 : decode cX11_isDay 11 = .ok (.iconst 1, 1) := by decide +kernel
theorem dX11_isDay_12 : decode cX11_isDay 12 = .ok (.goto 4, 3) := by decide +kernel
theorem dX11_isDay_15 : decode cX11_isDay 15 = .ok (.iconst 0, 1) := by decide +kernel
theorem dX11_isDay_16 : decode cX11_isDay 16 = .ok (.ireturn, 1) := by decide +kernel
theorem dX11_isWorking_0 : decode cX11_isWorking 0 = .ok (.iload_n 1, 1) := by decide +kernel
theorem dX11_isWorking_1 : decode cX11_isWorking 1 = .ok (.bipush 7, 2) := by decide +kernel
theorem dX11_isWorking_3 : decode cX11_isWorking 3 = .ok (.irem, 1) := by decide +kernel
theorem dX11_isWorking_4 : decode cX11_isWorking 4 = .ok (.iconst 5, 1) := by decide +kernel
theorem dX11_isWorking_5 : decode cX11_isWorking 5 = .ok (.if_icmp .ge 16, 3) := by decide +kernel
theorem dX11_isWorking_8 : decode cX11_isWorking 8 = .ok (.aload_n 0, 1) := by decide +kernel
theorem dX11_isWorking_9 : decode cX11_isWorking 9 = .ok (.getfield 32, 3) := by decide +kernel
theorem dX11_isWorking_12 : decode cX11_isWorking 12 = .ok (.iload_n 1, 1) := by decide +kernel
theorem dX11_isWorking_13 : decode cX11_isWorking 13 = .ok (.baload, 1) := by decide +kernel
theorem dX11_isWorking_14 : decode cX11_isWorking 14 = .ok (.ifCond .ne 7, 3) := by decide +kernel
theorem dX11_isWorking_17 : decode cX11_isWorking 17 = .ok (.iconst 1, 1) := by decide +kernel
theorem dX11_isWorking_18 : decode cX11_isWorking 18 = .ok (.goto 4, 3) := by decide +kernel
theorem dX11_isWorking_21 : decode cX11_isWorking 21 = .ok (.iconst 0, 1) := by decide +kernel
theorem dX11_isWorking_22 : decode cX11_isWorking 22 = .ok (.ireturn, 1) := by decide +kernel
theorem dX11_feast_0 : decode cX11_feast 0 = .ok (.aload_n 0, 1) := by decide +kernel
theorem dX11_feast_1 : decode cX11_feast 1 = .ok (.iconst 0, 1) := by decide +kernel
theorem dX11_feast_2 : decode cX11_feast 2 = .ok (.putfield 158, 3) := by decide +kernel
theorem dX11_feast_5 : decode cX11_feast 5 = .ok (.iload_n 1, 1) := by decide +kernel
theorem dX11_feast_6 : decode cX11_feast 6 = .ok (.invokestatic 176, 3) := by decide +kernel
theorem dX11_feast_9 : decode cX11_feast 9 = .ok (.ifCond .ne 9, 3) := by decide +kernel
theorem dX11_feast_12 : decode cX11_feast 12 = .ok (.aload_n 0, 1) := by decide +kernel
theorem dX11_feast_13 : decode cX11_feast 13 = .ok (.iconst 2, 1) := by decide +kernel
theorem dX11_feast_14 : decode cX11_feast 14 = .ok (.invokevirtual 180, 3) := by decide +kernel
theorem dX11_feast_17 : decode cX11_feast 17 = .ok (.ireturn, 1) := by decide +kernel
theorem dX11_feast_18 : decode cX11_feast 18 = .ok (.iload_n 2, 1) := by decide +kernel
theorem dX11_feast_19 : decode cX11_feast 19 = .ok (.ifCond .eq 27, 3) := by decide +kernel
theorem dX11_feast_22 : decode cX11_feast 22 = .ok (.aload_n 0, 1) := by decide +kernel
theorem dX11_feast_23 : decode cX11_feast 23 = .ok (.getfield 32, 3) := by decide +kernel
theorem dX11_feast_26 : decode cX11_feast 26 = .ok (.iload_n 1, 1) := by decide +kernel
theorem dX11_feast_27 : decode cX11_feast 27 = .ok (.baload, 1) := by decide +kernel
theorem dX11_feast_28 : decode cX11_feast 28 = .ok (.ifCond .ne 18, 3) := by decide +kernel
theorem dX11_feast_31 : decode cX11_feast 31 = .ok (.aload_n 0, 1) := by decide +kernel
theorem dX11_feast_32 : decode cX11_feast 32 = .ok (.getfield 167, 3) := by decide +kernel
theorem dX11_feast_35 : decode cX11_feast 35 = .ok (.bipush 60, 2) := by decide +kernel
theorem dX11_feast_37 : decode cX11_feast 37 = .ok (.if_icmp .ne 9, 3) := by decide +kernel
theorem dX11_feast_40 : decode cX11_feast 40 = .ok (.aload_n 0, 1) := by decide +kernel
theorem dX11_feast_41 : decode cX11_feast 41 = .ok (.iconst 3, 1) := by decide +kernel
theorem dX11_feast_42 : decode cX11_feast 42 = .ok (.invokevirtual 180, 3) := by decide +kernel
theorem dX11_feast_45 : decode cX11_feast 45 = .ok (.ireturn, 1) := by decide +kernel
theorem dX11_feast_46 : decode cX11_feast 46 = .ok (.aload_n 0, 1) := by decide +kernel
theorem dX11_feast_47 : decode cX11_feast 47 = .ok (.iconst 0, 1) := by decide +kernel
theorem dX11_feast_48 : decode cX11_feast 48 = .ok (.putfield 161, 3) := by decide +kernel
theorem dX11_feast_51 : decode cX11_feast 51 = .ok (.aload_n 0, 1) := by decide +kernel
theorem dX11_feast_52 : decode cX11_feast 52 = .ok (.iconst (-1), 1) := by decide +kernel
theorem dX11_feast_53 : decode cX11_feast 53 = .ok (.putfield 11, 3) := by decide +kernel
theorem dX11_feast_56 : decode cX11_feast 56 = .ok (.aload_n 0, 1) := by decide +kernel
theorem dX11_feast_57 : decode cX11_feast 57 = .ok (.getfield 32, 3) := by decide +kernel
theorem dX11_feast_60 : decode cX11_feast 60 = .ok (.iload_n 1, 1) := by decide +kernel
theorem dX11_feast_61 : decode cX11_feast 61 = .ok (.baload, 1) := by decide +kernel
theorem dX11_feast_62 : decode cX11_feast 62 = .ok (.iload_n 2, 1) := by decide +kernel
theorem dX11_feast_63 : decode cX11_feast 63 = .ok (.if_icmp .ne 5, 3) := by decide +kernel
theorem dX11_feast_66 : decode cX11_feast 66 = .ok (.iconst 1, 1) := by decide +kernel
theorem dX11_feast_67 : decode cX11_feast 67 = .ok (.ireturn, 1) := by decide +kernel
theorem dX11_feast_68 : decode cX11_feast 68 = .ok (.aload_n 0, 1) := by decide +kernel
theorem dX11_feast_69 : decode cX11_feast 69 = .ok (.iconst 0, 1) := by decide +kernel
theorem dX11_feast_70 : decode cX11_feast 70 = .ok (.iload_n 1, 1) := by decide +kernel
theorem dX11_feast_71 : decode cX11_feast 71 = .ok (.iload_n 2, 1) := by decide +kernel
theorem dX11_feast_72 : decode cX11_feast 72 = .ok (.ifCond .eq 7, 3) := by decide +kernel
theorem dX11_feast_75 : decode cX11_feast 75 = .ok (.lconst 0, 1) := by decide +kernel
theorem dX11_feast_76 : decode cX11_feast 76 = .ok (.goto 4, 3) := by decide +kernel
theorem dX11_feast_79 : decode cX11_feast 79 = .ok (.lconst 1, 1) := by decide +kernel
theorem dX11_feast_80 : decode cX11_feast 80 = .ok (.lconst 0, 1) := by decide +kernel
theorem dX11_feast_81 : decode cX11_feast 81 = .ok (.invokevirtual 183, 3) := by decide +kernel
theorem dX11_feast_84 : decode cX11_feast 84 = .ok (.aload_n 0, 1) := by decide +kernel
theorem dX11_feast_85 : decode cX11_feast 85 = .ok (.getfield 32, 3) := by decide +kernel
theorem dX11_feast_88 : decode cX11_feast 88 = .ok (.iload_n 1, 1) := by decide +kernel
theorem dX11_feast_89 : decode cX11_feast 89 = .ok (.iload_n 2, 1) := by decide +kernel
theorem dX11_feast_90 : decode cX11_feast 90 = .ok (.bastore, 1) := by decide +kernel
theorem dX11_feast_91 : decode cX11_feast 91 = .ok (.aload_n 0, 1) := by decide +kernel
theorem dX11_feast_92 : decode cX11_feast 92 = .ok (.dup, 1) := by decide +kernel
theorem dX11_feast_93 : decode cX11_feast 93 = .ok (.getfield 167, 3) := by decide +kernel
theorem dX11_feast_96 : decode cX11_feast 96 = .ok (.iload_n 2, 1) := by decide +kernel
theorem dX11_feast_97 : decode cX11_feast 97 = .ok (.ifCond .eq 7, 3) := by decide +kernel
theorem dX11_feast_100 : decode cX11_feast 100 = .ok (.iconst 1, 1) := by decide +kernel
theorem dX11_feast_101 : decode cX11_feast 101 = .ok (.goto 4, 3) := by decide +kernel
theorem dX11_feast_104 : decode cX11_feast 104 = .ok (.iconst (-1), 1) := by decide +kernel
theorem dX11_feast_105 : decode cX11_feast 105 = .ok (.iadd, 1) := by decide +kernel
theorem dX11_feast_106 : decode cX11_feast 106 = .ok (.putfield 167, 3) := by decide +kernel
theorem dX11_feast_109 : decode cX11_feast 109 = .ok (.iconst 1, 1) := by decide +kernel
theorem dX11_feast_110 : decode cX11_feast 110 = .ok (.ireturn, 1) := by decide +kernel
theorem dX11_working_0 : decode cX11_working 0 = .ok (.aload_n 0, 1) := by decide +kernel
theorem dX11_working_1 : decode cX11_working 1 = .ok (.iconst 0, 1) := by decide +kernel
theorem dX11_working_2 : decode cX11_working 2 = .ok (.putfield 158, 3) := by decide +kernel
theorem dX11_working_5 : decode cX11_working 5 = .ok (.iload_n 1, 1) := by decide +kernel
theorem dX11_working_6 : decode cX11_working 6 = .ok (.invokestatic 176, 3) := by decide +kernel
theorem dX11_working_9 : decode cX11_working 9 = .ok (.ifCond .eq 23, 3) := by decide +kernel
theorem dX11_working_12 : decode cX11_working 12 = .ok (.aload_n 0, 1) := by decide +kernel
theorem dX11_working_13 : decode cX11_working 13 = .ok (.aload_n 0, 1) := by decide +kernel
theorem dX11_working_14 : decode cX11_working 14 = .ok (.iload_n 1, 1) := by decide +kernel
theorem dX11_working_15 : decode cX11_working 15 = .ok (.invokevirtual 187, 3) := by decide +kernel
theorem dX11_working_18 : decode cX11_working 18 = .ok (.ifCond .eq 7, 3) := by decide +kernel
theorem dX11_working_21 : decode cX11_working 21 = .ok (.iconst 1, 1) := by decide +kernel
theorem dX11_working_22 : decode cX11_working 22 = .ok (.goto 4, 3) := by decide +kernel
theorem dX11_working_25 : decode cX11_working 25 = .ok (.iconst 0, 1) := by decide +kernel
theorem dX11_working_26 : decode cX11_working 26 = .ok (.invokevirtual 190, 3) := by decide +kernel
theorem dX11_working_29 : decode cX11_working 29 = .ok (.goto 8, 3) := by decide +kernel
theorem dX11_working_32 : decode cX11_working 32 = .ok (.aload_n 0, 1) := by decide +kernel
theorem dX11_working_33 : decode cX11_working 33 = .ok (.iconst 2, 1) := by decide +kernel
theorem dX11_working_34 : decode cX11_working 34 = .ok (.invokevirtual 194, 3) := by decide +kernel
theorem dX11_working_37 : decode cX11_working 37 = .ok (.ireturn, 1) := by decide +kernel
theorem dX11_spanOf_0 : decode cX11_spanOf 0 = .ok (.iload_n 1, 1) := by decide +kernel
theorem dX11_spanOf_1 : decode cX11_spanOf 1 = .ok (.sipush 10000, 3) := by decide +kernel
theorem dX11_spanOf_4 : decode cX11_spanOf 4 = .ok (.if_icmp .lt 7, 3) := by decide +kernel
theorem dX11_spanOf_7 : decode cX11_spanOf 7 = .ok (.sipush 10000, 3) := by decide +kernel
theorem dX11_spanOf_10 : decode cX11_spanOf 10 = .ok (.ireturn, 1) := by decide +kernel
theorem dX11_spanOf_11 : decode cX11_spanOf 11 = .ok (.iload_n 1, 1) := by decide +kernel
theorem dX11_spanOf_12 : decode cX11_spanOf 12 = .ok (.istore 4, 2) := by decide +kernel
theorem dX11_spanOf_14 : decode cX11_spanOf 14 = .ok (.iload_n 3, 1) := by decide +kernel
theorem dX11_spanOf_15 : decode cX11_spanOf 15 = .ok (.ifCond .ne 41, 3) := by decide +kernel
theorem dX11_spanOf_18 : decode cX11_spanOf 18 = .ok (.iload 4, 2) := by decide +kernel
theorem dX11_spanOf_20 : decode cX11_spanOf 20 = .ok (.iload_n 2, 1) := by decide +kernel
theorem dX11_spanOf_21 : decode cX11_spanOf 21 = .ok (.iadd, 1) := by decide +kernel
theorem dX11_spanOf_22 : decode cX11_spanOf 22 = .ok (.istore 4, 2) := by decide +kernel
theorem dX11_spanOf_24 : decode cX11_spanOf 24 = .ok (.iload 4, 2) := by decide +kernel
theorem dX11_spanOf_26 : decode cX11_spanOf 26 = .ok (.sipush 10000, 3) := by decide +kernel
theorem dX11_spanOf_29 : decode cX11_spanOf 29 = .ok (.if_icmp .ge 18, 3) := by decide +kernel
theorem dX11_spanOf_32 : decode cX11_spanOf 32 = .ok (.aload_n 0, 1) := by decide +kernel
theorem dX11_spanOf_33 : decode cX11_spanOf 33 = .ok (.iload 4, 2) := by decide +kernel
theorem dX11_spanOf_35 : decode cX11_spanOf 35 = .ok (.invokevirtual 187, 3) := by decide +kernel
theorem dX11_spanOf_38 : decode cX11_spanOf 38 = .ok (.ifCond .ne 9, 3) := by decide +kernel
theorem dX11_spanOf_41 : decode cX11_spanOf 41 = .ok (.iinc 4 1, 3) := by decide +kernel
theorem dX11_spanOf_44 : decode cX11_spanOf 44 = .ok (.goto (-20), 3) := by decide +kernel
theorem dX11_spanOf_47 : decode cX11_spanOf 47 = .ok (.iload 4, 2) := by decide +kernel
theorem dX11_spanOf_49 : decode cX11_spanOf 49 = .ok (.sipush 10000, 3) := by decide +kernel
theorem dX11_spanOf_52 : decode cX11_spanOf 52 = .ok (.invokestatic 197, 3) := by decide +kernel
theorem dX11_spanOf_55 : decode cX11_spanOf 55 = .ok (.ireturn, 1) := by decide +kernel
theorem dX11_spanOf_56 : decode cX11_spanOf 56 = .ok (.iload_n 2, 1) := by decide +kernel
theorem dX11_spanOf_57 : decode cX11_spanOf 57 = .ok (.istore 5, 2) := by decide +kernel
theorem dX11_spanOf_59 : decode cX11_spanOf 59 = .ok (.iload 5, 2) := by decide +kernel
theorem dX11_spanOf_61 : decode cX11_spanOf 61 = .ok (.ifCond .le 43, 3) := by decide +kernel
theorem dX11_spanOf_64 : decode cX11_spanOf 64 = .ok (.iload 4, 2) := by decide +kernel
theorem dX11_spanOf_66 : decode cX11_spanOf 66 = .ok (.sipush 10000, 3) := by decide +kernel
theorem dX11_spanOf_69 : decode cX11_spanOf 69 = .ok (.if_icmp .ge 35, 3) := by decide +kernel
theorem dX11_spanOf_72 : decode cX11_spanOf 72 = .ok (.iinc 4 1, 3) := by decide +kernel
theorem dX11_spanOf_75 : decode cX11_spanOf 75 = .ok (.iload 4, 2) := by decide +kernel
theorem dX11_spanOf_77 : decode cX11_spanOf 77 = .ok (.sipush 10000, 3) := by decide +kernel
theorem dX11_spanOf_80 : decode cX11_spanOf 80 = .ok (.if_icmp .ge 18, 3) := by decide +kernel
theorem dX11_spanOf_83 : decode cX11_spanOf 83 = .ok (.aload_n 0, 1) := by decide +kernel
theorem dX11_spanOf_84 : decode cX11_spanOf 84 = .ok (.iload 4, 2) := by decide +kernel
theorem dX11_spanOf_86 : decode cX11_spanOf 86 = .ok (.invokevirtual 187, 3) := by decide +kernel
theorem dX11_spanOf_89 : decode cX11_spanOf 89 = .ok (.ifCond .ne 9, 3) := by decide +kernel
theorem dX11_spanOf_92 : decode cX11_spanOf 92 = .ok (.iinc 4 1, 3) := by decide +kernel
theorem dX11_spanOf_95 : decode cX11_spanOf 95 = .ok (.goto (-20), 3) := by decide +kernel
theorem dX11_spanOf_98 : decode cX11_spanOf 98 = .ok (.iinc 5 (-1), 3) := by decide +kernel
theorem dX11_spanOf_101 : decode cX11_spanOf 101 = .ok (.goto (-42), 3) := by decide +kernel
theorem dX11_spanOf_104 : decode cX11_spanOf 104 = .ok (.iload 4, 2) := by decide +kernel
theorem dX11_spanOf_106 : decode cX11_spanOf 106 = .ok (.sipush 10000, 3) := by decide +kernel
theorem dX11_spanOf_109 : decode cX11_spanOf 109 = .ok (.invokestatic 197, 3) := by decide +kernel
theorem dX11_spanOf_112 : decode cX11_spanOf 112 = .ok (.ireturn, 1) := by decide +kernel
theorem dX11_after_0 : decode cX11_after 0 = .ok (.aload_n 0, 1) := by decide +kernel
theorem dX11_after_1 : decode cX11_after 1 = .ok (.iconst 0, 1) := by decide +kernel
theorem dX11_after_2 : decode cX11_after 2 = .ok (.putfield 158, 3) := by decide +kernel
theorem dX11_after_5 : decode cX11_after 5 = .ok (.iload_n 1, 1) := by decide +kernel
theorem dX11_after_6 : decode cX11_after 6 = .ok (.invokestatic 176, 3) := by decide +kernel
theorem dX11_after_9 : decode cX11_after 9 = .ok (.ifCond .eq 28, 3) := by decide +kernel
theorem dX11_after_12 : decode cX11_after 12 = .ok (.iload_n 2, 1) := by decide +kernel
theorem dX11_after_13 : decode cX11_after 13 = .ok (.iconst 0, 1) := by decide +kernel
theorem dX11_after_14 : decode cX11_after 14 = .ok (.sipush 9999, 3) := by decide +kernel
theorem dX11_after_17 : decode cX11_after 17 = .ok (.invokestatic 203, 3) := by decide +kernel
theorem dX11_after_20 : decode cX11_after 20 = .ok (.ifCond .eq 17, 3) := by decide +kernel
theorem dX11_after_23 : decode cX11_after 23 = .ok (.aload_n 0, 1) := by decide +kernel
theorem dX11_after_24 : decode cX11_after 24 = .ok (.aload_n 0, 1) := by decide +kernel
theorem dX11_after_25 : decode cX11_after 25 = .ok (.iload_n 1, 1) := by decide +kernel
theorem dX11_after_26 : decode cX11_after 26 = .ok (.iload_n 2, 1) := by decide +kernel
theorem dX11_after_27 : decode cX11_after 27 = .ok (.iload_n 3, 1) := by decide +kernel
theorem dX11_after_28 : decode cX11_after 28 = .ok (.invokevirtual 207, 3) := by decide +kernel
theorem dX11_after_31 : decode cX11_after 31 = .ok (.invokevirtual 190, 3) := by decide +kernel
theorem dX11_after_34 : decode cX11_after 34 = .ok (.goto 8, 3) := by decide +kernel
theorem dX11_after_37 : decode cX11_after 37 = .ok (.aload_n 0, 1) := by decide +kernel
theorem dX11_after_38 : decode cX11_after 38 = .ok (.iconst 2, 1) := by decide +kernel
theorem dX11_after_39 : decode cX11_after 39 = .ok (.invokevirtual 194, 3) := by decide +kernel
theorem dX11_after_42 : decode cX11_after 42 = .ok (.ireturn, 1) := by decide +kernel
theorem dX11_stop_0 : decode cX11_stop 0 = .ok (.aload_n 0, 1) := by decide +kernel
theorem dX11_stop_1 : decode cX11_stop 1 = .ok (.getfield 39, 3) := by decide +kernel
theorem dX11_stop_4 : decode cX11_stop 4 = .ok (.iload_n 1, 1) := by decide +kernel
theorem dX11_stop_5 : decode cX11_stop 5 = .ok (.putfield 211, 3) := by decide +kernel
theorem dX11_stop_8 : decode cX11_stop 8 = .ok (.aload_n 0, 1) := by decide +kernel
theorem dX11_stop_9 : decode cX11_stop 9 = .ok (.getfield 39, 3) := by decide +kernel
theorem dX11_stop_12 : decode cX11_stop 12 = .ok (.iload_n 2, 1) := by decide +kernel
theorem dX11_stop_13 : decode cX11_stop 13 = .ok (.putfield 213, 3) := by decide +kernel
theorem dX11_stop_16 : decode cX11_stop 16 = .ok (.aload_n 0, 1) := by decide +kernel
theorem dX11_stop_17 : decode cX11_stop 17 = .ok (.getfield 39, 3) := by decide +kernel
theorem dX11_stop_20 : decode cX11_stop 20 = .ok (.areturn, 1) := by decide +kernel
theorem dX11_byteAt_0 : decode cX11_byteAt 0 = .ok (.iload_n 1, 1) := by decide +kernel
theorem dX11_byteAt_1 : decode cX11_byteAt 1 = .ok (.aload_n 0, 1) := by decide +kernel
theorem dX11_byteAt_2 : decode cX11_byteAt 2 = .ok (.getfield 216, 3) := by decide +kernel
theorem dX11_byteAt_5 : decode cX11_byteAt 5 = .ok (.if_icmp .ge 16, 3) := by decide +kernel
theorem dX11_byteAt_8 : decode cX11_byteAt 8 = .ok (.aload_n 0, 1) := by decide +kernel
theorem dX11_byteAt_9 : decode cX11_byteAt 9 = .ok (.getfield 43, 3) := by decide +kernel
theorem dX11_byteAt_12 : decode cX11_byteAt 12 = .ok (.iload_n 1, 1) := by decide +kernel
theorem dX11_byteAt_13 : decode cX11_byteAt 13 = .ok (.baload, 1) := by decide +kernel
theorem dX11_byteAt_14 : decode cX11_byteAt 14 = .ok (.sipush 255, 3) := by decide +kernel
theorem dX11_byteAt_17 : decode cX11_byteAt 17 = .ok (.iand, 1) := by decide +kernel
theorem dX11_byteAt_18 : decode cX11_byteAt 18 = .ok (.goto 4, 3) := by decide +kernel
theorem dX11_byteAt_21 : decode cX11_byteAt 21 = .ok (.iconst (-1), 1) := by decide +kernel
theorem dX11_byteAt_22 : decode cX11_byteAt 22 = .ok (.ireturn, 1) := by decide +kernel
theorem dX11_isLetter_0 : decode cX11_isLetter 0 = .ok (.iload_n 0, 1) := by decide +kernel
theorem dX11_isLetter_1 : decode cX11_isLetter 1 = .ok (.bipush 97, 2) := by decide +kernel
theorem dX11_isLetter_3 : decode cX11_isLetter 3 = .ok (.if_icmp .lt 13, 3) := by decide +kernel
theorem dX11_isLetter_6 : decode cX11_isLetter 6 = .ok (.iload_n 0, 1) := by decide +kernel
theorem dX11_isLetter_7 : decode cX11_isLetter 7 = .ok (.bipush 122, 2) := by decide +kernel
theorem dX11_isLetter_9 : decode cX11_isLetter 9 = .ok (.if_icmp .gt 7, 3) := by decide +kernel
theorem dX11_isLetter_12 : decode cX11_isLetter 12 = .ok (.iconst 1, 1) := by decide +kernel
theorem dX11_isLetter_13 : decode cX11_isLetter 13 = .ok (.goto 4, 3) := by decide +kernel
theorem dX11_isLetter_16 : decode cX11_isLetter 16 = .ok (.iconst 0, 1) := by decide +kernel
theorem dX11_isLetter_17 : decode cX11_isLetter 17 = .ok (.ireturn, 1) := by decide +kernel
theorem dX11_isDigit_0 : decode cX11_isDigit 0 = .ok (.iload_n 0, 1) := by decide +kernel
theorem dX11_isDigit_1 : decode cX11_isDigit 1 = .ok (.bipush 48, 2) := by decide +kernel
theorem dX11_isDigit_3 : decode cX11_isDigit 3 = .ok (.if_icmp .lt 13, 3) := by decide +kernel
theorem dX11_isDigit_6 : decode cX11_isDigit 6 = .ok (.iload_n 0, 1) := by decide +kernel
theorem dX11_isDigit_7 : decode cX11_isDigit 7 = .ok (.bipush 57, 2) := by decide +kernel
theorem dX11_isDigit_9 : decode cX11_isDigit 9 = .ok (.if_icmp .gt 7, 3) := by decide +kernel
theorem dX11_isDigit_12 : decode cX11_isDigit 12 = .ok (.iconst 1, 1) := by decide +kernel
theorem dX11_isDigit_13 : decode cX11_isDigit 13 = .ok (.goto 4, 3) := by decide +kernel
theorem dX11_isDigit_16 : decode cX11_isDigit 16 = .ok (.iconst 0, 1) := by decide +kernel
theorem dX11_isDigit_17 : decode cX11_isDigit 17 = .ok (.ireturn, 1) := by decide +kernel
theorem dX11_next_0 : decode cX11_next 0 = .ok (.aload_n 0, 1) := by decide +kernel
theorem dX11_next_1 : decode cX11_next 1 = .ok (.aload_n 0, 1) := by decide +kernel
theorem dX11_next_2 : decode cX11_next 2 = .ok (.getfield 219, 3) := by decide +kernel
theorem dX11_next_5 : decode cX11_next 5 = .ok (.invokevirtual 222, 3) := by decide +kernel
theorem dX11_next_8 : decode cX11_next 8 = .ok (.bipush 32, 2) := by decide +kernel
theorem dX11_next_10 : decode cX11_next 10 = .ok (.if_icmp .eq 16, 3) := by decide +kernel
theorem dX11_next_13 : decode cX11_next 13 = .ok (.aload_n 0, 1) := by decide +kernel
theorem dX11_next_14 : decode cX11_next 14 = .ok (.aload_n 0, 1) := by decide +kernel
theorem dX11_next_15 : decode cX11_next 15 = .ok (.getfield 219, 3) := by decide +kernel
theorem dX11_next_18 : decode cX11_next 18 = .ok (.invokevirtual 222, 3) := by decide +kernel
theorem dX11_next_21 : decode cX11_next 21 = .ok (.bipush 10, 2) := by decide +kernel
theorem dX11_next_23 : decode cX11_next 23 = .ok (.if_icmp .ne 16, 3) := by decide +kernel
theorem dX11_next_26 : decode cX11_next 26 = .ok (.aload_n 0, 1) := by decide +kernel
theorem dX11_next_27 : decode cX11_next 27 = .ok (.dup, 1) := by decide +kernel
theorem dX11_next_28 : decode cX11_next 28 = .ok (.getfield 219, 3) := by decide +kernel
theorem dX11_next_31 : decode cX11_next 31 = .ok (.iconst 1, 1) := by decide +kernel
theorem dX11_next_32 : decode cX11_next 32 = .ok (.iadd, 1) := by decide +kernel
theorem dX11_next_33 : decode cX11_next 33 = .ok (.putfield 219, 3) := by decide +kernel
theorem dX11_next_36 : decode cX11_next 36 = .ok (.goto (-36), 3) := by decide +kernel
theorem dX11_next_39 : decode cX11_next 39 = .ok (.aload_n 0, 1) := by decide +kernel
theorem dX11_next_40 : decode cX11_next 40 = .ok (.aload_n 0, 1) := by decide +kernel
theorem dX11_next_41 : decode cX11_next 41 = .ok (.getfield 219, 3) := by decide +kernel
theorem dX11_next_44 : decode cX11_next 44 = .ok (.putfield 225, 3) := by decide +kernel
theorem dX11_next_47 : decode cX11_next 47 = .ok (.aload_n 0, 1) := by decide +kernel
theorem dX11_next_48 : decode cX11_next 48 = .ok (.iconst 0, 1) := by decide +kernel
theorem dX11_next_49 : decode cX11_next 49 = .ok (.putfield 226, 3) := by decide +kernel
theorem dX11_next_52 : decode cX11_next 52 = .ok (.aload_n 0, 1) := by decide +kernel
theorem dX11_next_53 : decode cX11_next 53 = .ok (.iconst 0, 1) := by decide +kernel
theorem dX11_next_54 : decode cX11_next 54 = .ok (.putfield 229, 3) := by decide +kernel
theorem dX11_next_57 : decode cX11_next 57 = .ok (.aload_n 0, 1) := by decide +kernel
theorem dX11_next_58 : decode cX11_next 58 = .ok (.aload_n 0, 1) := by decide +kernel
theorem dX11_next_59 : decode cX11_next 59 = .ok (.getfield 219, 3) := by decide +kernel
theorem dX11_next_62 : decode cX11_next 62 = .ok (.invokevirtual 222, 3) := by decide +kernel
theorem dX11_next_65 : decode cX11_next 65 = .ok (.istore_n 1, 1) := by decide +kernel
theorem dX11_next_66 : decode cX11_next 66 = .ok (.iconst 0, 1) := by decide +kernel
theorem dX11_next_67 : decode cX11_next 67 = .ok (.istore_n 2, 1) := by decide +kernel
theorem dX11_next_68 : decode cX11_next 68 = .ok (.aload_n 0, 1) := by decide +kernel
theorem dX11_next_69 : decode cX11_next 69 = .ok (.lconst 0, 1) := by decide +kernel
theorem dX11_next_70 : decode cX11_next 70 = .ok (.putfield 232, 3) := by decide +kernel
theorem dX11_next_73 : decode cX11_next 73 = .ok (.iload_n 1, 1) := by decide +kernel
theorem dX11_next_74 : decode cX11_next 74 = .ok (.iconst (-1), 1) := by decide +kernel
theorem dX11_next_75 : decode cX11_next 75 = .ok (.if_icmp .ne 11, 3) := by decide +kernel
theorem dX11_next_78 : decode cX11_next 78 = .ok (.aload_n 0, 1) := by decide +kernel
theorem dX11_next_79 : decode cX11_next 79 = .ok (.iconst 1, 1) := by decide +kernel
theorem dX11_next_80 : decode cX11_next 80 = .ok (.putfield 226, 3) := by decide +kernel
theorem dX11_next_83 : decode cX11_next 83 = .ok (.goto 264, 3) := by decide +kernel
theorem dX11_next_86 : decode cX11_next 86 = .ok (.iload_n 1, 1) := by decide +kernel
theorem dX11_next_87 : decode cX11_next 87 = .ok (.invokestatic 236, 3) := by decide +kernel
theorem dX11_next_90 : decode cX11_next 90 = .ok (.ifCond .eq 84, 3) := by decide +kernel
theorem dX11_next_93 : decode cX11_next 93 = .ok (.aload_n 0, 1) := by decide +kernel
theorem dX11_next_94 : decode cX11_next 94 = .ok (.aload_n 0, 1) := by decide +kernel
theorem dX11_next_95 : decode cX11_next 95 = .ok (.getfield 219, 3) := by decide +kernel
theorem dX11_next_98 : decode cX11_next 98 = .ok (.invokevirtual 222, 3) := by decide +kernel
theorem dX11_next_101 : decode cX11_next 101 = .ok (.invokestatic 236, 3) := by decide +kernel
theorem dX11_next_104 : decode cX11_next 104 = .ok (.ifCond .eq 52, 3) := by decide +kernel
theorem dX11_next_107 : decode cX11_next 107 = .ok (.iload_n 2, 1) := by decide +kernel
theorem dX11_next_108 : decode cX11_next 108 = .ok (.bipush 8, 2) := by decide +kernel
theorem dX11_next_110 : decode cX11_next 110 = .ok (.if_icmp .ge 30, 3) := by decide +kernel
theorem dX11_next_113 : decode cX11_next 113 = .ok (.aload_n 0, 1) := by decide +kernel
theorem dX11_next_114 : decode cX11_next 114 = .ok (.ldc2_w 239, 3) := by decide +kernel
theorem dX11_next_117 : decode cX11_next 117 = .ok (.aload_n 0, 1) := by decide +kernel
theorem dX11_next_118 : decode cX11_next 118 = .ok (.getfield 232, 3) := by decide +kernel
theorem dX11_next_121 : decode cX11_next 121 = .ok (.lmul, 1) := by decide +kernel
theorem dX11_next_122 : decode cX11_next 122 = .ok (.aload_n 0, 1) := by decide +kernel
theorem dX11_next_123 : decode cX11_next 123 = .ok (.aload_n 0, 1) := by decide +kernel
theorem dX11_next_124 : decode cX11_next 124 = .ok (.getfield 219, 3) := by decide +kernel
theorem dX11_next_127 : decode cX11_next 127 = .ok (.invokevirtual 222, 3) := by decide +kernel
theorem dX11_next_130 : decode cX11_next 130 = .ok (.bipush 97, 2) := by decide +kernel
theorem dX11_next_132 : decode cX11_next 132 = .ok (.isub, 1) := by decide +kernel
theorem dX11_next_133 : decode cX11_next 133 = .ok (.iconst 1, 1) := by decide +kernel
theorem dX11_next_134 : decode cX11_next 134 = .ok (.iadd, 1) := by decide +kernel
theorem dX11_next_135 : decode cX11_next 135 = .ok (.i2l, 1) := by decide +kernel
theorem dX11_next_136 : decode cX11_next 136 = .ok (.ladd, 1) := by decide +kernel
theorem dX11_next_137 : decode cX11_next 137 = .ok (.putfield 232, 3) := by decide +kernel
theorem dX11_next_140 : decode cX11_next 140 = .ok (.iinc 2 1, 3) := by decide +kernel
theorem dX11_next_143 : decode cX11_next 143 = .ok (.aload_n 0, 1) := by decide +kernel
theorem dX11_next_144 : decode cX11_next 144 = .ok (.dup, 1) := by decide +kernel
theorem dX11_next_145 : decode cX11_next 145 = .ok (.getfield 219, 3) := by decide +kernel
theorem dX11_next_148 : decode cX11_next 148 = .ok (.iconst 1, 1) := by decide +kernel
theorem dX11_next_149 : decode cX11_next 149 = .ok (.iadd, 1) := by decide +kernel
theorem dX11_next_150 : decode cX11_next 150 = .ok (.putfield 219, 3) := by decide +kernel
theorem dX11_next_153 : decode cX11_next 153 = .ok (.goto (-60), 3) := by decide +kernel
theorem dX11_next_156 : decode cX11_next 156 = .ok (.aload_n 0, 1) := by decide +kernel
theorem dX11_next_157 : decode cX11_next 157 = .ok (.iload_n 2, 1) := by decide +kernel
theorem dX11_next_158 : decode cX11_next 158 = .ok (.bipush 8, 2) := by decide +kernel
theorem dX11_next_160 : decode cX11_next 160 = .ok (.if_icmp .le 7, 3) := by decide +kernel
theorem dX11_next_163 : decode cX11_next 163 = .ok (.iconst 0, 1) := by decide +kernel
theorem dX11_next_164 : decode cX11_next 164 = .ok (.goto 4, 3) := by decide +kernel
theorem dX11_next_167 : decode cX11_next 167 = .ok (.iconst 2, 1) := by decide +kernel
theorem dX11_next_168 : decode cX11_next 168 = .ok (.putfield 226, 3) := by decide +kernel
theorem dX11_next_171 : decode cX11_next 171 = .ok (.goto 176, 3) := by decide +kernel
theorem dX11_next_174 : decode cX11_next 174 = .ok (.iload_n 1, 1) := by decide +kernel
theorem dX11_next_175 : decode cX11_next 175 = .ok (.invokestatic 241, 3) := by decide +kernel
theorem dX11_next_178 : decode cX11_next 178 = .ok (.ifCond .eq 80, 3) := by decide +kernel
theorem dX11_next_181 : decode cX11_next 181 = .ok (.aload_n 0, 1) := by decide +kernel
theorem dX11_next_182 : decode cX11_next 182 = .ok (.aload_n 0, 1) := by decide +kernel
theorem dX11_next_183 : decode cX11_next 183 = .ok (.getfield 219, 3) := by decide +kernel
theorem dX11_next_186 : decode cX11_next 186 = .ok (.invokevirtual 222, 3) := by decide +kernel
theorem dX11_next_189 : decode cX11_next 189 = .ok (.invokestatic 241, 3) := by decide +kernel
theorem dX11_next_192 : decode cX11_next 192 = .ok (.ifCond .eq 49, 3) := by decide +kernel
theorem dX11_next_195 : decode cX11_next 195 = .ok (.iload_n 2, 1) := by decide +kernel
theorem dX11_next_196 : decode cX11_next 196 = .ok (.iconst 4, 1) := by decide +kernel
theorem dX11_next_197 : decode cX11_next 197 = .ok (.if_icmp .ge 28, 3) := by decide +kernel
theorem dX11_next_200 : decode cX11_next 200 = .ok (.aload_n 0, 1) := by decide +kernel
theorem dX11_next_201 : decode cX11_next 201 = .ok (.ldc2_w 244, 3) := by decide +kernel
theorem dX11_next_204 : decode cX11_next 204 = .ok (.aload_n 0, 1) := by decide +kernel
theorem dX11_next_205 : decode cX11_next 205 = .ok (.getfield 232, 3) := by decide +kernel
theorem dX11_next_208 : decode cX11_next 208 = .ok (.lmul, 1) := by decide +kernel
theorem dX11_next_209 : decode cX11_next 209 = .ok (.aload_n 0, 1) := by decide +kernel
theorem dX11_next_210 : decode cX11_next 210 = .ok (.aload_n 0, 1) := by decide +kernel
theorem dX11_next_211 : decode cX11_next 211 = .ok (.getfield 219, 3) := by decide +kernel
theorem dX11_next_214 : decode cX11_next 214 = .ok (.invokevirtual 222, 3) := by decide +kernel
theorem dX11_next_217 : decode cX11_next 217 = .ok (.bipush 48, 2) := by decide +kernel
theorem dX11_next_219 : decode cX11_next 219 = .ok (.isub, 1) := by decide +kernel
theorem dX11_next_220 : decode cX11_next 220 = .ok (.i2l, 1) := by decide +kernel
theorem dX11_next_221 : decode cX11_next 221 = .ok (.ladd, 1) := by decide +kernel
theorem dX11_next_222 : decode cX11_next 222 = .ok (.putfield 232, 3) := by decide +kernel
theorem dX11_next_225 : decode cX11_next 225 = .ok (.iinc 2 1, 3) := by decide +kernel
theorem dX11_next_228 : decode cX11_next 228 = .ok (.aload_n 0, 1) := by decide +kernel
theorem dX11_next_229 : decode cX11_next 229 = .ok (.dup, 1) := by decide +kernel
theorem dX11_next_230 : decode cX11_next 230 = .ok (.getfield 219, 3) := by decide +kernel
theorem dX11_next_233 : decode cX11_next 233 = .ok (.iconst 1, 1) := by decide +kernel
theorem dX11_next_234 : decode cX11_next 234 = .ok (.iadd, 1) := by decide +kernel
theorem dX11_next_235 : decode cX11_next 235 = .ok (.putfield 219, 3) := by decide +kernel
theorem dX11_next_238 : decode cX11_next 238 = .ok (.goto (-57), 3) := by decide +kernel
theorem dX11_next_241 : decode cX11_next 241 = .ok (.aload_n 0, 1) := by decide +kernel
theorem dX11_next_242 : decode cX11_next 242 = .ok (.iload_n 2, 1) := by decide +kernel
theorem dX11_next_243 : decode cX11_next 243 = .ok (.iconst 4, 1) := by decide +kernel
theorem dX11_next_244 : decode cX11_next 244 = .ok (.if_icmp .le 7, 3) := by decide +kernel
theorem dX11_next_247 : decode cX11_next 247 = .ok (.iconst 0, 1) := by decide +kernel
theorem dX11_next_248 : decode cX11_next 248 = .ok (.goto 4, 3) := by decide +kernel
theorem dX11_next_251 : decode cX11_next 251 = .ok (.iconst 3, 1) := by decide +kernel
theorem dX11_next_252 : decode cX11_next 252 = .ok (.putfield 226, 3) := by decide +kernel
theorem dX11_next_255 : decode cX11_next 255 = .ok (.goto 92, 3) := by decide +kernel
theorem dX11_next_258 : decode cX11_next 258 = .ok (.iload_n 1, 1) := by decide +kernel
theorem dX11_next_259 : decode cX11_next 259 = .ok (.bipush 46, 2) := by decide +kernel
theorem dX11_next_261 : decode cX11_next 261 = .ok (.if_icmp .ne 36, 3) := by decide +kernel
theorem dX11_next_264 : decode cX11_next 264 = .ok (.aload_n 0, 1) := by decide +kernel
theorem dX11_next_265 : decode cX11_next 265 = .ok (.aload_n 0, 1) := by decide +kernel
theorem dX11_next_266 : decode cX11_next 266 = .ok (.getfield 219, 3) := by decide +kernel
theorem dX11_next_269 : decode cX11_next 269 = .ok (.iconst 1, 1) := by decide +kernel
theorem dX11_next_270 : decode cX11_next 270 = .ok (.iadd, 1) := by decide +kernel
theorem dX11_next_271 : decode cX11_next 271 = .ok (.invokevirtual 222, 3) := by decide +kernel
theorem dX11_next_274 : decode cX11_next 274 = .ok (.bipush 46, 2) := by decide +kernel
theorem dX11_next_276 : decode cX11_next 276 = .ok (.if_icmp .ne 21, 3) := by decide +kernel
theorem dX11_next_279 : decode cX11_next 279 = .ok (.aload_n 0, 1) := by decide +kernel
theorem dX11_next_280 : decode cX11_next 280 = .ok (.iconst 4, 1) := by decide +kernel
theorem dX11_next_281 : decode cX11_next 281 = .ok (.putfield 226, 3) := by decide +kernel
theorem dX11_next_284 : decode cX11_next 284 = .ok (.aload_n 0, 1) := by decide +kernel
theorem dX11_next_285 : decode cX11_next 285 = .ok (.dup, 1) := by decide +kernel
theorem dX11_next_286 : decode cX11_next 286 = .ok (.getfield 219, 3) := by decide +kernel
theorem dX11_next_289 : decode cX11_next 289 = .ok (.iconst 2, 1) := by decide +kernel
theorem dX11_next_290 : decode cX11_next 290 = .ok (.iadd, 1) := by decide +kernel
theorem dX11_next_291 : decode cX11_next 291 = .ok (.putfield 219, 3) := by decide +kernel
theorem dX11_next_294 : decode cX11_next 294 = .ok (.goto 53, 3) := by decide +kernel
theorem dX11_next_297 : decode cX11_next 297 = .ok (.iload_n 1, 1) := by decide +kernel
theorem dX11_next_298 : decode cX11_next 298 = .ok (.bipush 58, 2) := by decide +kernel
theorem dX11_next_300 : decode cX11_next 300 = .ok (.if_icmp .eq 27, 3) := by decide +kernel
theorem dX11_next_303 : decode cX11_next 303 = .ok (.iload_n 1, 1) := by decide +kernel
theorem dX11_next_304 : decode cX11_next 304 = .ok (.bipush 59, 2) := by decide +kernel
theorem dX11_next_306 : decode cX11_next 306 = .ok (.if_icmp .eq 21, 3) := by decide +kernel
theorem dX11_next_309 : decode cX11_next 309 = .ok (.iload_n 1, 1) := by decide +kernel
theorem dX11_next_310 : decode cX11_next 310 = .ok (.bipush 63, 2) := by decide +kernel
theorem dX11_next_312 : decode cX11_next 312 = .ok (.if_icmp .eq 15, 3) := by decide +kernel
theorem dX11_next_315 : decode cX11_next 315 = .ok (.iload_n 1, 1) := by decide +kernel
theorem dX11_next_316 : decode cX11_next 316 = .ok (.bipush 47, 2) := by decide +kernel
theorem dX11_next_318 : decode cX11_next 318 = .ok (.if_icmp .eq 9, 3) := by decide +kernel
theorem dX11_next_321 : decode cX11_next 321 = .ok (.iload_n 1, 1) := by decide +kernel
theorem dX11_next_322 : decode cX11_next 322 = .ok (.bipush 61, 2) := by decide +kernel
theorem dX11_next_324 : decode cX11_next 324 = .ok (.if_icmp .ne 23, 3) := by decide +kernel
theorem dX11_next_327 : decode cX11_next 327 = .ok (.aload_n 0, 1) := by decide +kernel
theorem dX11_next_328 : decode cX11_next 328 = .ok (.iconst 5, 1) := by decide +kernel
theorem dX11_next_329 : decode cX11_next 329 = .ok (.putfield 226, 3) := by decide +kernel
theorem dX11_next_332 : decode cX11_next 332 = .ok (.aload_n 0, 1) := by decide +kernel
theorem dX11_next_333 : decode cX11_next 333 = .ok (.iload_n 1, 1) := by decide +kernel
theorem dX11_next_334 : decode cX11_next 334 = .ok (.putfield 229, 3) := by decide +kernel
theorem dX11_next_337 : decode cX11_next 337 = .ok (.aload_n 0, 1) := by decide +kernel
theorem dX11_next_338 : decode cX11_next 338 = .ok (.dup, 1) := by decide +kernel
theorem dX11_next_339 : decode cX11_next 339 = .ok (.getfield 219, 3) := by decide +kernel
theorem dX11_next_342 : decode cX11_next 342 = .ok (.iconst 1, 1) := by decide +kernel
theorem dX11_next_343 : decode cX11_next 343 = .ok (.iadd, 1) := by decide +kernel
theorem dX11_next_344 : decode cX11_next 344 = .ok (.putfield 219, 3) := by decide +kernel
theorem dX11_next_347 : decode cX11_next 347 = .ok (.return_, 1) := by decide +kernel
theorem dX11_is_0 : decode cX11_is 0 = .ok (.aload_n 0, 1) := by decide +kernel
theorem dX11_is_1 : decode cX11_is 1 = .ok (.getfield 226, 3) := by decide +kernel
theorem dX11_is_4 : decode cX11_is 4 = .ok (.iconst 5, 1) := by decide +kernel
theorem dX11_is_5 : decode cX11_is 5 = .ok (.if_icmp .ne 15, 3) := by decide +kernel
theorem dX11_is_8 : decode cX11_is 8 = .ok (.aload_n 0, 1) := by decide +kernel
theorem dX11_is_9 : decode cX11_is 9 = .ok (.getfield 229, 3) := by decide +kernel
theorem dX11_is_12 : decode cX11_is 12 = .ok (.iload_n 1, 1) := by decide +kernel
theorem dX11_is_13 : decode cX11_is 13 = .ok (.if_icmp .ne 7, 3) := by decide +kernel
theorem dX11_is_16 : decode cX11_is 16 = .ok (.iconst 1, 1) := by decide +kernel
theorem dX11_is_17 : decode cX11_is 17 = .ok (.goto 4, 3) := by decide +kernel
theorem dX11_is_20 : decode cX11_is 20 = .ok (.iconst 0, 1) := by decide +kernel
theorem dX11_is_21 : decode cX11_is 21 = .ok (.ireturn, 1) := by decide +kernel
theorem dX11_need_0 : decode cX11_need 0 = .ok (.aload_n 0, 1) := by decide +kernel
theorem dX11_need_1 : decode cX11_need 1 = .ok (.iload_n 1, 1) := by decide +kernel
theorem dX11_need_2 : decode cX11_need 2 = .ok (.invokevirtual 246, 3) := by decide +kernel
theorem dX11_need_5 : decode cX11_need 5 = .ok (.ifCond .ne 13, 3) := by decide +kernel
theorem dX11_need_8 : decode cX11_need 8 = .ok (.aload_n 0, 1) := by decide +kernel
theorem dX11_need_9 : decode cX11_need 9 = .ok (.iconst 1, 1) := by decide +kernel
theorem dX11_need_10 : decode cX11_need 10 = .ok (.aload_n 0, 1) := by decide +kernel
theorem dX11_need_11 : decode cX11_need 11 = .ok (.getfield 225, 3) := by decide +kernel
theorem dX11_need_14 : decode cX11_need 14 = .ok (.invokevirtual 249, 3) := by decide +kernel
theorem dX11_need_17 : decode cX11_need 17 = .ok (.athrow, 1) := by decide +kernel
theorem dX11_need_18 : decode cX11_need 18 = .ok (.aload_n 0, 1) := by decide +kernel
theorem dX11_need_19 : decode cX11_need 19 = .ok (.invokevirtual 252, 3) := by decide +kernel
theorem dX11_need_22 : decode cX11_need 22 = .ok (.return_, 1) := by decide +kernel
theorem dX11_needSort_0 : decode cX11_needSort 0 = .ok (.aload_n 0, 1) := by decide +kernel
theorem dX11_needSort_1 : decode cX11_needSort 1 = .ok (.getfield 226, 3) := by decide +kernel
theorem dX11_needSort_4 : decode cX11_needSort 4 = .ok (.iload_n 1, 1) := by decide +kernel
theorem dX11_needSort_5 : decode cX11_needSort 5 = .ok (.if_icmp .eq 13, 3) := by decide +kernel
theorem dX11_needSort_8 : decode cX11_needSort 8 = .ok (.aload_n 0, 1) := by decide +kernel
theorem dX11_needSort_9 : decode cX11_needSort 9 = .ok (.iconst 1, 1) := by decide +kernel
theorem dX11_needSort_10 : decode cX11_needSort 10 = .ok (.aload_n 0, 1) := by decide +kernel
theorem dX11_needSort_11 : decode cX11_needSort 11 = .ok (.getfield 225, 3) := by decide +kernel
theorem dX11_needSort_14 : decode cX11_needSort 14 = .ok (.invokevirtual 249, 3) := by decide +kernel
theorem dX11_needSort_17 : decode cX11_needSort 17 = .ok (.athrow, 1) := by decide +kernel
theorem dX11_needSort_18 : decode cX11_needSort 18 = .ok (.return_, 1) := by decide +kernel
theorem dX11_word_0 : decode cX11_word 0 = .ok (.lconst 0, 1) := by decide +kernel
theorem dX11_word_1 : decode cX11_word 1 = .ok (.lstore_n 1, 1) := by decide +kernel
theorem dX11_word_2 : decode cX11_word 2 = .ok (.iconst 0, 1) := by decide +kernel
theorem dX11_word_3 : decode cX11_word 3 = .ok (.istore_n 3, 1) := by decide +kernel
theorem dX11_word_4 : decode cX11_word 4 = .ok (.iload_n 3, 1) := by decide +kernel
theorem dX11_word_5 : decode cX11_word 5 = .ok (.aload_n 0, 1) := by decide +kernel
theorem dX11_word_6 : decode cX11_word 6 = .ok (.invokevirtual 255, 3) := by decide +kernel
theorem dX11_word_9 : decode cX11_word 9 = .ok (.if_icmp .ge 27, 3) := by decide +kernel
theorem dX11_word_12 : decode cX11_word 12 = .ok (.ldc2_w 239, 3) := by decide +kernel
theorem dX11_word_15 : decode cX11_word 15 = .ok (.lload_n 1, 1) := by decide +kernel
theorem dX11_word_16 : decode cX11_word 16 = .ok (.lmul, 1) := by decide +kernel
theorem dX11_word_17 : decode cX11_word 17 = .ok (.aload_n 0, 1) := by decide +kernel
theorem dX11_word_18 : decode cX11_word 18 = .ok (.iload_n 3, 1) := by decide +kernel
theorem dX11_word_19 : decode cX11_word 19 = .ok (.invokevirtual 260, 3) := by decide +kernel
theorem dX11_word_22 : decode cX11_word 22 = .ok (.bipush 97, 2) := by decide +kernel
theorem dX11_word_24 : decode cX11_word 24 = .ok (.isub, 1) := by decide +kernel
theorem dX11_word_25 : decode cX11_word 25 = .ok (.iconst 1, 1) := by decide +kernel
theorem dX11_word_26 : decode cX11_word 26 = .ok (.iadd, 1) := by decide +kernel
theorem dX11_word_27 : decode cX11_word 27 = .ok (.i2l, 1) := by decide +kernel
theorem dX11_word_28 : decode cX11_word 28 = .ok (.ladd, 1) := by decide +kernel
theorem dX11_word_29 : decode cX11_word 29 = .ok (.lstore_n 1, 1) := by decide +kernel
theorem dX11_word_30 : decode cX11_word 30 = .ok (.iinc 3 1, 3) := by decide +kernel
theorem dX11_word_33 : decode cX11_word 33 = .ok (.goto (-29), 3) := by decide +kernel
theorem dX11_word_36 : decode cX11_word 36 = .ok (.lload_n 1, 1) := by decide +kernel
theorem dX11_word_37 : decode cX11_word 37 = .ok (.lreturn, 1) := by decide +kernel
theorem dX11_fieldOf_0 : decode cX11_fieldOf 0 = .ok (.iconst 0, 1) := by decide +kernel
theorem dX11_fieldOf_1 : decode cX11_fieldOf 1 = .ok (.istore 4, 2) := by decide +kernel
theorem dX11_fieldOf_3 : decode cX11_fieldOf 3 = .ok (.iload 4, 2) := by decide +kernel
theorem dX11_fieldOf_5 : decode cX11_fieldOf 5 = .ok (.aload_n 0, 1) := by decide +kernel
theorem dX11_fieldOf_6 : decode cX11_fieldOf 6 = .ok (.getfield 47, 3) := by decide +kernel
theorem dX11_fieldOf_9 : decode cX11_fieldOf 9 = .ok (.iload_n 1, 1) := by decide +kernel
theorem dX11_fieldOf_10 : decode cX11_fieldOf 10 = .ok (.iaload, 1) := by decide +kernel
theorem dX11_fieldOf_11 : decode cX11_fieldOf 11 = .ok (.if_icmp .ge 26, 3) := by decide +kernel
theorem dX11_fieldOf_14 : decode cX11_fieldOf 14 = .ok (.aload_n 0, 1) := by decide +kernel
theorem dX11_fieldOf_15 : decode cX11_fieldOf 15 = .ok (.getfield 62, 3) := by decide +kernel
theorem dX11_fieldOf_18 : decode cX11_fieldOf 18 = .ok (.bipush 8, 2) := by decide +kernel
theorem dX11_fieldOf_20 : decode cX11_fieldOf 20 = .ok (.iload_n 1, 1) := by decide +kernel
theorem dX11_fieldOf_21 : decode cX11_fieldOf 21 = .ok (.imul, 1) := by decide +kernel
theorem dX11_fieldOf_22 : decode cX11_fieldOf 22 = .ok (.iload 4, 2) := by decide +kernel
theorem dX11_fieldOf_24 : decode cX11_fieldOf 24 = .ok (.iadd, 1) := by decide +kernel
theorem dX11_fieldOf_25 : decode cX11_fieldOf 25 = .ok (.laload, 1) := by decide +kernel
theorem dX11_fieldOf_26 : decode cX11_fieldOf 26 = .ok (.lload_n 2, 1) := by decide +kernel
theorem dX11_fieldOf_27 : decode cX11_fieldOf 27 = .ok (.lcmp, 1) := by decide +kernel
theorem dX11_fieldOf_28 : decode cX11_fieldOf 28 = .ok (.ifCond .eq 9, 3) := by decide +kernel
theorem dX11_fieldOf_31 : decode cX11_fieldOf 31 = .ok (.iinc 4 1, 3) := by decide +kernel
theorem dX11_fieldOf_34 : decode cX11_fieldOf 34 = .ok (.goto (-31), 3) := by decide +kernel
theorem dX11_fieldOf_37 : decode cX11_fieldOf 37 = .ok (.iload 4, 2) := by decide +kernel
theorem dX11_fieldOf_39 : decode cX11_fieldOf 39 = .ok (.aload_n 0, 1) := by decide +kernel
theorem dX11_fieldOf_40 : decode cX11_fieldOf 40 = .ok (.getfield 47, 3) := by decide +kernel
theorem dX11_fieldOf_43 : decode cX11_fieldOf 43 = .ok (.iload_n 1, 1) := by decide +kernel
theorem dX11_fieldOf_44 : decode cX11_fieldOf 44 = .ok (.iaload, 1) := by decide +kernel
theorem dX11_fieldOf_45 : decode cX11_fieldOf 45 = .ok (.if_icmp .ge 8, 3) := by decide +kernel
theorem dX11_fieldOf_48 : decode cX11_fieldOf 48 = .ok (.iload 4, 2) := by decide +kernel
theorem dX11_fieldOf_50 : decode cX11_fieldOf 50 = .ok (.goto 4, 3) := by decide +kernel
theorem dX11_fieldOf_53 : decode cX11_fieldOf 53 = .ok (.iconst (-1), 1) := by decide +kernel
theorem dX11_fieldOf_54 : decode cX11_fieldOf 54 = .ok (.ireturn, 1) := by decide +kernel
theorem dX11_start_0 : decode cX11_start 0 = .ok (.aload_n 0, 1) := by decide +kernel
theorem dX11_start_1 : decode cX11_start 1 = .ok (.iload_n 1, 1) := by decide +kernel
theorem dX11_start_2 : decode cX11_start 2 = .ok (.putfield 216, 3) := by decide +kernel
theorem dX11_start_5 : decode cX11_start 5 = .ok (.aload_n 0, 1) := by decide +kernel
theorem dX11_start_6 : decode cX11_start 6 = .ok (.iconst 0, 1) := by decide +kernel
theorem dX11_start_7 : decode cX11_start 7 = .ok (.putfield 264, 3) := by decide +kernel
theorem dX11_start_10 : decode cX11_start 10 = .ok (.aload_n 0, 1) := by decide +kernel
theorem dX11_start_11 : decode cX11_start 11 = .ok (.iconst 0, 1) := by decide +kernel
theorem dX11_start_12 : decode cX11_start 12 = .ok (.putfield 219, 3) := by decide +kernel
theorem dX11_start_15 : decode cX11_start 15 = .ok (.aload_n 0, 1) := by decide +kernel
theorem dX11_start_16 : decode cX11_start 16 = .ok (.iconst 0, 1) := by decide +kernel
theorem dX11_start_17 : decode cX11_start 17 = .ok (.putfield 267, 3) := by decide +kernel
theorem dX11_start_20 : decode cX11_start 20 = .ok (.aload_n 0, 1) := by decide +kernel
theorem dX11_start_21 : decode cX11_start 21 = .ok (.iconst (-1), 1) := by decide +kernel
theorem dX11_start_22 : decode cX11_start 22 = .ok (.putfield 15, 3) := by decide +kernel
theorem dX11_start_25 : decode cX11_start 25 = .ok (.aload_n 0, 1) := by decide +kernel
theorem dX11_start_26 : decode cX11_start 26 = .ok (.invokevirtual 252, 3) := by decide +kernel
theorem dX11_start_29 : decode cX11_start 29 = .ok (.return_, 1) := by decide +kernel
theorem dX11_readForm_0 : decode cX11_readForm 0 = .ok (.aload_n 0, 1) := by decide +kernel
theorem dX11_readForm_1 : decode cX11_readForm 1 = .ok (.getfield 170, 3) := by decide +kernel
theorem dX11_readForm_4 : decode cX11_readForm 4 = .ok (.istore_n 1, 1) := by decide +kernel
theorem dX11_readForm_5 : decode cX11_readForm 5 = .ok (.aload_n 0, 1) := by decide +kernel
theorem dX11_readForm_6 : decode cX11_readForm 6 = .ok (.getfield 47, 3) := by decide +kernel
theorem dX11_readForm_9 : decode cX11_readForm 9 = .ok (.iload_n 1, 1) := by decide +kernel
theorem dX11_readForm_10 : decode cX11_readForm 10 = .ok (.iconst 0, 1) := by decide +kernel
theorem dX11_readForm_11 : decode cX11_readForm 11 = .ok (.iastore, 1) := by decide +kernel
theorem dX11_readForm_12 : decode cX11_readForm 12 = .ok (.iconst 1, 1) := by decide +kernel
theorem dX11_readForm_13 : decode cX11_readForm 13 = .ok (.istore_n 2, 1) := by decide +kernel
theorem dX11_readForm_14 : decode cX11_readForm 14 = .ok (.iload_n 2, 1) := by decide +kernel
theorem dX11_readForm_15 : decode cX11_readForm 15 = .ok (.ifCond .eq 169, 3) := by decide +kernel
theorem dX11_readForm_18 : decode cX11_readForm 18 = .ok (.aload_n 0, 1) := by decide +kernel
theorem dX11_readForm_19 : decode cX11_readForm 19 = .ok (.iconst 2, 1) := by decide +kernel
theorem dX11_readForm_20 : decode cX11_readForm 20 = .ok (.invokevirtual 270, 3) := by decide +kernel
theorem dX11_readForm_23 : decode cX11_readForm 23 = .ok (.aload_n 0, 1) := by decide +kernel
theorem dX11_readForm_24 : decode cX11_readForm 24 = .ok (.iload_n 1, 1) := by decide +kernel
theorem dX11_readForm_25 : decode cX11_readForm 25 = .ok (.aload_n 0, 1) := by decide +kernel
theorem dX11_readForm_26 : decode cX11_readForm 26 = .ok (.getfield 232, 3) := by decide +kernel
theorem dX11_readForm_29 : decode cX11_readForm 29 = .ok (.invokevirtual 274, 3) := by decide +kernel
theorem dX11_readForm_32 : decode cX11_readForm 32 = .ok (.iconst (-1), 1) := by decide +kernel
theorem dX11_readForm_33 : decode cX11_readForm 33 = .ok (.if_icmp .eq 13, 3) := by decide +kernel
theorem dX11_readForm_36 : decode cX11_readForm 36 = .ok (.aload_n 0, 1) := by decide +kernel
theorem dX11_readForm_37 : decode cX11_readForm 37 = .ok (.iconst 3, 1) := by decide +kernel
theorem dX11_readForm_38 : decode cX11_readForm 38 = .ok (.aload_n 0, 1) := by decide +kernel
theorem dX11_readForm_39 : decode cX11_readForm 39 = .ok (.getfield 225, 3) := by decide +kernel
theorem dX11_readForm_42 : decode cX11_readForm 42 = .ok (.invokevirtual 249, 3) := by decide +kernel
theorem dX11_readForm_45 : decode cX11_readForm 45 = .ok (.athrow, 1) := by decide +kernel
theorem dX11_readForm_46 : decode cX11_readForm 46 = .ok (.aload_n 0, 1) := by decide +kernel
theorem dX11_readForm_47 : decode cX11_readForm 47 = .ok (.getfield 47, 3) := by decide +kernel
theorem dX11_readForm_50 : decode cX11_readForm 50 = .ok (.iload_n 1, 1) := by decide +kernel
theorem dX11_readForm_51 : decode cX11_readForm 51 = .ok (.iaload, 1) := by decide +kernel
theorem dX11_readForm_52 : decode cX11_readForm 52 = .ok (.bipush 8, 2) := by decide +kernel
theorem dX11_readForm_54 : decode cX11_readForm 54 = .ok (.if_icmp .ne 13, 3) := by decide +kernel
theorem dX11_readForm_57 : decode cX11_readForm 57 = .ok (.aload_n 0, 1) := by decide +kernel
theorem dX11_readForm_58 : decode cX11_readForm 58 = .ok (.iconst 5, 1) := by decide +kernel
theorem dX11_readForm_59 : decode cX11_readForm 59 = .ok (.aload_n 0, 1) := by decide +kernel
theorem dX11_readForm_60 : decode cX11_readForm 60 = .ok (.getfield 225, 3) := by decide +kernel
theorem dX11_readForm_63 : decode cX11_readForm 63 = .ok (.invokevirtual 249, 3) := by decide +kernel
theorem dX11_readForm_66 : decode cX11_readForm 66 = .ok (.athrow, 1) := by decide +kernel
theorem dX11_readForm_67 : decode cX11_readForm 67 = .ok (.bipush 8, 2) := by decide +kernel
theorem dX11_readForm_69 : decode cX11_readForm 69 = .ok (.iload_n 1, 1) := by decide +kernel
theorem dX11_readForm_70 : decode cX11_readForm 70 = .ok (.imul, 1) := by decide +kernel
theorem dX11_readForm_71 : decode cX11_readForm 71 = .ok (.aload_n 0, 1) := by decide +kernel
theorem dX11_readForm_72 : decode cX11_readForm 72 = .ok (.getfield 47, 3) := by decide +kernel
theorem dX11_readForm_75 : decode cX11_readForm 75 = .ok (.iload_n 1, 1) := by decide +kernel
theorem dX11_readForm_76 : decode cX11_readForm 76 = .ok (.iaload, 1) := by decide +kernel
theorem dX11_readForm_77 : decode cX11_readForm 77 = .ok (.iadd, 1) := by decide +kernel
theorem dX11_readForm_78 : decode cX11_readForm 78 = .ok (.istore_n 3, 1) := by decide +kernel
theorem dX11_readForm_79 : decode cX11_readForm 79 = .ok (.aload_n 0, 1) := by decide +kernel
theorem dX11_readForm_80 : decode cX11_readForm 80 = .ok (.getfield 62, 3) := by decide +kernel
theorem dX11_readForm_83 : decode cX11_readForm 83 = .ok (.iload_n 3, 1) := by decide +kernel
theorem dX11_readForm_84 : decode cX11_readForm 84 = .ok (.aload_n 0, 1) := by decide +kernel
theorem dX11_readForm_85 : decode cX11_readForm 85 = .ok (.getfield 232, 3) := by decide +kernel
theorem dX11_readForm_88 : decode cX11_readForm 88 = .ok (.lastore, 1) := by decide +kernel
theorem dX11_readForm_89 : decode cX11_readForm 89 = .ok (.aload_n 0, 1) := by decide +kernel
theorem dX11_readForm_90 : decode cX11_readForm 90 = .ok (.getfield 53, 3) := by decide +kernel
theorem dX11_readForm_93 : decode cX11_readForm 93 = .ok (.iload_n 3, 1) := by decide +kernel
theorem dX11_readForm_94 : decode cX11_readForm 94 = .ok (.iconst 0, 1) := by decide +kernel
theorem dX11_readForm_95 : decode cX11_readForm 95 = .ok (.iastore, 1) := by decide +kernel
theorem dX11_readForm_96 : decode cX11_readForm 96 = .ok (.aload_n 0, 1) := by decide +kernel
theorem dX11_readForm_97 : decode cX11_readForm 97 = .ok (.getfield 56, 3) := by decide +kernel
theorem dX11_readForm_100 : decode cX11_readForm 100 = .ok (.iload_n 3, 1) := by decide +kernel
theorem dX11_readForm_101 : decode cX11_readForm 101 = .ok (.iconst 0, 1) := by decide +kernel
theorem dX11_readForm_102 : decode cX11_readForm 102 = .ok (.iastore, 1) := by decide +kernel
theorem dX11_readForm_103 : decode cX11_readForm 103 = .ok (.aload_n 0, 1) := by decide +kernel
theorem dX11_readForm_104 : decode cX11_readForm 104 = .ok (.getfield 59, 3) := by decide +kernel
theorem dX11_readForm_107 : decode cX11_readForm 107 = .ok (.iload_n 3, 1) := by decide +kernel
theorem dX11_readForm_108 : decode cX11_readForm 108 = .ok (.iconst 0, 1) := by decide +kernel
theorem dX11_readForm_109 : decode cX11_readForm 109 = .ok (.bastore, 1) := by decide +kernel
theorem dX11_readForm_110 : decode cX11_readForm 110 = .ok (.aload_n 0, 1) := by decide +kernel
theorem dX11_readForm_111 : decode cX11_readForm 111 = .ok (.invokevirtual 252, 3) := by decide +kernel
theorem dX11_readForm_114 : decode cX11_readForm 114 = .ok (.aload_n 0, 1) := by decide +kernel
theorem dX11_readForm_115 : decode cX11_readForm 115 = .ok (.bipush 58, 2) := by decide +kernel
theorem dX11_readForm_117 : decode cX11_readForm 117 = .ok (.invokevirtual 278, 3) := by decide +kernel
theorem dX11_readForm_120 : decode cX11_readForm 120 = .ok (.aload_n 0, 1) := by decide +kernel
theorem dX11_readForm_121 : decode cX11_readForm 121 = .ok (.iload_n 1, 1) := by decide +kernel
theorem dX11_readForm_122 : decode cX11_readForm 122 = .ok (.iload_n 3, 1) := by decide +kernel
theorem dX11_readForm_123 : decode cX11_readForm 123 = .ok (.invokevirtual 281, 3) := by decide +kernel
theorem dX11_readForm_126 : decode cX11_readForm 126 = .ok (.aload_n 0, 1) := by decide +kernel
theorem dX11_readForm_127 : decode cX11_readForm 127 = .ok (.getfield 50, 3) := by decide +kernel
theorem dX11_readForm_130 : decode cX11_readForm 130 = .ok (.iload_n 3, 1) := by decide +kernel
theorem dX11_readForm_131 : decode cX11_readForm 131 = .ok (.iaload, 1) := by decide +kernel
theorem dX11_readForm_132 : decode cX11_readForm 132 = .ok (.iconst 4, 1) := by decide +kernel
theorem dX11_readForm_133 : decode cX11_readForm 133 = .ok (.if_icmp .ge 23, 3) := by decide +kernel
theorem dX11_readForm_136 : decode cX11_readForm 136 = .ok (.aload_n 0, 1) := by decide +kernel
theorem dX11_readForm_137 : decode cX11_readForm 137 = .ok (.bipush 63, 2) := by decide +kernel
theorem dX11_readForm_139 : decode cX11_readForm 139 = .ok (.invokevirtual 246, 3) := by decide +kernel
theorem dX11_readForm_142 : decode cX11_readForm 142 = .ok (.ifCond .eq 14, 3) := by decide +kernel
theorem dX11_readForm_145 : decode cX11_readForm 145 = .ok (.aload_n 0, 1) := by decide +kernel
theorem dX11_readForm_146 : decode cX11_readForm 146 = .ok (.getfield 59, 3) := by decide +kernel
theorem dX11_readForm_149 : decode cX11_readForm 149 = .ok (.iload_n 3, 1) := by decide +kernel
theorem dX11_readForm_150 : decode cX11_readForm 150 = .ok (.iconst 1, 1) := by decide +kernel
theorem dX11_readForm_151 : decode cX11_readForm 151 = .ok (.bastore, 1) := by decide +kernel
theorem dX11_readForm_152 : decode cX11_readForm 152 = .ok (.aload_n 0, 1) := by decide +kernel
theorem dX11_readForm_153 : decode cX11_readForm 153 = .ok (.invokevirtual 252, 3) := by decide +kernel
theorem dX11_readForm_156 : decode cX11_readForm 156 = .ok (.aload_n 0, 1) := by decide +kernel
theorem dX11_readForm_157 : decode cX11_readForm 157 = .ok (.getfield 47, 3) := by decide +kernel
theorem dX11_readForm_160 : decode cX11_readForm 160 = .ok (.iload_n 1, 1) := by decide +kernel
theorem dX11_readForm_161 : decode cX11_readForm 161 = .ok (.dup2, 1) := by decide +kernel
theorem dX11_readForm_162 : decode cX11_readForm 162 = .ok (.iaload, 1) := by decide +kernel
theorem dX11_readForm_163 : decode cX11_readForm 163 = .ok (.iconst 1, 1) := by decide +kernel
theorem dX11_readForm_164 : decode cX11_readForm 164 = .ok (.iadd, 1) := by decide +kernel
theorem dX11_readForm_165 : decode cX11_readForm 165 = .ok (.iastore, 1) := by decide +kernel
theorem dX11_readForm_166 : decode cX11_readForm 166 = .ok (.aload_n 0, 1) := by decide +kernel
theorem dX11_readForm_167 : decode cX11_readForm 167 = .ok (.bipush 59, 2) := by decide +kernel
theorem dX11_readForm_169 : decode cX11_readForm 169 = .ok (.invokevirtual 246, 3) := by decide +kernel
theorem dX11_readForm_172 : decode cX11_readForm 172 = .ok (.istore_n 2, 1) := by decide +kernel
theorem dX11_readForm_173 : decode cX11_readForm 173 = .ok (.iload_n 2, 1) := by decide +kernel
theorem dX11_readForm_174 : decode cX11_readForm 174 = .ok (.ifCond .eq 7, 3) := by decide +kernel
theorem dX11_readForm_177 : decode cX11_readForm 177 = .ok (.aload_n 0, 1) := by decide +kernel
theorem dX11_readForm_178 : decode cX11_readForm 178 = .ok (.invokevirtual 252, 3) := by decide +kernel
theorem dX11_readForm_181 : decode cX11_readForm 181 = .ok (.goto (-167), 3) := by decide +kernel
theorem dX11_readForm_184 : decode cX11_readForm 184 = .ok (.aload_n 0, 1) := by decide +kernel
theorem dX11_readForm_185 : decode cX11_readForm 185 = .ok (.iconst 1, 1) := by decide +kernel
theorem dX11_readForm_186 : decode cX11_readForm 186 = .ok (.invokevirtual 270, 3) := by decide +kernel
theorem dX11_readForm_189 : decode cX11_readForm 189 = .ok (.return_, 1) := by decide +kernel
theorem dX11_readKind_0 : decode cX11_readKind 0 = .ok (.aload_n 0, 1) := by decide +kernel
theorem dX11_readKind_1 : decode cX11_readKind 1 = .ok (.iconst 2, 1) := by decide +kernel
theorem dX11_readKind_2 : decode cX11_readKind 2 = .ok (.invokevirtual 270, 3) := by decide +kernel
theorem dX11_readKind_5 : decode cX11_readKind 5 = .ok (.aload_n 0, 1) := by decide +kernel
theorem dX11_readKind_6 : decode cX11_readKind 6 = .ok (.getfield 232, 3) := by decide +kernel
theorem dX11_readKind_9 : decode cX11_readKind 9 = .ok (.lstore_n 3, 1) := by decide +kernel
theorem dX11_readKind_10 : decode cX11_readKind 10 = .ok (.lload_n 3, 1) := by decide +kernel
theorem dX11_readKind_11 : decode cX11_readKind 11 = .ok (.ldc_w 285, 3) := by decide +kernel
theorem dX11_readKind_14 : decode cX11_readKind 14 = .ok (.invokestatic 287, 3) := by decide +kernel
theorem dX11_readKind_17 : decode cX11_readKind 17 = .ok (.lcmp, 1) := by decide +kernel
theorem dX11_readKind_18 : decode cX11_readKind 18 = .ok (.ifCond .eq 47, 3) := by decide +kernel
theorem dX11_readKind_21 : decode cX11_readKind 21 = .ok (.lload_n 3, 1) := by decide +kernel
theorem dX11_readKind_22 : decode cX11_readKind 22 = .ok (.ldc_w 291, 3) := by decide +kernel
theorem dX11_readKind_25 : decode cX11_readKind 25 = .ok (.invokestatic 287, 3) := by decide +kernel
theorem dX11_readKind_28 : decode cX11_readKind 28 = .ok (.lcmp, 1) := by decide +kernel
theorem dX11_readKind_29 : decode cX11_readKind 29 = .ok (.ifCond .eq 36, 3) := by decide +kernel
theorem dX11_readKind_32 : decode cX11_readKind 32 = .ok (.lload_n 3, 1) := by decide +kernel
theorem dX11_readKind_33 : decode cX11_readKind 33 = .ok (.ldc_w 293, 3) := by decide +kernel
theorem dX11_readKind_36 : decode cX11_readKind 36 = .ok (.invokestatic 287, 3) := by decide +kernel
theorem dX11_readKind_39 : decode cX11_readKind 39 = .ok (.lcmp, 1) := by decide +kernel
theorem dX11_readKind_40 : decode cX11_readKind 40 = .ok (.ifCond .eq 25, 3) := by decide +kernel
theorem dX11_readKind_43 : decode cX11_readKind 43 = .ok (.lload_n 3, 1) := by decide +kernel
theorem dX11_readKind_44 : decode cX11_readKind 44 = .ok (.ldc_w 294, 3) := by decide +kernel
theorem dX11_readKind_47 : decode cX11_readKind 47 = .ok (.invokestatic 287, 3) := by decide +kernel
theorem dX11_readKind_50 : decode cX11_readKind 50 = .ok (.lcmp, 1) := by decide +kernel
theorem dX11_readKind_51 : decode cX11_readKind 51 = .ok (.ifCond .eq 14, 3) := by decide +kernel
theorem dX11_readKind_54 : decode cX11_readKind 54 = .ok (.lload_n 3, 1) := by decide +kernel
theorem dX11_readKind_55 : decode cX11_readKind 55 = .ok (.ldc_w 296, 3) := by decide +kernel
theorem dX11_readKind_58 : decode cX11_readKind 58 = .ok (.invokestatic 287, 3) := by decide +kernel
theorem dX11_readKind_61 : decode cX11_readKind 61 = .ok (.lcmp, 1) := by decide +kernel
theorem dX11_readKind_62 : decode cX11_readKind 62 = .ok (.ifCond .ne 7, 3) := by decide +kernel
theorem dX11_readKind_65 : decode cX11_readKind 65 = .ok (.iconst 1, 1) := by decide +kernel
theorem dX11_readKind_66 : decode cX11_readKind 66 = .ok (.goto 4, 3) := by decide +kernel
theorem dX11_readKind_69 : decode cX11_readKind 69 = .ok (.iconst 0, 1) := by decide +kernel
theorem dX11_readKind_70 : decode cX11_readKind 70 = .ok (.istore 5, 2) := by decide +kernel
theorem dX11_readKind_72 : decode cX11_readKind 72 = .ok (.iload 5, 2) := by decide +kernel
theorem dX11_readKind_74 : decode cX11_readKind 74 = .ok (.ifCond .ne 13, 3) := by decide +kernel
theorem dX11_readKind_77 : decode cX11_readKind 77 = .ok (.aload_n 0, 1) := by decide +kernel
theorem dX11_readKind_78 : decode cX11_readKind 78 = .ok (.iconst 1, 1) := by decide +kernel
theorem dX11_readKind_79 : decode cX11_readKind 79 = .ok (.aload_n 0, 1) := by decide +kernel
theorem dX11_readKind_80 : decode cX11_readKind 80 = .ok (.getfield 225, 3) := by decide +kernel
theorem dX11_readKind_83 : decode cX11_readKind 83 = .ok (.invokevirtual 249, 3) := by decide +kernel
theorem dX11_readKind_86 : decode cX11_readKind 86 = .ok (.athrow, 1) := by decide +kernel
theorem dX11_readKind_87 : decode cX11_readKind 87 = .ok (.aload_n 0, 1) := by decide +kernel
theorem dX11_readKind_88 : decode cX11_readKind 88 = .ok (.invokevirtual 252, 3) := by decide +kernel
theorem dX11_readKind_91 : decode cX11_readKind 91 = .ok (.lload_n 3, 1) := by decide +kernel
theorem dX11_readKind_92 : decode cX11_readKind 92 = .ok (.ldc_w 285, 3) := by decide +kernel
theorem dX11_readKind_95 : decode cX11_readKind 95 = .ok (.invokestatic 287, 3) := by decide +kernel
theorem dX11_readKind_98 : decode cX11_readKind 98 = .ok (.lcmp, 1) := by decide +kernel
theorem dX11_readKind_99 : decode cX11_readKind 99 = .ok (.ifCond .ne 87, 3) := by decide +kernel
theorem dX11_readKind_102 : decode cX11_readKind 102 = .ok (.aload_n 0, 1) := by decide +kernel
theorem dX11_readKind_103 : decode cX11_readKind 103 = .ok (.getfield 50, 3) := by decide +kernel
theorem dX11_readKind_106 : decode cX11_readKind 106 = .ok (.iload_n 2, 1) := by decide +kernel
theorem dX11_readKind_107 : decode cX11_readKind 107 = .ok (.iconst 0, 1) := by decide +kernel
theorem dX11_readKind_108 : decode cX11_readKind 108 = .ok (.iastore, 1) := by decide +kernel
theorem dX11_readKind_109 : decode cX11_readKind 109 = .ok (.aload_n 0, 1) := by decide +kernel
theorem dX11_readKind_110 : decode cX11_readKind 110 = .ok (.iconst 3, 1) := by decide +kernel
theorem dX11_readKind_111 : decode cX11_readKind 111 = .ok (.invokevirtual 270, 3) := by decide +kernel
theorem dX11_readKind_114 : decode cX11_readKind 114 = .ok (.aload_n 0, 1) := by decide +kernel
theorem dX11_readKind_115 : decode cX11_readKind 115 = .ok (.getfield 53, 3) := by decide +kernel
theorem dX11_readKind_118 : decode cX11_readKind 118 = .ok (.iload_n 2, 1) := by decide +kernel
theorem dX11_readKind_119 : decode cX11_readKind 119 = .ok (.aload_n 0, 1) := by decide +kernel
theorem dX11_readKind_120 : decode cX11_readKind 120 = .ok (.getfield 232, 3) := by decide +kernel
theorem dX11_readKind_123 : decode cX11_readKind 123 = .ok (.l2i, 1) := by decide +kernel
theorem dX11_readKind_124 : decode cX11_readKind 124 = .ok (.iastore, 1) := by decide +kernel
theorem dX11_readKind_125 : decode cX11_readKind 125 = .ok (.aload_n 0, 1) := by decide +kernel
theorem dX11_readKind_126 : decode cX11_readKind 126 = .ok (.invokevirtual 252, 3) := by decide +kernel
theorem dX11_readKind_129 : decode cX11_readKind 129 = .ok (.aload_n 0, 1) := by decide +kernel
theorem dX11_readKind_130 : decode cX11_readKind 130 = .ok (.iconst 4, 1) := by decide +kernel
theorem dX11_readKind_131 : decode cX11_readKind 131 = .ok (.invokevirtual 270, 3) := by decide +kernel
theorem dX11_readKind_134 : decode cX11_readKind 134 = .ok (.aload_n 0, 1) := by decide +kernel
theorem dX11_readKind_135 : decode cX11_readKind 135 = .ok (.invokevirtual 252, 3) := by decide +kernel
theorem dX11_readKind_138 : decode cX11_readKind 138 = .ok (.aload_n 0, 1) := by decide +kernel
theorem dX11_readKind_139 : decode cX11_readKind 139 = .ok (.iconst 3, 1) := by decide +kernel
theorem dX11_readKind_140 : decode cX11_readKind 140 = .ok (.invokevirtual 270, 3) := by decide +kernel
theorem dX11_readKind_143 : decode cX11_readKind 143 = .ok (.aload_n 0, 1) := by decide +kernel
theorem dX11_readKind_144 : decode cX11_readKind 144 = .ok (.getfield 232, 3) := by decide +kernel
theorem dX11_readKind_147 : decode cX11_readKind 147 = .ok (.aload_n 0, 1) := by decide +kernel
theorem dX11_readKind_148 : decode cX11_readKind 148 = .ok (.getfield 53, 3) := by decide +kernel
theorem dX11_readKind_151 : decode cX11_readKind 151 = .ok (.iload_n 2, 1) := by decide +kernel
theorem dX11_readKind_152 : decode cX11_readKind 152 = .ok (.iaload, 1) := by decide +kernel
theorem dX11_readKind_153 : decode cX11_readKind 153 = .ok (.i2l, 1) := by decide +kernel
theorem dX11_readKind_154 : decode cX11_readKind 154 = .ok (.lcmp, 1) := by decide +kernel
theorem dX11_readKind_155 : decode cX11_readKind 155 = .ok (.ifCond .ge 13, 3) := by decide +kernel
theorem dX11_readKind_158 : decode cX11_readKind 158 = .ok (.aload_n 0, 1) := by decide +kernel
theorem dX11_readKind_159 : decode cX11_readKind 159 = .ok (.iconst 4, 1) := by decide +kernel
theorem dX11_readKind_160 : decode cX11_readKind 160 = .ok (.aload_n 0, 1) := by decide +kernel
theorem dX11_readKind_161 : decode cX11_readKind 161 = .ok (.getfield 225, 3) := by decide +kernel
theorem dX11_readKind_164 : decode cX11_readKind 164 = .ok (.invokevirtual 249, 3) := by decide +kernel
theorem dX11_readKind_167 : decode cX11_readKind 167 = .ok (.athrow, 1) := by decide +kernel
theorem dX11_readKind_168 : decode cX11_readKind 168 = .ok (.aload_n 0, 1) := by decide +kernel
theorem dX11_readKind_169 : decode cX11_readKind 169 = .ok (.getfield 56, 3) := by decide +kernel
theorem dX11_readKind_172 : decode cX11_readKind 172 = .ok (.iload_n 2, 1) := by decide +kernel
theorem dX11_readKind_173 : decode cX11_readKind 173 = .ok (.aload_n 0, 1) := by decide +kernel
theorem dX11_readKind_174 : decode cX11_readKind 174 = .ok (.getfield 232, 3) := by decide +kernel
theorem dX11_readKind_177 : decode cX11_readKind 177 = .ok (.l2i, 1) := by decide +kernel
theorem dX11_readKind_178 : decode cX11_readKind 178 = .ok (.iastore, 1) := by decide +kernel
theorem dX11_readKind_179 : decode cX11_readKind 179 = .ok (.aload_n 0, 1) := by decide +kernel
theorem dX11_readKind_180 : decode cX11_readKind 180 = .ok (.invokevirtual 252, 3) := by decide +kernel
theorem dX11_readKind_183 : decode cX11_readKind 183 = .ok (.goto 71, 3) := by decide +kernel
theorem dX11_readKind_186 : decode cX11_readKind 186 = .ok (.lload_n 3, 1) := by decide +kernel
theorem dX11_readKind_187 : decode cX11_readKind 187 = .ok (.ldc_w 294, 3) := by decide +kernel
theorem dX11_readKind_190 : decode cX11_readKind 190 = .ok (.invokestatic 287, 3) := by decide +kernel
theorem dX11_readKind_193 : decode cX11_readKind 193 = .ok (.lcmp, 1) := by decide +kernel
theorem dX11_readKind_194 : decode cX11_readKind 194 = .ok (.ifCond .ne 18, 3) := by decide +kernel
theorem dX11_readKind_197 : decode cX11_readKind 197 = .ok (.aload_n 0, 1) := by decide +kernel
theorem dX11_readKind_198 : decode cX11_readKind 198 = .ok (.getfield 50, 3) := by decide +kernel
theorem dX11_readKind_201 : decode cX11_readKind 201 = .ok (.iload_n 2, 1) := by decide +kernel
theorem dX11_readKind_202 : decode cX11_readKind 202 = .ok (.iconst 3, 1) := by decide +kernel
theorem dX11_readKind_203 : decode cX11_readKind 203 = .ok (.iastore, 1) := by decide +kernel
theorem dX11_readKind_204 : decode cX11_readKind 204 = .ok (.aload_n 0, 1) := by decide +kernel
theorem dX11_readKind_205 : decode cX11_readKind 205 = .ok (.iload_n 2, 1) := by decide +kernel
theorem dX11_readKind_206 : decode cX11_readKind 206 = .ok (.invokevirtual 298, 3) := by decide +kernel
theorem dX11_readKind_209 : decode cX11_readKind 209 = .ok (.goto 45, 3) := by decide +kernel
theorem dX11_readKind_212 : decode cX11_readKind 212 = .ok (.lload_n 3, 1) := by decide +kernel
theorem dX11_readKind_213 : decode cX11_readKind 213 = .ok (.ldc_w 296, 3) := by decide +kernel
theorem dX11_readKind_216 : decode cX11_readKind 216 = .ok (.invokestatic 287, 3) := by decide +kernel
theorem dX11_readKind_219 : decode cX11_readKind 219 = .ok (.lcmp, 1) := by decide +kernel
theorem dX11_readKind_220 : decode cX11_readKind 220 = .ok (.ifCond .ne 12, 3) := by decide +kernel
theorem dX11_readKind_223 : decode cX11_readKind 223 = .ok (.aload_n 0, 1) := by decide +kernel
theorem dX11_readKind_224 : decode cX11_readKind 224 = .ok (.iload_n 1, 1) := by decide +kernel
theorem dX11_readKind_225 : decode cX11_readKind 225 = .ok (.iload_n 2, 1) := by decide +kernel
theorem dX11_readKind_226 : decode cX11_readKind 226 = .ok (.invokevirtual 301, 3) := by decide +kernel
theorem dX11_readKind_229 : decode cX11_readKind 229 = .ok (.goto 25, 3) := by decide +kernel
theorem dX11_readKind_232 : decode cX11_readKind 232 = .ok (.aload_n 0, 1) := by decide +kernel
theorem dX11_readKind_233 : decode cX11_readKind 233 = .ok (.getfield 50, 3) := by decide +kernel
theorem dX11_readKind_236 : decode cX11_readKind 236 = .ok (.iload_n 2, 1) := by decide +kernel
theorem dX11_readKind_237 : decode cX11_readKind 237 = .ok (.lload_n 3, 1) := by decide +kernel
theorem dX11_readKind_238 : decode cX11_readKind 238 = .ok (.ldc_w 291, 3) := by decide +kernel
theorem dX11_readKind_241 : decode cX11_readKind 241 = .ok (.invokestatic 287, 3) := by decide +kernel
theorem dX11_readKind_244 : decode cX11_readKind 244 = .ok (.lcmp, 1) := by decide +kernel
theorem dX11_readKind_245 : decode cX11_readKind 245 = .ok (.ifCond .ne 7, 3) := by decide +kernel
theorem dX11_readKind_248 : decode cX11_readKind 248 = .ok (.iconst 1, 1) := by decide +kernel
theorem dX11_readKind_249 : decode cX11_readKind 249 = .ok (.goto 4, 3) := by decide +kernel
theorem dX11_readKind_252 : decode cX11_readKind 252 = .ok (.iconst 2, 1) := by decide +kernel
theorem dX11_readKind_253 : decode cX11_readKind 253 = .ok (.iastore, 1) := by decide +kernel
theorem dX11_readKind_254 : decode cX11_readKind 254 = .ok (.return_, 1) := by decide +kernel
theorem dX11_readChoices_0 : decode cX11_readChoices 0 = .ok (.iconst 1, 1) := by decide +kernel
theorem dX11_readChoices_1 : decode cX11_readChoices 1 = .ok (.istore_n 2, 1) := by decide +kernel
theorem dX11_readChoices_2 : decode cX11_readChoices 2 = .ok (.iload_n 2, 1) := by decide +kernel
theorem dX11_readChoices_3 : decode cX11_readChoices 3 = .ok (.ifCond .eq 125, 3) := by decide +kernel
theorem dX11_readChoices_6 : decode cX11_readChoices 6 = .ok (.aload_n 0, 1) := by decide +kernel
theorem dX11_readChoices_7 : decode cX11_readChoices 7 = .ok (.iconst 2, 1) := by decide +kernel
theorem dX11_readChoices_8 : decode cX11_readChoices 8 = .ok (.invokevirtual 270, 3) := by decide +kernel
theorem dX11_readChoices_11 : decode cX11_readChoices 11 = .ok (.iconst 0, 1) := by decide +kernel
theorem dX11_readChoices_12 : decode cX11_readChoices 12 = .ok (.istore_n 3, 1) := by decide +kernel
theorem dX11_readChoices_13 : decode cX11_readChoices 13 = .ok (.iload_n 3, 1) := by decide +kernel
theorem dX11_readChoices_14 : decode cX11_readChoices 14 = .ok (.aload_n 0, 1) := by decide +kernel
theorem dX11_readChoices_15 : decode cX11_readChoices 15 = .ok (.getfield 53, 3) := by decide +kernel
theorem dX11_readChoices_18 : decode cX11_readChoices 18 = .ok (.iload_n 1, 1) := by decide +kernel
theorem dX11_readChoices_19 : decode cX11_readChoices 19 = .ok (.iaload, 1) := by decide +kernel
theorem dX11_readChoices_20 : decode cX11_readChoices 20 = .ok (.if_icmp .ge 37, 3) := by decide +kernel
theorem dX11_readChoices_23 : decode cX11_readChoices 23 = .ok (.aload_n 0, 1) := by decide +kernel
theorem dX11_readChoices_24 : decode cX11_readChoices 24 = .ok (.getfield 65, 3) := by decide +kernel
theorem dX11_readChoices_27 : decode cX11_readChoices 27 = .ok (.iconst 4, 1) := by decide +kernel
theorem dX11_readChoices_28 : decode cX11_readChoices 28 = .ok (.iload_n 1, 1) := by decide +kernel
theorem dX11_readChoices_29 : decode cX11_readChoices 29 = .ok (.imul, 1) := by decide +kernel
theorem dX11_readChoices_30 : decode cX11_readChoices 30 = .ok (.iload_n 3, 1) := by decide +kernel
theorem dX11_readChoices_31 : decode cX11_readChoices 31 = .ok (.iadd, 1) := by decide +kernel
theorem dX11_readChoices_32 : decode cX11_readChoices 32 = .ok (.laload, 1) := by decide +kernel
theorem dX11_readChoices_33 : decode cX11_readChoices 33 = .ok (.aload_n 0, 1) := by decide +kernel
theorem dX11_readChoices_34 : decode cX11_readChoices 34 = .ok (.getfield 232, 3) := by decide +kernel
theorem dX11_readChoices_37 : decode cX11_readChoices 37 = .ok (.lcmp, 1) := by decide +kernel
theorem dX11_readChoices_38 : decode cX11_readChoices 38 = .ok (.ifCond .ne 13, 3) := by decide +kernel
theorem dX11_readChoices_41 : decode cX11_readChoices 41 = .ok (.aload_n 0, 1) := by decide +kernel
theorem dX11_readChoices_42 : decode cX11_readChoices 42 = .ok (.iconst 3, 1) := by decide +kernel
theorem dX11_readChoices_43 : decode cX11_readChoices 43 = .ok (.aload_n 0, 1) := by decide +kernel
theorem dX11_readChoices_44 : decode cX11_readChoices 44 = .ok (.getfield 225, 3) := by decide +kernel
theorem dX11_readChoices_47 : decode cX11_readChoices 47 = .ok (.invokevirtual 249, 3) := by decide +kernel
theorem dX11_readChoices_50 : decode cX11_readChoices 50 = .ok (.athrow, 1) := by decide +kernel
theorem dX11_readChoices_51 : decode cX11_readChoices 51 = .ok (.iinc 3 1, 3) := by decide +kernel
theorem dX11_readChoices_54 : decode cX11_readChoices 54 = .ok (.goto (-41), 3) := by decide +kernel
theorem dX11_readChoices_57 : decode cX11_readChoices 57 = .ok (.aload_n 0, 1) := by decide +kernel
theorem dX11_readChoices_58 : decode cX11_readChoices 58 = .ok (.getfield 53, 3) := by decide +kernel
theorem dX11_readChoices_61 : decode cX11_readChoices 61 = .ok (.iload_n 1, 1) := by decide +kernel
theorem dX11_readChoices_62 : decode cX11_readChoices 62 = .ok (.iaload, 1) := by decide +kernel
theorem dX11_readChoices_63 : decode cX11_readChoices 63 = .ok (.iconst 4, 1) := by decide +kernel
theorem dX11_readChoices_64 : decode cX11_readChoices 64 = .ok (.if_icmp .ne 13, 3) := by decide +kernel
theorem dX11_readChoices_67 : decode cX11_readChoices 67 = .ok (.aload_n 0, 1) := by decide +kernel
theorem dX11_readChoices_68 : decode cX11_readChoices 68 = .ok (.iconst 5, 1) := by decide +kernel
theorem dX11_readChoices_69 : decode cX11_readChoices 69 = .ok (.aload_n 0, 1) := by decide +kernel
theorem dX11_readChoices_70 : decode cX11_readChoices 70 = .ok (.getfield 225, 3) := by decide +kernel
theorem dX11_readChoices_73 : decode cX11_readChoices 73 = .ok (.invokevirtual 249, 3) := by decide +kernel
theorem dX11_readChoices_76 : decode cX11_readChoices 76 = .ok (.athrow, 1) := by decide +kernel
theorem dX11_readChoices_77 : decode cX11_readChoices 77 = .ok (.aload_n 0, 1) := by decide +kernel
theorem dX11_readChoices_78 : decode cX11_readChoices 78 = .ok (.getfield 65, 3) := by decide +kernel
theorem dX11_readChoices_81 : decode cX11_readChoices 81 = .ok (.iconst 4, 1) := by decide +kernel
theorem dX11_readChoices_82 : decode cX11_readChoices 82 = .ok (.iload_n 1, 1) := by decide +kernel
theorem dX11_readChoices_83 : decode cX11_readChoices 83 = .ok (.imul, 1) := by decide +kernel
theorem dX11_readChoices_84 : decode cX11_readChoices 84 = .ok (.aload_n 0, 1) := by decide +kernel
theorem dX11_readChoices_85 : decode cX11_readChoices 85 = .ok (.getfield 53, 3) := by decide +kernel
theorem dX11_readChoices_88 : decode cX11_readChoices 88 = .ok (.iload_n 1, 1) := by decide +kernel
theorem dX11_readChoices_89 : decode cX11_readChoices 89 = .ok (.iaload, 1) := by decide +kernel
theorem dX11_readChoices_90 : decode cX11_readChoices 90 = .ok (.iadd, 1) := by decide +kernel
theorem dX11_readChoices_91 : decode cX11_readChoices 91 = .ok (.aload_n 0, 1) := by decide +kernel
theorem dX11_readChoices_92 : decode cX11_readChoices 92 = .ok (.getfield 232, 3) := by decide +kernel
theorem dX11_readChoices_95 : decode cX11_readChoices 95 = .ok (.lastore, 1) := by decide +kernel
theorem dX11_readChoices_96 : decode cX11_readChoices 96 = .ok (.aload_n 0, 1) := by decide +kernel
theorem dX11_readChoices_97 : decode cX11_readChoices 97 = .ok (.getfield 53, 3) := by decide +kernel
theorem dX11_readChoices_100 : decode cX11_readChoices 100 = .ok (.iload_n 1, 1) := by decide +kernel
theorem dX11_readChoices_101 : decode cX11_readChoices 101 = .ok (.dup2, 1) := by decide +kernel
theorem dX11_readChoices_102 : decode cX11_readChoices 102 = .ok (.iaload, 1) := by decide +kernel
theorem dX11_readChoices_103 : decode cX11_readChoices 103 = .ok (.iconst 1, 1) := by decide +kernel
theorem dX11_readChoices_104 : decode cX11_readChoices 104 = .ok (.iadd, 1) := by decide +kernel
theorem dX11_readChoices_105 : decode cX11_readChoices 105 = .ok (.iastore, 1) := by decide +kernel
theorem dX11_readChoices_106 : decode cX11_readChoices 106 = .ok (.aload_n 0, 1) := by decide +kernel
theorem dX11_readChoices_107 : decode cX11_readChoices 107 = .ok (.invokevirtual 252, 3) := by decide +kernel
theorem dX11_readChoices_110 : decode cX11_readChoices 110 = .ok (.aload_n 0, 1) := by decide +kernel
theorem dX11_readChoices_111 : decode cX11_readChoices 111 = .ok (.bipush 47, 2) := by decide +kernel
theorem dX11_readChoices_113 : decode cX11_readChoices 113 = .ok (.invokevirtual 246, 3) := by decide +kernel
theorem dX11_readChoices_116 : decode cX11_readChoices 116 = .ok (.istore_n 2, 1) := by decide +kernel
theorem dX11_readChoices_117 : decode cX11_readChoices 117 = .ok (.iload_n 2, 1) := by decide +kernel
theorem dX11_readChoices_118 : decode cX11_readChoices 118 = .ok (.ifCond .eq (-116), 3) := by decide +kernel
theorem dX11_readChoices_121 : decode cX11_readChoices 121 = .ok (.aload_n 0, 1) := by decide +kernel
theorem dX11_readChoices_122 : decode cX11_readChoices 122 = .ok (.invokevirtual 252, 3) := by decide +kernel
theorem dX11_readChoices_125 : decode cX11_readChoices 125 = .ok (.goto (-123), 3) := by decide +kernel
theorem dX11_readChoices_128 : decode cX11_readChoices 128 = .ok (.return_, 1) := by decide +kernel
theorem dX11_readSpan_0 : decode cX11_readSpan 0 = .ok (.aload_n 0, 1) := by decide +kernel
theorem dX11_readSpan_1 : decode cX11_readSpan 1 = .ok (.iconst 3, 1) := by decide +kernel
theorem dX11_readSpan_2 : decode cX11_readSpan 2 = .ok (.invokevirtual 270, 3) := by decide +kernel
theorem dX11_readSpan_5 : decode cX11_readSpan 5 = .ok (.aload_n 0, 1) := by decide +kernel
theorem dX11_readSpan_6 : decode cX11_readSpan 6 = .ok (.getfield 53, 3) := by decide +kernel
theorem dX11_readSpan_9 : decode cX11_readSpan 9 = .ok (.iload_n 2, 1) := by decide +kernel
theorem dX11_readSpan_10 : decode cX11_readSpan 10 = .ok (.aload_n 0, 1) := by decide +kernel
theorem dX11_readSpan_11 : decode cX11_readSpan 11 = .ok (.getfield 232, 3) := by decide +kernel
theorem dX11_readSpan_14 : decode cX11_readSpan 14 = .ok (.l2i, 1) := by decide +kernel
theorem dX11_readSpan_15 : decode cX11_readSpan 15 = .ok (.iastore, 1) := by decide +kernel
theorem dX11_readSpan_16 : decode cX11_readSpan 16 = .ok (.aload_n 0, 1) := by decide +kernel
theorem dX11_readSpan_17 : decode cX11_readSpan 17 = .ok (.invokevirtual 252, 3) := by decide +kernel
theorem dX11_readSpan_20 : decode cX11_readSpan 20 = .ok (.aload_n 0, 1) := by decide +kernel
theorem dX11_readSpan_21 : decode cX11_readSpan 21 = .ok (.iconst 2, 1) := by decide +kernel
theorem dX11_readSpan_22 : decode cX11_readSpan 22 = .ok (.invokevirtual 270, 3) := by decide +kernel
theorem dX11_readSpan_25 : decode cX11_readSpan 25 = .ok (.aload_n 0, 1) := by decide +kernel
theorem dX11_readSpan_26 : decode cX11_readSpan 26 = .ok (.getfield 232, 3) := by decide +kernel
theorem dX11_readSpan_29 : decode cX11_readSpan 29 = .ok (.ldc_w 304, 3) := by decide +kernel
theorem dX11_readSpan_32 : decode cX11_readSpan 32 = .ok (.invokestatic 287, 3) := by decide +kernel
theorem dX11_readSpan_35 : decode cX11_readSpan 35 = .ok (.lcmp, 1) := by decide +kernel
theorem dX11_readSpan_36 : decode cX11_readSpan 36 = .ok (.ifCond .eq 27, 3) := by decide +kernel
theorem dX11_readSpan_39 : decode cX11_readSpan 39 = .ok (.aload_n 0, 1) := by decide +kernel
theorem dX11_readSpan_40 : decode cX11_readSpan 40 = .ok (.getfield 232, 3) := by decide +kernel
theorem dX11_readSpan_43 : decode cX11_readSpan 43 = .ok (.ldc_w 306, 3) := by decide +kernel
theorem dX11_readSpan_46 : decode cX11_readSpan 46 = .ok (.invokestatic 287, 3) := by decide +kernel
theorem dX11_readSpan_49 : decode cX11_readSpan 49 = .ok (.lcmp, 1) := by decide +kernel
theorem dX11_readSpan_50 : decode cX11_readSpan 50 = .ok (.ifCond .eq 13, 3) := by decide +kernel
theorem dX11_readSpan_53 : decode cX11_readSpan 53 = .ok (.aload_n 0, 1) := by decide +kernel
theorem dX11_readSpan_54 : decode cX11_readSpan 54 = .ok (.iconst 1, 1) := by decide +kernel
theorem dX11_readSpan_55 : decode cX11_readSpan 55 = .ok (.aload_n 0, 1) := by decide +kernel
theorem dX11_readSpan_56 : decode cX11_readSpan 56 = .ok (.getfield 225, 3) := by decide +kernel
theorem dX11_readSpan_59 : decode cX11_readSpan 59 = .ok (.invokevirtual 249, 3) := by decide +kernel
theorem dX11_readSpan_62 : decode cX11_readSpan 62 = .ok (.athrow, 1) := by decide +kernel
theorem dX11_readSpan_63 : decode cX11_readSpan 63 = .ok (.aload_n 0, 1) := by decide +kernel
theorem dX11_readSpan_64 : decode cX11_readSpan 64 = .ok (.getfield 50, 3) := by decide +kernel
theorem dX11_readSpan_67 : decode cX11_readSpan 67 = .ok (.iload_n 2, 1) := by decide +kernel
theorem dX11_readSpan_68 : decode cX11_readSpan 68 = .ok (.aload_n 0, 1) := by decide +kernel
theorem dX11_readSpan_69 : decode cX11_readSpan 69 = .ok (.getfield 232, 3) := by decide +kernel
theorem dX11_readSpan_72 : decode cX11_readSpan 72 = .ok (.ldc_w 304, 3) := by decide +kernel
theorem dX11_readSpan_75 : decode cX11_readSpan 75 = .ok (.invokestatic 287, 3) := by decide +kernel
theorem dX11_readSpan_78 : decode cX11_readSpan 78 = .ok (.lcmp, 1) := by decide +kernel
theorem dX11_readSpan_79 : decode cX11_readSpan 79 = .ok (.ifCond .ne 7, 3) := by decide +kernel
theorem dX11_readSpan_82 : decode cX11_readSpan 82 = .ok (.iconst 4, 1) := by decide +kernel
theorem dX11_readSpan_83 : decode cX11_readSpan 83 = .ok (.goto 4, 3) := by decide +kernel
theorem dX11_readSpan_86 : decode cX11_readSpan 86 = .ok (.iconst 5, 1) := by decide +kernel
theorem dX11_readSpan_87 : decode cX11_readSpan 87 = .ok (.iastore, 1) := by decide +kernel
theorem dX11_readSpan_88 : decode cX11_readSpan 88 = .ok (.aload_n 0, 1) := by decide +kernel
theorem dX11_readSpan_89 : decode cX11_readSpan 89 = .ok (.invokevirtual 252, 3) := by decide +kernel
theorem dX11_readSpan_92 : decode cX11_readSpan 92 = .ok (.aload_n 0, 1) := by decide +kernel
theorem dX11_readSpan_93 : decode cX11_readSpan 93 = .ok (.iconst 2, 1) := by decide +kernel
theorem dX11_readSpan_94 : decode cX11_readSpan 94 = .ok (.invokevirtual 270, 3) := by decide +kernel
theorem dX11_readSpan_97 : decode cX11_readSpan 97 = .ok (.aload_n 0, 1) := by decide +kernel
theorem dX11_readSpan_98 : decode cX11_readSpan 98 = .ok (.iload_n 1, 1) := by decide +kernel
theorem dX11_readSpan_99 : decode cX11_readSpan 99 = .ok (.aload_n 0, 1) := by decide +kernel
theorem dX11_readSpan_100 : decode cX11_readSpan 100 = .ok (.getfield 232, 3) := by decide +kernel
theorem dX11_readSpan_103 : decode cX11_readSpan 103 = .ok (.invokevirtual 274, 3) := by decide +kernel
theorem dX11_readSpan_106 : decode cX11_readSpan 106 = .ok (.istore_n 3, 1) := by decide +kernel
theorem dX11_readSpan_107 : decode cX11_readSpan 107 = .ok (.iload_n 3, 1) := by decide +kernel
theorem dX11_readSpan_108 : decode cX11_readSpan 108 = .ok (.iconst (-1), 1) := by decide +kernel
theorem dX11_readSpan_109 : decode cX11_readSpan 109 = .ok (.if_icmp .eq 33, 3) := by decide +kernel
theorem dX11_readSpan_112 : decode cX11_readSpan 112 = .ok (.aload_n 0, 1) := by decide +kernel
theorem dX11_readSpan_113 : decode cX11_readSpan 113 = .ok (.getfield 50, 3) := by decide +kernel
theorem dX11_readSpan_116 : decode cX11_readSpan 116 = .ok (.bipush 8, 2) := by decide +kernel
theorem dX11_readSpan_118 : decode cX11_readSpan 118 = .ok (.iload_n 1, 1) := by decide +kernel
theorem dX11_readSpan_119 : decode cX11_readSpan 119 = .ok (.imul, 1) := by decide +kernel
theorem dX11_readSpan_120 : decode cX11_readSpan 120 = .ok (.iload_n 3, 1) := by decide +kernel
theorem dX11_readSpan_121 : decode cX11_readSpan 121 = .ok (.iadd, 1) := by decide +kernel
theorem dX11_readSpan_122 : decode cX11_readSpan 122 = .ok (.iaload, 1) := by decide +kernel
theorem dX11_readSpan_123 : decode cX11_readSpan 123 = .ok (.iconst 1, 1) := by decide +kernel
theorem dX11_readSpan_124 : decode cX11_readSpan 124 = .ok (.if_icmp .eq 28, 3) := by decide +kernel
theorem dX11_readSpan_127 : decode cX11_readSpan 127 = .ok (.aload_n 0, 1) := by decide +kernel
theorem dX11_readSpan_128 : decode cX11_readSpan 128 = .ok (.getfield 50, 3) := by decide +kernel
theorem dX11_readSpan_131 : decode cX11_readSpan 131 = .ok (.bipush 8, 2) := by decide +kernel
theorem dX11_readSpan_133 : decode cX11_readSpan 133 = .ok (.iload_n 1, 1) := by decide +kernel
theorem dX11_readSpan_134 : decode cX11_readSpan 134 = .ok (.imul, 1) := by decide +kernel
theorem dX11_readSpan_135 : decode cX11_readSpan 135 = .ok (.iload_n 3, 1) := by decide +kernel
theorem dX11_readSpan_136 : decode cX11_readSpan 136 = .ok (.iadd, 1) := by decide +kernel
theorem dX11_readSpan_137 : decode cX11_readSpan 137 = .ok (.iaload, 1) := by decide +kernel
theorem dX11_readSpan_138 : decode cX11_readSpan 138 = .ok (.iconst 4, 1) := by decide +kernel
theorem dX11_readSpan_139 : decode cX11_readSpan 139 = .ok (.if_icmp .ge 13, 3) := by decide +kernel
theorem dX11_readSpan_142 : decode cX11_readSpan 142 = .ok (.aload_n 0, 1) := by decide +kernel
theorem dX11_readSpan_143 : decode cX11_readSpan 143 = .ok (.iconst 2, 1) := by decide +kernel
theorem dX11_readSpan_144 : decode cX11_readSpan 144 = .ok (.aload_n 0, 1) := by decide +kernel
theorem dX11_readSpan_145 : decode cX11_readSpan 145 = .ok (.getfield 225, 3) := by decide +kernel
theorem dX11_readSpan_148 : decode cX11_readSpan 148 = .ok (.invokevirtual 249, 3) := by decide +kernel
theorem dX11_readSpan_151 : decode cX11_readSpan 151 = .ok (.athrow, 1) := by decide +kernel
theorem dX11_readSpan_152 : decode cX11_readSpan 152 = .ok (.aload_n 0, 1) := by decide +kernel
theorem dX11_readSpan_153 : decode cX11_readSpan 153 = .ok (.getfield 56, 3) := by decide +kernel
theorem dX11_readSpan_156 : decode cX11_readSpan 156 = .ok (.iload_n 2, 1) := by decide +kernel
theorem dX11_readSpan_157 : decode cX11_readSpan 157 = .ok (.iload_n 3, 1) := by decide +kernel
theorem dX11_readSpan_158 : decode cX11_readSpan 158 = .ok (.iastore, 1) := by decide +kernel
theorem dX11_readSpan_159 : decode cX11_readSpan 159 = .ok (.aload_n 0, 1) := by decide +kernel
theorem dX11_readSpan_160 : decode cX11_readSpan 160 = .ok (.invokevirtual 252, 3) := by decide +kernel
theorem dX11_readSpan_163 : decode cX11_readSpan 163 = .ok (.return_, 1) := by decide +kernel
theorem dX11_feed_0 : decode cX11_feed 0 = .ok (.aload_n 0, 1) := by decide +kernel
theorem dX11_feed_1 : decode cX11_feed 1 = .ok (.iconst 0, 1) := by decide +kernel
theorem dX11_feed_2 : decode cX11_feed 2 = .ok (.putfield 158, 3) := by decide +kernel
theorem dX11_feed_5 : decode cX11_feed 5 = .ok (.aload_n 0, 1) := by decide +kernel
theorem dX11_feed_6 : decode cX11_feed 6 = .ok (.getfield 264, 3) := by decide +kernel
theorem dX11_feed_9 : decode cX11_feed 9 = .ok (.bipush 20, 2) := by decide +kernel
theorem dX11_feed_11 : decode cX11_feed 11 = .ok (.iadd, 1) := by decide +kernel
theorem dX11_feed_12 : decode cX11_feed 12 = .ok (.sipush 400, 3) := by decide +kernel
theorem dX11_feed_15 : decode cX11_feed 15 = .ok (.if_icmp .le 5, 3) := by decide +kernel
theorem dX11_feed_18 : decode cX11_feed 18 = .ok (.iconst (-1), 1) := by decide +kernel
theorem dX11_feed_19 : decode cX11_feed 19 = .ok (.ireturn, 1) := by decide +kernel
theorem dX11_feed_20 : decode cX11_feed 20 = .ok (.iconst 0, 1) := by decide +kernel
theorem dX11_feed_21 : decode cX11_feed 21 = .ok (.istore 6, 2) := by decide +kernel
theorem dX11_feed_23 : decode cX11_feed 23 = .ok (.iload 6, 2) := by decide +kernel
theorem dX11_feed_25 : decode cX11_feed 25 = .ok (.bipush 20, 2) := by decide +kernel
theorem dX11_feed_27 : decode cX11_feed 27 = .ok (.if_icmp .ge 90, 3) := by decide +kernel
theorem dX11_feed_30 : decode cX11_feed 30 = .ok (.iload 6, 2) := by decide +kernel
theorem dX11_feed_32 : decode cX11_feed 32 = .ok (.iconst 4, 1) := by decide +kernel
theorem dX11_feed_33 : decode cX11_feed 33 = .ok (.if_icmp .ge 7, 3) := by decide +kernel
theorem dX11_feed_36 : decode cX11_feed 36 = .ok (.iload_n 1, 1) := by decide +kernel
theorem dX11_feed_37 : decode cX11_feed 37 = .ok (.goto 39, 3) := by decide +kernel
theorem dX11_feed_40 : decode cX11_feed 40 = .ok (.iload 6, 2) := by decide +kernel
theorem dX11_feed_42 : decode cX11_feed 42 = .ok (.bipush 8, 2) := by decide +kernel
theorem dX11_feed_44 : decode cX11_feed 44 = .ok (.if_icmp .ge 7, 3) := by decide +kernel
theorem dX11_feed_47 : decode cX11_feed 47 = .ok (.iload_n 2, 1) := by decide +kernel
theorem dX11_feed_48 : decode cX11_feed 48 = .ok (.goto 28, 3) := by decide +kernel
theorem dX11_feed_51 : decode cX11_feed 51 = .ok (.iload 6, 2) := by decide +kernel
theorem dX11_feed_53 : decode cX11_feed 53 = .ok (.bipush 12, 2) := by decide +kernel
theorem dX11_feed_55 : decode cX11_feed 55 = .ok (.if_icmp .ge 7, 3) := by decide +kernel
theorem dX11_feed_58 : decode cX11_feed 58 = .ok (.iload_n 3, 1) := by decide +kernel
theorem dX11_feed_59 : decode cX11_feed 59 = .ok (.goto 17, 3) := by decide +kernel
theorem dX11_feed_62 : decode cX11_feed 62 = .ok (.iload 6, 2) := by decide +kernel
theorem dX11_feed_64 : decode cX11_feed 64 = .ok (.bipush 16, 2) := by decide +kernel
theorem dX11_feed_66 : decode cX11_feed 66 = .ok (.if_icmp .ge 8, 3) := by decide +kernel
theorem dX11_feed_69 : decode cX11_feed 69 = .ok (.iload 4, 2) := by decide +kernel
theorem dX11_feed_71 : decode cX11_feed 71 = .ok (.goto 5, 3) := by decide +kernel
theorem dX11_feed_74 : decode cX11_feed 74 = .ok (.iload 5, 2) := by decide +kernel
theorem dX11_feed_76 : decode cX11_feed 76 = .ok (.istore 7, 2) := by decide +kernel
theorem dX11_feed_78 : decode cX11_feed 78 = .ok (.aload_n 0, 1) := by decide +kernel
theorem dX11_feed_79 : decode cX11_feed 79 = .ok (.getfield 43, 3) := by decide +kernel
theorem dX11_feed_82 : decode cX11_feed 82 = .ok (.aload_n 0, 1) := by decide +kernel
theorem dX11_feed_83 : decode cX11_feed 83 = .ok (.getfield 264, 3) := by decide +kernel
theorem dX11_feed_86 : decode cX11_feed 86 = .ok (.iload 7, 2) := by decide +kernel
theorem dX11_feed_88 : decode cX11_feed 88 = .ok (.bipush 24, 2) := by decide +kernel
theorem dX11_feed_90 : decode cX11_feed 90 = .ok (.bipush 8, 2) := by decide +kernel
theorem dX11_feed_92 : decode cX11_feed 92 = .ok (.iload 6, 2) := by decide +kernel
theorem dX11_feed_94 : decode cX11_feed 94 = .ok (.iconst 4, 1) := by decide +kernel
theorem dX11_feed_95 : decode cX11_feed 95 = .ok (.irem, 1) := by decide +kernel
theorem dX11_feed_96 : decode cX11_feed 96 = .ok (.imul, 1) := by decide +kernel
theorem dX11_feed_97 : decode cX11_feed 97 = .ok (.isub, 1) := by decide +kernel
theorem dX11_feed_98 : decode cX11_feed 98 = .ok (.ishr, 1) := by decide +kernel
theorem dX11_feed_99 : decode cX11_feed 99 = .ok (.i2b, 1) := by decide +kernel
theorem dX11_feed_100 : decode cX11_feed 100 = .ok (.bastore, 1) := by decide +kernel
theorem dX11_feed_101 : decode cX11_feed 101 = .ok (.aload_n 0, 1) := by decide +kernel
theorem dX11_feed_102 : decode cX11_feed 102 = .ok (.dup, 1) := by decide +kernel
theorem dX11_feed_103 : decode cX11_feed 103 = .ok (.getfield 264, 3) := by decide +kernel
theorem dX11_feed_106 : decode cX11_feed 106 = .ok (.iconst 1, 1) := by decide +kernel
theorem dX11_feed_107 : decode cX11_feed 107 = .ok (.iadd, 1) := by decide +kernel
theorem dX11_feed_108 : decode cX11_feed 108 = .ok (.putfield 264, 3) := by decide +kernel
theorem dX11_feed_111 : decode cX11_feed 111 = .ok (.iinc 6 1, 3) := by decide +kernel
theorem dX11_feed_114 : decode cX11_feed 114 = .ok (.goto (-91), 3) := by decide +kernel
theorem dX11_feed_117 : decode cX11_feed 117 = .ok (.aload_n 0, 1) := by decide +kernel
theorem dX11_feed_118 : decode cX11_feed 118 = .ok (.getfield 264, 3) := by decide +kernel
theorem dX11_feed_121 : decode cX11_feed 121 = .ok (.ireturn, 1) := by decide +kernel
theorem dX11_wrong_0 : decode cX11_wrong 0 = .ok (.aload_n 0, 1) := by decide +kernel
theorem dX11_wrong_1 : decode cX11_wrong 1 = .ok (.aload_n 1, 1) := by decide +kernel
theorem dX11_wrong_2 : decode cX11_wrong 2 = .ok (.getfield 211, 3) := by decide +kernel
theorem dX11_wrong_5 : decode cX11_wrong 5 = .ok (.putfield 267, 3) := by decide +kernel
theorem dX11_wrong_8 : decode cX11_wrong 8 = .ok (.aload_n 0, 1) := by decide +kernel
theorem dX11_wrong_9 : decode cX11_wrong 9 = .ok (.iconst 4, 1) := by decide +kernel
theorem dX11_wrong_10 : decode cX11_wrong 10 = .ok (.putfield 161, 3) := by decide +kernel
theorem dX11_wrong_13 : decode cX11_wrong 13 = .ok (.aload_n 0, 1) := by decide +kernel
theorem dX11_wrong_14 : decode cX11_wrong 14 = .ok (.aload_n 1, 1) := by decide +kernel
theorem dX11_wrong_15 : decode cX11_wrong 15 = .ok (.getfield 213, 3) := by decide +kernel
theorem dX11_wrong_18 : decode cX11_wrong 18 = .ok (.putfield 11, 3) := by decide +kernel
theorem dX11_wrong_21 : decode cX11_wrong 21 = .ok (.iconst (-1), 1) := by decide +kernel
theorem dX11_wrong_22 : decode cX11_wrong 22 = .ok (.ireturn, 1) := by decide +kernel
theorem dX11_form_0 : decode cX11_form 0 = .ok (.aload_n 0, 1) := by decide +kernel
theorem dX11_form_1 : decode cX11_form 1 = .ok (.iconst 0, 1) := by decide +kernel
theorem dX11_form_2 : decode cX11_form 2 = .ok (.putfield 158, 3) := by decide +kernel
theorem dX11_form_5 : decode cX11_form 5 = .ok (.iload_n 1, 1) := by decide +kernel
theorem dX11_form_6 : decode cX11_form 6 = .ok (.ifCond .lt 11, 3) := by decide +kernel
theorem dX11_form_9 : decode cX11_form 9 = .ok (.iload_n 1, 1) := by decide +kernel
theorem dX11_form_10 : decode cX11_form 10 = .ok (.aload_n 0, 1) := by decide +kernel
theorem dX11_form_11 : decode cX11_form 11 = .ok (.getfield 264, 3) := by decide +kernel
theorem dX11_form_14 : decode cX11_form 14 = .ok (.if_icmp .le 9, 3) := by decide +kernel
theorem dX11_form_17 : decode cX11_form 17 = .ok (.aload_n 0, 1) := by decide +kernel
theorem dX11_form_18 : decode cX11_form 18 = .ok (.iconst 2, 1) := by decide +kernel
theorem dX11_form_19 : decode cX11_form 19 = .ok (.invokevirtual 194, 3) := by decide +kernel
theorem dX11_form_22 : decode cX11_form 22 = .ok (.ireturn, 1) := by decide +kernel
theorem dX11_form_23 : decode cX11_form 23 = .ok (.aload_n 0, 1) := by decide +kernel
theorem dX11_form_24 : decode cX11_form 24 = .ok (.iload_n 1, 1) := by decide +kernel
theorem dX11_form_25 : decode cX11_form 25 = .ok (.invokevirtual 308, 3) := by decide +kernel
theorem dX11_form_28 : decode cX11_form 28 = .ok (.aload_n 0, 1) := by decide +kernel
theorem dX11_form_29 : decode cX11_form 29 = .ok (.invokevirtual 311, 3) := by decide +kernel
theorem dX11_form_32 : decode cX11_form 32 = .ok (.goto 10, 3) := by decide +kernel
theorem dX11_form_35 : decode cX11_form 35 = .ok (.astore_n 2, 1) := by decide +kernel
theorem dX11_form_36 : decode cX11_form 36 = .ok (.aload_n 0, 1) := by decide +kernel
theorem dX11_form_37 : decode cX11_form 37 = .ok (.aload_n 2, 1) := by decide +kernel
theorem dX11_form_38 : decode cX11_form 38 = .ok (.invokevirtual 314, 3) := by decide +kernel
theorem dX11_form_41 : decode cX11_form 41 = .ok (.ireturn, 1) := by decide +kernel
theorem dX11_form_42 : decode cX11_form 42 = .ok (.aload_n 0, 1) := by decide +kernel
theorem dX11_form_43 : decode cX11_form 43 = .ok (.getfield 170, 3) := by decide +kernel
theorem dX11_form_46 : decode cX11_form 46 = .ok (.bipush 12, 2) := by decide +kernel
theorem dX11_form_48 : decode cX11_form 48 = .ok (.if_icmp .ne 9, 3) := by decide +kernel
theorem dX11_form_51 : decode cX11_form 51 = .ok (.aload_n 0, 1) := by decide +kernel
theorem dX11_form_52 : decode cX11_form 52 = .ok (.iconst 3, 1) := by decide +kernel
theorem dX11_form_53 : decode cX11_form 53 = .ok (.invokevirtual 194, 3) := by decide +kernel
theorem dX11_form_56 : decode cX11_form 56 = .ok (.ireturn, 1) := by decide +kernel
theorem dX11_form_57 : decode cX11_form 57 = .ok (.aload_n 0, 1) := by decide +kernel
theorem dX11_form_58 : decode cX11_form 58 = .ok (.iconst 1, 1) := by decide +kernel
theorem dX11_form_59 : decode cX11_form 59 = .ok (.aload_n 0, 1) := by decide +kernel
theorem dX11_form_60 : decode cX11_form 60 = .ok (.getfield 170, 3) := by decide +kernel
theorem dX11_form_63 : decode cX11_form 63 = .ok (.lconst 0, 1) := by decide +kernel
theorem dX11_form_64 : decode cX11_form 64 = .ok (.lconst 0, 1) := by decide +kernel
theorem dX11_form_65 : decode cX11_form 65 = .ok (.invokevirtual 183, 3) := by decide +kernel
theorem dX11_form_68 : decode cX11_form 68 = .ok (.aload_n 0, 1) := by decide +kernel
theorem dX11_form_69 : decode cX11_form 69 = .ok (.dup, 1) := by decide +kernel
theorem dX11_form_70 : decode cX11_form 70 = .ok (.getfield 170, 3) := by decide +kernel
theorem dX11_form_73 : decode cX11_form 73 = .ok (.iconst 1, 1) := by decide +kernel
theorem dX11_form_74 : decode cX11_form 74 = .ok (.iadd, 1) := by decide +kernel
theorem dX11_form_75 : decode cX11_form 75 = .ok (.putfield 170, 3) := by decide +kernel
theorem dX11_form_78 : decode cX11_form 78 = .ok (.aload_n 0, 1) := by decide +kernel
theorem dX11_form_79 : decode cX11_form 79 = .ok (.aload_n 0, 1) := by decide +kernel
theorem dX11_form_80 : decode cX11_form 80 = .ok (.getfield 170, 3) := by decide +kernel
theorem dX11_form_83 : decode cX11_form 83 = .ok (.iconst 1, 1) := by decide +kernel
theorem dX11_form_84 : decode cX11_form 84 = .ok (.isub, 1) := by decide +kernel
theorem dX11_form_85 : decode cX11_form 85 = .ok (.invokevirtual 190, 3) := by decide +kernel
theorem dX11_form_88 : decode cX11_form 88 = .ok (.ireturn, 1) := by decide +kernel
theorem dX11_isForm_0 : decode cX11_isForm 0 = .ok (.iload_n 1, 1) := by decide +kernel
theorem dX11_isForm_1 : decode cX11_isForm 1 = .ok (.ifCond .lt 15, 3) := by decide +kernel
theorem dX11_isForm_4 : decode cX11_isForm 4 = .ok (.iload_n 1, 1) := by decide +kernel
theorem dX11_isForm_5 : decode cX11_isForm 5 = .ok (.aload_n 0, 1) := by decide +kernel
theorem dX11_isForm_6 : decode cX11_isForm 6 = .ok (.getfield 170, 3) := by decide +kernel
theorem dX11_isForm_9 : decode cX11_isForm 9 = .ok (.if_icmp .ge 7, 3) := by decide +kernel
theorem dX11_isForm_12 : decode cX11_isForm 12 = .ok (.iconst 1, 1) := by decide +kernel
theorem dX11_isForm_13 : decode cX11_isForm 13 = .ok (.goto 4, 3) := by decide +kernel
theorem dX11_isForm_16 : decode cX11_isForm 16 = .ok (.iconst 0, 1) := by decide +kernel
theorem dX11_isForm_17 : decode cX11_isForm 17 = .ok (.ireturn, 1) := by decide +kernel
theorem dX11_field_0 : decode cX11_field 0 = .ok (.aload_n 0, 1) := by decide +kernel
theorem dX11_field_1 : decode cX11_field 1 = .ok (.iconst 0, 1) := by decide +kernel
theorem dX11_field_2 : decode cX11_field 2 = .ok (.putfield 158, 3) := by decide +kernel
theorem dX11_field_5 : decode cX11_field 5 = .ok (.aload_n 0, 1) := by decide +kernel
theorem dX11_field_6 : decode cX11_field 6 = .ok (.iload_n 1, 1) := by decide +kernel
theorem dX11_field_7 : decode cX11_field 7 = .ok (.invokevirtual 318, 3) := by decide +kernel
theorem dX11_field_10 : decode cX11_field 10 = .ok (.ifCond .eq 17, 3) := by decide +kernel
theorem dX11_field_13 : decode cX11_field 13 = .ok (.iload_n 2, 1) := by decide +kernel
theorem dX11_field_14 : decode cX11_field 14 = .ok (.ifCond .lt 13, 3) := by decide +kernel
theorem dX11_field_17 : decode cX11_field 17 = .ok (.iload_n 2, 1) := by decide +kernel
theorem dX11_field_18 : decode cX11_field 18 = .ok (.aload_n 0, 1) := by decide +kernel
theorem dX11_field_19 : decode cX11_field 19 = .ok (.getfield 47, 3) := by decide +kernel
theorem dX11_field_22 : decode cX11_field 22 = .ok (.iload_n 1, 1) := by decide +kernel
theorem dX11_field_23 : decode cX11_field 23 = .ok (.iaload, 1) := by decide +kernel
theorem dX11_field_24 : decode cX11_field 24 = .ok (.if_icmp .lt 5, 3) := by decide +kernel
theorem dX11_field_27 : decode cX11_field 27 = .ok (.iconst (-1), 1) := by decide +kernel
theorem dX11_field_28 : decode cX11_field 28 = .ok (.ireturn, 1) := by decide +kernel
theorem dX11_field_29 : decode cX11_field 29 = .ok (.bipush 8, 2) := by decide +kernel
theorem dX11_field_31 : decode cX11_field 31 = .ok (.iload_n 1, 1) := by decide +kernel
theorem dX11_field_32 : decode cX11_field 32 = .ok (.imul, 1) := by decide +kernel
theorem dX11_field_33 : decode cX11_field 33 = .ok (.iload_n 2, 1) := by decide +kernel
theorem dX11_field_34 : decode cX11_field 34 = .ok (.iadd, 1) := by decide +kernel
theorem dX11_field_35 : decode cX11_field 35 = .ok (.istore 4, 2) := by decide +kernel
theorem dX11_field_37 : decode cX11_field 37 = .ok (.iload_n 3, 1) := by decide +kernel
theorem dX11_field_38 : decode cX11_field 38 = .ok (.tableswitch 70 0 3 #[30, 38, 54, 62], 30) := by decide +kernel
theorem dX11_field_68 : decode cX11_field 68 = .ok (.aload_n 0, 1) := by decide +kernel
theorem dX11_field_69 : decode cX11_field 69 = .ok (.getfield 50, 3) := by decide +kernel
theorem dX11_field_72 : decode cX11_field 72 = .ok (.iload 4, 2) := by decide +kernel
theorem dX11_field_74 : decode cX11_field 74 = .ok (.iaload, 1) := by decide +kernel
theorem dX11_field_75 : decode cX11_field 75 = .ok (.ireturn, 1) := by decide +kernel
theorem dX11_field_76 : decode cX11_field 76 = .ok (.aload_n 0, 1) := by decide +kernel
theorem dX11_field_77 : decode cX11_field 77 = .ok (.getfield 59, 3) := by decide +kernel
theorem dX11_field_80 : decode cX11_field 80 = .ok (.iload 4, 2) := by decide +kernel
theorem dX11_field_82 : decode cX11_field 82 = .ok (.baload, 1) := by decide +kernel
theorem dX11_field_83 : decode cX11_field 83 = .ok (.ifCond .eq 7, 3) := by decide +kernel
theorem dX11_field_86 : decode cX11_field 86 = .ok (.iconst 1, 1) := by decide +kernel
theorem dX11_field_87 : decode cX11_field 87 = .ok (.goto 4, 3) := by decide +kernel
theorem dX11_field_90 : decode cX11_field 90 = .ok (.iconst 0, 1) := by decide +kernel
theorem dX11_field_91 : decode cX11_field 91 = .ok (.ireturn, 1) := by decide +kernel
theorem dX11_field_92 : decode cX11_field 92 = .ok (.aload_n 0, 1) := by decide +kernel
theorem dX11_field_93 : decode cX11_field 93 = .ok (.getfield 53, 3) := by decide +kernel
theorem dX11_field_96 : decode cX11_field 96 = .ok (.iload 4, 2) := by decide +kernel
theorem dX11_field_98 : decode cX11_field 98 = .ok (.iaload, 1) := by decide +kernel
theorem dX11_field_99 : decode cX11_field 99 = .ok (.ireturn, 1) := by decide +kernel
theorem dX11_field_100 : decode cX11_field 100 = .ok (.aload_n 0, 1) := by decide +kernel
theorem dX11_field_101 : decode cX11_field 101 = .ok (.getfield 56, 3) := by decide +kernel
theorem dX11_field_104 : decode cX11_field 104 = .ok (.iload 4, 2) := by decide +kernel
theorem dX11_field_106 : decode cX11_field 106 = .ok (.iaload, 1) := by decide +kernel
theorem dX11_field_107 : decode cX11_field 107 = .ok (.ireturn, 1) := by decide +kernel
theorem dX11_field_108 : decode cX11_field 108 = .ok (.iconst (-1), 1) := by decide +kernel
theorem dX11_field_109 : decode cX11_field 109 = .ok (.ireturn, 1) := by decide +kernel
theorem dX11_fields_0 : decode cX11_fields 0 = .ok (.aload_n 0, 1) := by decide +kernel
theorem dX11_fields_1 : decode cX11_fields 1 = .ok (.iconst 0, 1) := by decide +kernel
theorem dX11_fields_2 : decode cX11_fields 2 = .ok (.putfield 158, 3) := by decide +kernel
theorem dX11_fields_5 : decode cX11_fields 5 = .ok (.aload_n 0, 1) := by decide +kernel
theorem dX11_fields_6 : decode cX11_fields 6 = .ok (.iload_n 1, 1) := by decide +kernel
theorem dX11_fields_7 : decode cX11_fields 7 = .ok (.invokevirtual 318, 3) := by decide +kernel
theorem dX11_fields_10 : decode cX11_fields 10 = .ok (.ifCond .eq 12, 3) := by decide +kernel
theorem dX11_fields_13 : decode cX11_fields 13 = .ok (.aload_n 0, 1) := by decide +kernel
theorem dX11_fields_14 : decode cX11_fields 14 = .ok (.getfield 47, 3) := by decide +kernel
theorem dX11_fields_17 : decode cX11_fields 17 = .ok (.iload_n 1, 1) := by decide +kernel
theorem dX11_fields_18 : decode cX11_fields 18 = .ok (.iaload, 1) := by decide +kernel
theorem dX11_fields_19 : decode cX11_fields 19 = .ok (.goto 4, 3) := by decide +kernel
theorem dX11_fields_22 : decode cX11_fields 22 = .ok (.iconst (-1), 1) := by decide +kernel
theorem dX11_fields_23 : decode cX11_fields 23 = .ok (.ireturn, 1) := by decide +kernel
theorem dX11_readNotice_0 : decode cX11_readNotice 0 = .ok (.aload_n 0, 1) := by decide +kernel
theorem dX11_readNotice_1 : decode cX11_readNotice 1 = .ok (.getfield 173, 3) := by decide +kernel
theorem dX11_readNotice_4 : decode cX11_readNotice 4 = .ok (.istore_n 2, 1) := by decide +kernel
theorem dX11_readNotice_5 : decode cX11_readNotice 5 = .ok (.iconst 0, 1) := by decide +kernel
theorem dX11_readNotice_6 : decode cX11_readNotice 6 = .ok (.istore_n 3, 1) := by decide +kernel
theorem dX11_readNotice_7 : decode cX11_readNotice 7 = .ok (.iload_n 3, 1) := by decide +kernel
theorem dX11_readNotice_8 : decode cX11_readNotice 8 = .ok (.bipush 8, 2) := by decide +kernel
theorem dX11_readNotice_10 : decode cX11_readNotice 10 = .ok (.if_icmp .ge 21, 3) := by decide +kernel
theorem dX11_readNotice_13 : decode cX11_readNotice 13 = .ok (.aload_n 0, 1) := by decide +kernel
theorem dX11_readNotice_14 : decode cX11_readNotice 14 = .ok (.getfield 101, 3) := by decide +kernel
theorem dX11_readNotice_17 : decode cX11_readNotice 17 = .ok (.bipush 8, 2) := by decide +kernel
theorem dX11_readNotice_19 : decode cX11_readNotice 19 = .ok (.iload_n 2, 1) := by decide +kernel
theorem dX11_readNotice_20 : decode cX11_readNotice 20 = .ok (.imul, 1) := by decide +kernel
theorem dX11_readNotice_21 : decode cX11_readNotice 21 = .ok (.iload_n 3, 1) := by decide +kernel
theorem dX11_readNotice_22 : decode cX11_readNotice 22 = .ok (.iadd, 1) := by decide +kernel
theorem dX11_readNotice_23 : decode cX11_readNotice 23 = .ok (.iconst 0, 1) := by decide +kernel
theorem dX11_readNotice_24 : decode cX11_readNotice 24 = .ok (.bastore, 1) := by decide +kernel
theorem dX11_readNotice_25 : decode cX11_readNotice 25 = .ok (.iinc 3 1, 3) := by decide +kernel
theorem dX11_readNotice_28 : decode cX11_readNotice 28 = .ok (.goto (-21), 3) := by decide +kernel
theorem dX11_readNotice_31 : decode cX11_readNotice 31 = .ok (.iconst 1, 1) := by decide +kernel
theorem dX11_readNotice_32 : decode cX11_readNotice 32 = .ok (.istore_n 3, 1) := by decide +kernel
theorem dX11_readNotice_33 : decode cX11_readNotice 33 = .ok (.iload_n 3, 1) := by decide +kernel
theorem dX11_readNotice_34 : decode cX11_readNotice 34 = .ok (.ifCond .eq 170, 3) := by decide +kernel
theorem dX11_readNotice_37 : decode cX11_readNotice 37 = .ok (.aload_n 0, 1) := by decide +kernel
theorem dX11_readNotice_38 : decode cX11_readNotice 38 = .ok (.iconst 2, 1) := by decide +kernel
theorem dX11_readNotice_39 : decode cX11_readNotice 39 = .ok (.invokevirtual 270, 3) := by decide +kernel
theorem dX11_readNotice_42 : decode cX11_readNotice 42 = .ok (.aload_n 0, 1) := by decide +kernel
theorem dX11_readNotice_43 : decode cX11_readNotice 43 = .ok (.iload_n 1, 1) := by decide +kernel
theorem dX11_readNotice_44 : decode cX11_readNotice 44 = .ok (.aload_n 0, 1) := by decide +kernel
theorem dX11_readNotice_45 : decode cX11_readNotice 45 = .ok (.getfield 232, 3) := by decide +kernel
theorem dX11_readNotice_48 : decode cX11_readNotice 48 = .ok (.invokevirtual 274, 3) := by decide +kernel
theorem dX11_readNotice_51 : decode cX11_readNotice 51 = .ok (.istore 4, 2) := by decide +kernel
theorem dX11_readNotice_53 : decode cX11_readNotice 53 = .ok (.iload 4, 2) := by decide +kernel
theorem dX11_readNotice_55 : decode cX11_readNotice 55 = .ok (.iconst (-1), 1) := by decide +kernel
theorem dX11_readNotice_56 : decode cX11_readNotice 56 = .ok (.if_icmp .eq 19, 3) := by decide +kernel
theorem dX11_readNotice_59 : decode cX11_readNotice 59 = .ok (.aload_n 0, 1) := by decide +kernel
theorem dX11_readNotice_60 : decode cX11_readNotice 60 = .ok (.getfield 50, 3) := by decide +kernel
theorem dX11_readNotice_63 : decode cX11_readNotice 63 = .ok (.bipush 8, 2) := by decide +kernel
theorem dX11_readNotice_65 : decode cX11_readNotice 65 = .ok (.iload_n 1, 1) := by decide +kernel
theorem dX11_readNotice_66 : decode cX11_readNotice 66 = .ok (.imul, 1) := by decide +kernel
theorem dX11_readNotice_67 : decode cX11_readNotice 67 = .ok (.iload 4, 2) := by decide +kernel
theorem dX11_readNotice_69 : decode cX11_readNotice 69 = .ok (.iadd, 1) := by decide +kernel
theorem dX11_readNotice_70 : decode cX11_readNotice 70 = .ok (.iaload, 1) := by decide +kernel
theorem dX11_readNotice_71 : decode cX11_readNotice 71 = .ok (.iconst 4, 1) := by decide +kernel
theorem dX11_readNotice_72 : decode cX11_readNotice 72 = .ok (.if_icmp .lt 13, 3) := by decide +kernel
theorem dX11_readNotice_75 : decode cX11_readNotice 75 = .ok (.aload_n 0, 1) := by decide +kernel
theorem dX11_readNotice_76 : decode cX11_readNotice 76 = .ok (.iconst 2, 1) := by decide +kernel
theorem dX11_readNotice_77 : decode cX11_readNotice 77 = .ok (.aload_n 0, 1) := by decide +kernel
theorem dX11_readNotice_78 : decode cX11_readNotice 78 = .ok (.getfield 225, 3) := by decide +kernel
theorem dX11_readNotice_81 : decode cX11_readNotice 81 = .ok (.invokevirtual 249, 3) := by decide +kernel
theorem dX11_readNotice_84 : decode cX11_readNotice 84 = .ok (.athrow, 1) := by decide +kernel
theorem dX11_readNotice_85 : decode cX11_readNotice 85 = .ok (.aload_n 0, 1) := by decide +kernel
theorem dX11_readNotice_86 : decode cX11_readNotice 86 = .ok (.getfield 101, 3) := by decide +kernel
theorem dX11_readNotice_89 : decode cX11_readNotice 89 = .ok (.bipush 8, 2) := by decide +kernel
theorem dX11_readNotice_91 : decode cX11_readNotice 91 = .ok (.iload_n 2, 1) := by decide +kernel
theorem dX11_readNotice_92 : decode cX11_readNotice 92 = .ok (.imul, 1) := by decide +kernel
theorem dX11_readNotice_93 : decode cX11_readNotice 93 = .ok (.iload 4, 2) := by decide +kernel
theorem dX11_readNotice_95 : decode cX11_readNotice 95 = .ok (.iadd, 1) := by decide +kernel
theorem dX11_readNotice_96 : decode cX11_readNotice 96 = .ok (.baload, 1) := by decide +kernel
theorem dX11_readNotice_97 : decode cX11_readNotice 97 = .ok (.ifCond .eq 13, 3) := by decide +kernel
theorem dX11_readNotice_100 : decode cX11_readNotice 100 = .ok (.aload_n 0, 1) := by decide +kernel
theorem dX11_readNotice_101 : decode cX11_readNotice 101 = .ok (.iconst 3, 1) := by decide +kernel
theorem dX11_readNotice_102 : decode cX11_readNotice 102 = .ok (.aload_n 0, 1) := by decide +kernel
theorem dX11_readNotice_103 : decode cX11_readNotice 103 = .ok (.getfield 225, 3) := by decide +kernel
theorem dX11_readNotice_106 : decode cX11_readNotice 106 = .ok (.invokevirtual 249, 3) := by decide +kernel
theorem dX11_readNotice_109 : decode cX11_readNotice 109 = .ok (.athrow, 1) := by decide +kernel
theorem dX11_readNotice_110 : decode cX11_readNotice 110 = .ok (.aload_n 0, 1) := by decide +kernel
theorem dX11_readNotice_111 : decode cX11_readNotice 111 = .ok (.invokevirtual 252, 3) := by decide +kernel
theorem dX11_readNotice_114 : decode cX11_readNotice 114 = .ok (.aload_n 0, 1) := by decide +kernel
theorem dX11_readNotice_115 : decode cX11_readNotice 115 = .ok (.bipush 61, 2) := by decide +kernel
theorem dX11_readNotice_117 : decode cX11_readNotice 117 = .ok (.invokevirtual 278, 3) := by decide +kernel
theorem dX11_readNotice_120 : decode cX11_readNotice 120 = .ok (.aload_n 0, 1) := by decide +kernel
theorem dX11_readNotice_121 : decode cX11_readNotice 121 = .ok (.getfield 226, 3) := by decide +kernel
theorem dX11_readNotice_124 : decode cX11_readNotice 124 = .ok (.iconst 2, 1) := by decide +kernel
theorem dX11_readNotice_125 : decode cX11_readNotice 125 = .ok (.if_icmp .eq 21, 3) := by decide +kernel
theorem dX11_readNotice_128 : decode cX11_readNotice 128 = .ok (.aload_n 0, 1) := by decide +kernel
theorem dX11_readNotice_129 : decode cX11_readNotice 129 = .ok (.getfield 226, 3) := by decide +kernel
theorem dX11_readNotice_132 : decode cX11_readNotice 132 = .ok (.iconst 3, 1) := by decide +kernel
theorem dX11_readNotice_133 : decode cX11_readNotice 133 = .ok (.if_icmp .eq 13, 3) := by decide +kernel
theorem dX11_readNotice_136 : decode cX11_readNotice 136 = .ok (.aload_n 0, 1) := by decide +kernel
theorem dX11_readNotice_137 : decode cX11_readNotice 137 = .ok (.iconst 1, 1) := by decide +kernel
theorem dX11_readNotice_138 : decode cX11_readNotice 138 = .ok (.aload_n 0, 1) := by decide +kernel
theorem dX11_readNotice_139 : decode cX11_readNotice 139 = .ok (.getfield 225, 3) := by decide +kernel
theorem dX11_readNotice_142 : decode cX11_readNotice 142 = .ok (.invokevirtual 249, 3) := by decide +kernel
theorem dX11_readNotice_145 : decode cX11_readNotice 145 = .ok (.athrow, 1) := by decide +kernel
theorem dX11_readNotice_146 : decode cX11_readNotice 146 = .ok (.aload_n 0, 1) := by decide +kernel
theorem dX11_readNotice_147 : decode cX11_readNotice 147 = .ok (.getfield 89, 3) := by decide +kernel
theorem dX11_readNotice_150 : decode cX11_readNotice 150 = .ok (.bipush 8, 2) := by decide +kernel
theorem dX11_readNotice_152 : decode cX11_readNotice 152 = .ok (.iload_n 2, 1) := by decide +kernel
theorem dX11_readNotice_153 : decode cX11_readNotice 153 = .ok (.imul, 1) := by decide +kernel
theorem dX11_readNotice_154 : decode cX11_readNotice 154 = .ok (.iload 4, 2) := by decide +kernel
theorem dX11_readNotice_156 : decode cX11_readNotice 156 = .ok (.iadd, 1) := by decide +kernel
theorem dX11_readNotice_157 : decode cX11_readNotice 157 = .ok (.aload_n 0, 1) := by decide +kernel
theorem dX11_readNotice_158 : decode cX11_readNotice 158 = .ok (.bipush 8, 2) := by decide +kernel
theorem dX11_readNotice_160 : decode cX11_readNotice 160 = .ok (.iload_n 1, 1) := by decide +kernel
theorem dX11_readNotice_161 : decode cX11_readNotice 161 = .ok (.imul, 1) := by decide +kernel
theorem dX11_readNotice_162 : decode cX11_readNotice 162 = .ok (.iload 4, 2) := by decide +kernel
theorem dX11_readNotice_164 : decode cX11_readNotice 164 = .ok (.iadd, 1) := by decide +kernel
theorem dX11_readNotice_165 : decode cX11_readNotice 165 = .ok (.invokevirtual 321, 3) := by decide +kernel
theorem dX11_readNotice_168 : decode cX11_readNotice 168 = .ok (.lastore, 1) := by decide +kernel
theorem dX11_readNotice_169 : decode cX11_readNotice 169 = .ok (.aload_n 0, 1) := by decide +kernel
theorem dX11_readNotice_170 : decode cX11_readNotice 170 = .ok (.getfield 101, 3) := by decide +kernel
theorem dX11_readNotice_173 : decode cX11_readNotice 173 = .ok (.bipush 8, 2) := by decide +kernel
theorem dX11_readNotice_175 : decode cX11_readNotice 175 = .ok (.iload_n 2, 1) := by decide +kernel
theorem dX11_readNotice_176 : decode cX11_readNotice 176 = .ok (.imul, 1) := by decide +kernel
theorem dX11_readNotice_177 : decode cX11_readNotice 177 = .ok (.iload 4, 2) := by decide +kernel
theorem dX11_readNotice_179 : decode cX11_readNotice 179 = .ok (.iadd, 1) := by decide +kernel
theorem dX11_readNotice_180 : decode cX11_readNotice 180 = .ok (.iconst 1, 1) := by decide +kernel
theorem dX11_readNotice_181 : decode cX11_readNotice 181 = .ok (.bastore, 1) := by decide +kernel
theorem dX11_readNotice_182 : decode cX11_readNotice 182 = .ok (.aload_n 0, 1) := by decide +kernel
theorem dX11_readNotice_183 : decode cX11_readNotice 183 = .ok (.invokevirtual 252, 3) := by decide +kernel
theorem dX11_readNotice_186 : decode cX11_readNotice 186 = .ok (.aload_n 0, 1) := by decide +kernel
theorem dX11_readNotice_187 : decode cX11_readNotice 187 = .ok (.bipush 59, 2) := by decide +kernel
theorem dX11_readNotice_189 : decode cX11_readNotice 189 = .ok (.invokevirtual 246, 3) := by decide +kernel
theorem dX11_readNotice_192 : decode cX11_readNotice 192 = .ok (.istore_n 3, 1) := by decide +kernel
theorem dX11_readNotice_193 : decode cX11_readNotice 193 = .ok (.iload_n 3, 1) := by decide +kernel
theorem dX11_readNotice_194 : decode cX11_readNotice 194 = .ok (.ifCond .eq 7, 3) := by decide +kernel
theorem dX11_readNotice_197 : decode cX11_readNotice 197 = .ok (.aload_n 0, 1) := by decide +kernel
theorem dX11_readNotice_198 : decode cX11_readNotice 198 = .ok (.invokevirtual 252, 3) := by decide +kernel
theorem dX11_readNotice_201 : decode cX11_readNotice 201 = .ok (.goto (-168), 3) := by decide +kernel
theorem dX11_readNotice_204 : decode cX11_readNotice 204 = .ok (.aload_n 0, 1) := by decide +kernel
theorem dX11_readNotice_205 : decode cX11_readNotice 205 = .ok (.iconst 1, 1) := by decide +kernel
theorem dX11_readNotice_206 : decode cX11_readNotice 206 = .ok (.invokevirtual 270, 3) := by decide +kernel
theorem dX11_readNotice_209 : decode cX11_readNotice 209 = .ok (.iconst 0, 1) := by decide +kernel
theorem dX11_readNotice_210 : decode cX11_readNotice 210 = .ok (.istore 4, 2) := by decide +kernel
theorem dX11_readNotice_212 : decode cX11_readNotice 212 = .ok (.iload 4, 2) := by decide +kernel
theorem dX11_readNotice_214 : decode cX11_readNotice 214 = .ok (.aload_n 0, 1) := by decide +kernel
theorem dX11_readNotice_215 : decode cX11_readNotice 215 = .ok (.getfield 47, 3) := by decide +kernel
theorem dX11_readNotice_218 : decode cX11_readNotice 218 = .ok (.iload_n 1, 1) := by decide +kernel
theorem dX11_readNotice_219 : decode cX11_readNotice 219 = .ok (.iaload, 1) := by decide +kernel
theorem dX11_readNotice_220 : decode cX11_readNotice 220 = .ok (.if_icmp .ge 75, 3) := by decide +kernel
theorem dX11_readNotice_223 : decode cX11_readNotice 223 = .ok (.aload_n 0, 1) := by decide +kernel
theorem dX11_readNotice_224 : decode cX11_readNotice 224 = .ok (.getfield 101, 3) := by decide +kernel
theorem dX11_readNotice_227 : decode cX11_readNotice 227 = .ok (.bipush 8, 2) := by decide +kernel
theorem dX11_readNotice_229 : decode cX11_readNotice 229 = .ok (.iload_n 2, 1) := by decide +kernel
theorem dX11_readNotice_230 : decode cX11_readNotice 230 = .ok (.imul, 1) := by decide +kernel
theorem dX11_readNotice_231 : decode cX11_readNotice 231 = .ok (.iload 4, 2) := by decide +kernel
theorem dX11_readNotice_233 : decode cX11_readNotice 233 = .ok (.iadd, 1) := by decide +kernel
theorem dX11_readNotice_234 : decode cX11_readNotice 234 = .ok (.baload, 1) := by decide +kernel
theorem dX11_readNotice_235 : decode cX11_readNotice 235 = .ok (.ifCond .ne 54, 3) := by decide +kernel
theorem dX11_readNotice_238 : decode cX11_readNotice 238 = .ok (.aload_n 0, 1) := by decide +kernel
theorem dX11_readNotice_239 : decode cX11_readNotice 239 = .ok (.getfield 59, 3) := by decide +kernel
theorem dX11_readNotice_242 : decode cX11_readNotice 242 = .ok (.bipush 8, 2) := by decide +kernel
theorem dX11_readNotice_244 : decode cX11_readNotice 244 = .ok (.iload_n 1, 1) := by decide +kernel
theorem dX11_readNotice_245 : decode cX11_readNotice 245 = .ok (.imul, 1) := by decide +kernel
theorem dX11_readNotice_246 : decode cX11_readNotice 246 = .ok (.iload 4, 2) := by decide +kernel
theorem dX11_readNotice_248 : decode cX11_readNotice 248 = .ok (.iadd, 1) := by decide +kernel
theorem dX11_readNotice_249 : decode cX11_readNotice 249 = .ok (.baload, 1) := by decide +kernel
theorem dX11_readNotice_250 : decode cX11_readNotice 250 = .ok (.ifCond .ne 39, 3) := by decide +kernel
theorem dX11_readNotice_253 : decode cX11_readNotice 253 = .ok (.aload_n 0, 1) := by decide +kernel
theorem dX11_readNotice_254 : decode cX11_readNotice 254 = .ok (.getfield 50, 3) := by decide +kernel
theorem dX11_readNotice_257 : decode cX11_readNotice 257 = .ok (.bipush 8, 2) := by decide +kernel
theorem dX11_readNotice_259 : decode cX11_readNotice 259 = .ok (.iload_n 1, 1) := by decide +kernel
theorem dX11_readNotice_260 : decode cX11_readNotice 260 = .ok (.imul, 1) := by decide +kernel
theorem dX11_readNotice_261 : decode cX11_readNotice 261 = .ok (.iload 4, 2) := by decide +kernel
theorem dX11_readNotice_263 : decode cX11_readNotice 263 = .ok (.iadd, 1) := by decide +kernel
theorem dX11_readNotice_264 : decode cX11_readNotice 264 = .ok (.iaload, 1) := by decide +kernel
theorem dX11_readNotice_265 : decode cX11_readNotice 265 = .ok (.iconst 4, 1) := by decide +kernel
theorem dX11_readNotice_266 : decode cX11_readNotice 266 = .ok (.if_icmp .lt 6, 3) := by decide +kernel
theorem dX11_readNotice_269 : decode cX11_readNotice 269 = .ok (.goto 20, 3) := by decide +kernel
theorem dX11_readNotice_272 : decode cX11_readNotice 272 = .ok (.aload_n 0, 1) := by decide +kernel
theorem dX11_readNotice_273 : decode cX11_readNotice 273 = .ok (.iload 4, 2) := by decide +kernel
theorem dX11_readNotice_275 : decode cX11_readNotice 275 = .ok (.putfield 15, 3) := by decide +kernel
theorem dX11_readNotice_278 : decode cX11_readNotice 278 = .ok (.aload_n 0, 1) := by decide +kernel
theorem dX11_readNotice_279 : decode cX11_readNotice 279 = .ok (.bipush 6, 2) := by decide +kernel
theorem dX11_readNotice_281 : decode cX11_readNotice 281 = .ok (.aload_n 0, 1) := by decide +kernel
theorem dX11_readNotice_282 : decode cX11_readNotice 282 = .ok (.getfield 225, 3) := by decide +kernel
theorem dX11_readNotice_285 : decode cX11_readNotice 285 = .ok (.invokevirtual 249, 3) := by decide +kernel
theorem dX11_readNotice_288 : decode cX11_readNotice 288 = .ok (.athrow, 1) := by decide +kernel
theorem dX11_readNotice_289 : decode cX11_readNotice 289 = .ok (.iinc 4 1, 3) := by decide +kernel
theorem dX11_readNotice_292 : decode cX11_readNotice 292 = .ok (.goto (-80), 3) := by decide +kernel
theorem dX11_readNotice_295 : decode cX11_readNotice 295 = .ok (.return_, 1) := by decide +kernel
theorem dX11_valueBy_0 : decode cX11_valueBy 0 = .ok (.aload_n 0, 1) := by decide +kernel
theorem dX11_valueBy_1 : decode cX11_valueBy 1 = .ok (.getfield 50, 3) := by decide +kernel
theorem dX11_valueBy_4 : decode cX11_valueBy 4 = .ok (.iload_n 1, 1) := by decide +kernel
theorem dX11_valueBy_5 : decode cX11_valueBy 5 = .ok (.iaload, 1) := by decide +kernel
theorem dX11_valueBy_6 : decode cX11_valueBy 6 = .ok (.ifCond .eq 13, 3) := by decide +kernel
theorem dX11_valueBy_9 : decode cX11_valueBy 9 = .ok (.aload_n 0, 1) := by decide +kernel
theorem dX11_valueBy_10 : decode cX11_valueBy 10 = .ok (.getfield 50, 3) := by decide +kernel
theorem dX11_valueBy_13 : decode cX11_valueBy 13 = .ok (.iload_n 1, 1) := by decide +kernel
theorem dX11_valueBy_14 : decode cX11_valueBy 14 = .ok (.iaload, 1) := by decide +kernel
theorem dX11_valueBy_15 : decode cX11_valueBy 15 = .ok (.iconst 1, 1) := by decide +kernel
theorem dX11_valueBy_16 : decode cX11_valueBy 16 = .ok (.if_icmp .ne 7, 3) := by decide +kernel
theorem dX11_valueBy_19 : decode cX11_valueBy 19 = .ok (.iconst 1, 1) := by decide +kernel
theorem dX11_valueBy_20 : decode cX11_valueBy 20 = .ok (.goto 4, 3) := by decide +kernel
theorem dX11_valueBy_23 : decode cX11_valueBy 23 = .ok (.iconst 0, 1) := by decide +kernel
theorem dX11_valueBy_24 : decode cX11_valueBy 24 = .ok (.istore_n 2, 1) := by decide +kernel
theorem dX11_valueBy_25 : decode cX11_valueBy 25 = .ok (.iload_n 2, 1) := by decide +kernel
theorem dX11_valueBy_26 : decode cX11_valueBy 26 = .ok (.aload_n 0, 1) := by decide +kernel
theorem dX11_valueBy_27 : decode cX11_valueBy 27 = .ok (.getfield 226, 3) := by decide +kernel
theorem dX11_valueBy_30 : decode cX11_valueBy 30 = .ok (.iconst 3, 1) := by decide +kernel
theorem dX11_valueBy_31 : decode cX11_valueBy 31 = .ok (.if_icmp .ne 7, 3) := by decide +kernel
theorem dX11_valueBy_34 : decode cX11_valueBy 34 = .ok (.iconst 1, 1) := by decide +kernel
theorem dX11_valueBy_35 : decode cX11_valueBy 35 = .ok (.goto 4, 3) := by decide +kernel
theorem dX11_valueBy_38 : decode cX11_valueBy 38 = .ok (.iconst 0, 1) := by decide +kernel
theorem dX11_valueBy_39 : decode cX11_valueBy 39 = .ok (.if_icmp .eq 13, 3) := by decide +kernel
theorem dX11_valueBy_42 : decode cX11_valueBy 42 = .ok (.aload_n 0, 1) := by decide +kernel
theorem dX11_valueBy_43 : decode cX11_valueBy 43 = .ok (.iconst 4, 1) := by decide +kernel
theorem dX11_valueBy_44 : decode cX11_valueBy 44 = .ok (.aload_n 0, 1) := by decide +kernel
theorem dX11_valueBy_45 : decode cX11_valueBy 45 = .ok (.getfield 225, 3) := by decide +kernel
theorem dX11_valueBy_48 : decode cX11_valueBy 48 = .ok (.invokevirtual 249, 3) := by decide +kernel
theorem dX11_valueBy_51 : decode cX11_valueBy 51 = .ok (.athrow, 1) := by decide +kernel
theorem dX11_valueBy_52 : decode cX11_valueBy 52 = .ok (.aload_n 0, 1) := by decide +kernel
theorem dX11_valueBy_53 : decode cX11_valueBy 53 = .ok (.getfield 50, 3) := by decide +kernel
theorem dX11_valueBy_56 : decode cX11_valueBy 56 = .ok (.iload_n 1, 1) := by decide +kernel
theorem dX11_valueBy_57 : decode cX11_valueBy 57 = .ok (.iaload, 1) := by decide +kernel
theorem dX11_valueBy_58 : decode cX11_valueBy 58 = .ok (.ifCond .ne 43, 3) := by decide +kernel
theorem dX11_valueBy_61 : decode cX11_valueBy 61 = .ok (.aload_n 0, 1) := by decide +kernel
theorem dX11_valueBy_62 : decode cX11_valueBy 62 = .ok (.getfield 232, 3) := by decide +kernel
theorem dX11_valueBy_65 : decode cX11_valueBy 65 = .ok (.aload_n 0, 1) := by decide +kernel
theorem dX11_valueBy_66 : decode cX11_valueBy 66 = .ok (.getfield 53, 3) := by decide +kernel
theorem dX11_valueBy_69 : decode cX11_valueBy 69 = .ok (.iload_n 1, 1) := by decide +kernel
theorem dX11_valueBy_70 : decode cX11_valueBy 70 = .ok (.iaload, 1) := by decide +kernel
theorem dX11_valueBy_71 : decode cX11_valueBy 71 = .ok (.i2l, 1) := by decide +kernel
theorem dX11_valueBy_72 : decode cX11_valueBy 72 = .ok (.lcmp, 1) := by decide +kernel
theorem dX11_valueBy_73 : decode cX11_valueBy 73 = .ok (.ifCond .lt 18, 3) := by decide +kernel
theorem dX11_valueBy_76 : decode cX11_valueBy 76 = .ok (.aload_n 0, 1) := by decide +kernel
theorem dX11_valueBy_77 : decode cX11_valueBy 77 = .ok (.getfield 232, 3) := by decide +kernel
theorem dX11_valueBy_80 : decode cX11_valueBy 80 = .ok (.aload_n 0, 1) := by decide +kernel
theorem dX11_valueBy_81 : decode cX11_valueBy 81 = .ok (.getfield 56, 3) := by decide +kernel
theorem dX11_valueBy_84 : decode cX11_valueBy 84 = .ok (.iload_n 1, 1) := by decide +kernel
theorem dX11_valueBy_85 : decode cX11_valueBy 85 = .ok (.iaload, 1) := by decide +kernel
theorem dX11_valueBy_86 : decode cX11_valueBy 86 = .ok (.i2l, 1) := by decide +kernel
theorem dX11_valueBy_87 : decode cX11_valueBy 87 = .ok (.lcmp, 1) := by decide +kernel
theorem dX11_valueBy_88 : decode cX11_valueBy 88 = .ok (.ifCond .le 13, 3) := by decide +kernel
theorem dX11_valueBy_91 : decode cX11_valueBy 91 = .ok (.aload_n 0, 1) := by decide +kernel
theorem dX11_valueBy_92 : decode cX11_valueBy 92 = .ok (.iconst 4, 1) := by decide +kernel
theorem dX11_valueBy_93 : decode cX11_valueBy 93 = .ok (.aload_n 0, 1) := by decide +kernel
theorem dX11_valueBy_94 : decode cX11_valueBy 94 = .ok (.getfield 225, 3) := by decide +kernel
theorem dX11_valueBy_97 : decode cX11_valueBy 97 = .ok (.invokevirtual 249, 3) := by decide +kernel
theorem dX11_valueBy_100 : decode cX11_valueBy 100 = .ok (.athrow, 1) := by decide +kernel
theorem dX11_valueBy_101 : decode cX11_valueBy 101 = .ok (.aload_n 0, 1) := by decide +kernel
theorem dX11_valueBy_102 : decode cX11_valueBy 102 = .ok (.getfield 50, 3) := by decide +kernel
theorem dX11_valueBy_105 : decode cX11_valueBy 105 = .ok (.iload_n 1, 1) := by decide +kernel
theorem dX11_valueBy_106 : decode cX11_valueBy 106 = .ok (.iaload, 1) := by decide +kernel
theorem dX11_valueBy_107 : decode cX11_valueBy 107 = .ok (.iconst 3, 1) := by decide +kernel
theorem dX11_valueBy_108 : decode cX11_valueBy 108 = .ok (.if_icmp .eq 8, 3) := by decide +kernel
theorem dX11_valueBy_111 : decode cX11_valueBy 111 = .ok (.aload_n 0, 1) := by decide +kernel
theorem dX11_valueBy_112 : decode cX11_valueBy 112 = .ok (.getfield 232, 3) := by decide +kernel
theorem dX11_valueBy_115 : decode cX11_valueBy 115 = .ok (.lreturn, 1) := by decide +kernel
theorem dX11_valueBy_116 : decode cX11_valueBy 116 = .ok (.iconst 0, 1) := by decide +kernel
theorem dX11_valueBy_117 : decode cX11_valueBy 117 = .ok (.istore_n 3, 1) := by decide +kernel
theorem dX11_valueBy_118 : decode cX11_valueBy 118 = .ok (.iload_n 3, 1) := by decide +kernel
theorem dX11_valueBy_119 : decode cX11_valueBy 119 = .ok (.aload_n 0, 1) := by decide +kernel
theorem dX11_valueBy_120 : decode cX11_valueBy 120 = .ok (.getfield 53, 3) := by decide +kernel
theorem dX11_valueBy_123 : decode cX11_valueBy 123 = .ok (.iload_n 1, 1) := by decide +kernel
theorem dX11_valueBy_124 : decode cX11_valueBy 124 = .ok (.iaload, 1) := by decide +kernel
theorem dX11_valueBy_125 : decode cX11_valueBy 125 = .ok (.if_icmp .ge 27, 3) := by decide +kernel
theorem dX11_valueBy_128 : decode cX11_valueBy 128 = .ok (.aload_n 0, 1) := by decide +kernel
theorem dX11_valueBy_129 : decode cX11_valueBy 129 = .ok (.getfield 65, 3) := by decide +kernel
theorem dX11_valueBy_132 : decode cX11_valueBy 132 = .ok (.iconst 4, 1) := by decide +kernel
theorem dX11_valueBy_133 : decode cX11_valueBy 133 = .ok (.iload_n 1, 1) := by decide +kernel
theorem dX11_valueBy_134 : decode cX11_valueBy 134 = .ok (.imul, 1) := by decide +kernel
theorem dX11_valueBy_135 : decode cX11_valueBy 135 = .ok (.iload_n 3, 1) := by decide +kernel
theorem dX11_valueBy_136 : decode cX11_valueBy 136 = .ok (.iadd, 1) := by decide +kernel
theorem dX11_valueBy_137 : decode cX11_valueBy 137 = .ok (.laload, 1) := by decide +kernel
theorem dX11_valueBy_138 : decode cX11_valueBy 138 = .ok (.aload_n 0, 1) := by decide +kernel
theorem dX11_valueBy_139 : decode cX11_valueBy 139 = .ok (.getfield 232, 3) := by decide +kernel
theorem dX11_valueBy_142 : decode cX11_valueBy 142 = .ok (.lcmp, 1) := by decide +kernel
theorem dX11_valueBy_143 : decode cX11_valueBy 143 = .ok (.ifCond .eq 9, 3) := by decide +kernel
theorem dX11_valueBy_146 : decode cX11_valueBy 146 = .ok (.iinc 3 1, 3) := by decide +kernel
theorem dX11_valueBy_149 : decode cX11_valueBy 149 = .ok (.goto (-31), 3) := by decide +kernel
theorem dX11_valueBy_152 : decode cX11_valueBy 152 = .ok (.iload_n 3, 1) := by decide +kernel
theorem dX11_valueBy_153 : decode cX11_valueBy 153 = .ok (.aload_n 0, 1) := by decide +kernel
theorem dX11_valueBy_154 : decode cX11_valueBy 154 = .ok (.getfield 53, 3) := by decide +kernel
theorem dX11_valueBy_157 : decode cX11_valueBy 157 = .ok (.iload_n 1, 1) := by decide +kernel
theorem dX11_valueBy_158 : decode cX11_valueBy 158 = .ok (.iaload, 1) := by decide +kernel
theorem dX11_valueBy_159 : decode cX11_valueBy 159 = .ok (.if_icmp .ne 13, 3) := by decide +kernel
theorem dX11_valueBy_162 : decode cX11_valueBy 162 = .ok (.aload_n 0, 1) := by decide +kernel
theorem dX11_valueBy_163 : decode cX11_valueBy 163 = .ok (.iconst 4, 1) := by decide +kernel
theorem dX11_valueBy_164 : decode cX11_valueBy 164 = .ok (.aload_n 0, 1) := by decide +kernel
theorem dX11_valueBy_165 : decode cX11_valueBy 165 = .ok (.getfield 225, 3) := by decide +kernel
theorem dX11_valueBy_168 : decode cX11_valueBy 168 = .ok (.invokevirtual 249, 3) := by decide +kernel
theorem dX11_valueBy_171 : decode cX11_valueBy 171 = .ok (.athrow, 1) := by decide +kernel
theorem dX11_valueBy_172 : decode cX11_valueBy 172 = .ok (.iload_n 3, 1) := by decide +kernel
theorem dX11_valueBy_173 : decode cX11_valueBy 173 = .ok (.i2l, 1) := by decide +kernel
theorem dX11_valueBy_174 : decode cX11_valueBy 174 = .ok (.lreturn, 1) := by decide +kernel
theorem dX11_notice_0 : decode cX11_notice 0 = .ok (.aload_n 0, 1) := by decide +kernel
theorem dX11_notice_1 : decode cX11_notice 1 = .ok (.iconst 0, 1) := by decide +kernel
theorem dX11_notice_2 : decode cX11_notice 2 = .ok (.putfield 158, 3) := by decide +kernel
theorem dX11_notice_5 : decode cX11_notice 5 = .ok (.aload_n 0, 1) := by decide +kernel
theorem dX11_notice_6 : decode cX11_notice 6 = .ok (.iload_n 1, 1) := by decide +kernel
theorem dX11_notice_7 : decode cX11_notice 7 = .ok (.invokevirtual 318, 3) := by decide +kernel
theorem dX11_notice_10 : decode cX11_notice 10 = .ok (.ifCond .ne 9, 3) := by decide +kernel
theorem dX11_notice_13 : decode cX11_notice 13 = .ok (.aload_n 0, 1) := by decide +kernel
theorem dX11_notice_14 : decode cX11_notice 14 = .ok (.iconst 1, 1) := by decide +kernel
theorem dX11_notice_15 : decode cX11_notice 15 = .ok (.invokevirtual 194, 3) := by decide +kernel
theorem dX11_notice_18 : decode cX11_notice 18 = .ok (.ireturn, 1) := by decide +kernel
theorem dX11_notice_19 : decode cX11_notice 19 = .ok (.iload_n 2, 1) := by decide +kernel
theorem dX11_notice_20 : decode cX11_notice 20 = .ok (.ifCond .lt 29, 3) := by decide +kernel
theorem dX11_notice_23 : decode cX11_notice 23 = .ok (.iload_n 2, 1) := by decide +kernel
theorem dX11_notice_24 : decode cX11_notice 24 = .ok (.aload_n 0, 1) := by decide +kernel
theorem dX11_notice_25 : decode cX11_notice 25 = .ok (.getfield 264, 3) := by decide +kernel
theorem dX11_notice_28 : decode cX11_notice 28 = .ok (.if_icmp .gt 21, 3) := by decide +kernel
theorem dX11_notice_31 : decode cX11_notice 31 = .ok (.iload_n 3, 1) := by decide +kernel
theorem dX11_notice_32 : decode cX11_notice 32 = .ok (.iconst 1, 1) := by decide +kernel
theorem dX11_notice_33 : decode cX11_notice 33 = .ok (.bipush 60, 2) := by decide +kernel
theorem dX11_notice_35 : decode cX11_notice 35 = .ok (.invokestatic 203, 3) := by decide +kernel
theorem dX11_notice_38 : decode cX11_notice 38 = .ok (.ifCond .eq 11, 3) := by decide +kernel
theorem dX11_notice_41 : decode cX11_notice 41 = .ok (.iload 4, 2) := by decide +kernel
theorem dX11_notice_43 : decode cX11_notice 43 = .ok (.invokestatic 176, 3) := by decide +kernel
theorem dX11_notice_46 : decode cX11_notice 46 = .ok (.ifCond .ne 9, 3) := by decide +kernel
theorem dX11_notice_49 : decode cX11_notice 49 = .ok (.aload_n 0, 1) := by decide +kernel
theorem dX11_notice_50 : decode cX11_notice 50 = .ok (.iconst 2, 1) := by decide +kernel
theorem dX11_notice_51 : decode cX11_notice 51 = .ok (.invokevirtual 194, 3) := by decide +kernel
theorem dX11_notice_54 : decode cX11_notice 54 = .ok (.ireturn, 1) := by decide +kernel
theorem dX11_notice_55 : decode cX11_notice 55 = .ok (.aload_n 0, 1) := by decide +kernel
theorem dX11_notice_56 : decode cX11_notice 56 = .ok (.iload_n 2, 1) := by decide +kernel
theorem dX11_notice_57 : decode cX11_notice 57 = .ok (.invokevirtual 308, 3) := by decide +kernel
theorem dX11_notice_60 : decode cX11_notice 60 = .ok (.aload_n 0, 1) := by decide +kernel
theorem dX11_notice_61 : decode cX11_notice 61 = .ok (.iload_n 1, 1) := by decide +kernel
theorem dX11_notice_62 : decode cX11_notice 62 = .ok (.invokevirtual 325, 3) := by decide +kernel
theorem dX11_notice_65 : decode cX11_notice 65 = .ok (.goto 12, 3) := by decide +kernel
theorem dX11_notice_68 : decode cX11_notice 68 = .ok (.astore 5, 2) := by decide +kernel
theorem dX11_notice_70 : decode cX11_notice 70 = .ok (.aload_n 0, 1) := by decide +kernel
theorem dX11_notice_71 : decode cX11_notice 71 = .ok (.aload 5, 2) := by decide +kernel
theorem dX11_notice_73 : decode cX11_notice 73 = .ok (.invokevirtual 314, 3) := by decide +kernel
theorem dX11_notice_76 : decode cX11_notice 76 = .ok (.ireturn, 1) := by decide +kernel
theorem dX11_notice_77 : decode cX11_notice 77 = .ok (.aload_n 0, 1) := by decide +kernel
theorem dX11_notice_78 : decode cX11_notice 78 = .ok (.getfield 173, 3) := by decide +kernel
theorem dX11_notice_81 : decode cX11_notice 81 = .ok (.bipush 60, 2) := by decide +kernel
theorem dX11_notice_83 : decode cX11_notice 83 = .ok (.if_icmp .ne 9, 3) := by decide +kernel
theorem dX11_notice_86 : decode cX11_notice 86 = .ok (.aload_n 0, 1) := by decide +kernel
theorem dX11_notice_87 : decode cX11_notice 87 = .ok (.iconst 3, 1) := by decide +kernel
theorem dX11_notice_88 : decode cX11_notice 88 = .ok (.invokevirtual 194, 3) := by decide +kernel
theorem dX11_notice_91 : decode cX11_notice 91 = .ok (.ireturn, 1) := by decide +kernel
theorem dX11_notice_92 : decode cX11_notice 92 = .ok (.aload_n 0, 1) := by decide +kernel
theorem dX11_notice_93 : decode cX11_notice 93 = .ok (.getfield 71, 3) := by decide +kernel
theorem dX11_notice_96 : decode cX11_notice 96 = .ok (.aload_n 0, 1) := by decide +kernel
theorem dX11_notice_97 : decode cX11_notice 97 = .ok (.getfield 173, 3) := by decide +kernel
theorem dX11_notice_100 : decode cX11_notice 100 = .ok (.iload_n 1, 1) := by decide +kernel
theorem dX11_notice_101 : decode cX11_notice 101 = .ok (.iastore, 1) := by decide +kernel
theorem dX11_notice_102 : decode cX11_notice 102 = .ok (.aload_n 0, 1) := by decide +kernel
theorem dX11_notice_103 : decode cX11_notice 103 = .ok (.getfield 74, 3) := by decide +kernel
theorem dX11_notice_106 : decode cX11_notice 106 = .ok (.aload_n 0, 1) := by decide +kernel
theorem dX11_notice_107 : decode cX11_notice 107 = .ok (.getfield 173, 3) := by decide +kernel
theorem dX11_notice_110 : decode cX11_notice 110 = .ok (.iload_n 3, 1) := by decide +kernel
theorem dX11_notice_111 : decode cX11_notice 111 = .ok (.iastore, 1) := by decide +kernel
theorem dX11_notice_112 : decode cX11_notice 112 = .ok (.aload_n 0, 1) := by decide +kernel
theorem dX11_notice_113 : decode cX11_notice 113 = .ok (.getfield 77, 3) := by decide +kernel
theorem dX11_notice_116 : decode cX11_notice 116 = .ok (.aload_n 0, 1) := by decide +kernel
theorem dX11_notice_117 : decode cX11_notice 117 = .ok (.getfield 173, 3) := by decide +kernel
theorem dX11_notice_120 : decode cX11_notice 120 = .ok (.iload 4, 2) := by decide +kernel
theorem dX11_notice_122 : decode cX11_notice 122 = .ok (.iastore, 1) := by decide +kernel
theorem dX11_notice_123 : decode cX11_notice 123 = .ok (.aload_n 0, 1) := by decide +kernel
theorem dX11_notice_124 : decode cX11_notice 124 = .ok (.getfield 80, 3) := by decide +kernel
theorem dX11_notice_127 : decode cX11_notice 127 = .ok (.aload_n 0, 1) := by decide +kernel
theorem dX11_notice_128 : decode cX11_notice 128 = .ok (.getfield 173, 3) := by decide +kernel
theorem dX11_notice_131 : decode cX11_notice 131 = .ok (.iconst (-1), 1) := by decide +kernel
theorem dX11_notice_132 : decode cX11_notice 132 = .ok (.iastore, 1) := by decide +kernel
theorem dX11_notice_133 : decode cX11_notice 133 = .ok (.aload_n 0, 1) := by decide +kernel
theorem dX11_notice_134 : decode cX11_notice 134 = .ok (.getfield 83, 3) := by decide +kernel
theorem dX11_notice_137 : decode cX11_notice 137 = .ok (.aload_n 0, 1) := by decide +kernel
theorem dX11_notice_138 : decode cX11_notice 138 = .ok (.getfield 173, 3) := by decide +kernel
theorem dX11_notice_141 : decode cX11_notice 141 = .ok (.iconst 0, 1) := by decide +kernel
theorem dX11_notice_142 : decode cX11_notice 142 = .ok (.iastore, 1) := by decide +kernel
theorem dX11_notice_143 : decode cX11_notice 143 = .ok (.aload_n 0, 1) := by decide +kernel
theorem dX11_notice_144 : decode cX11_notice 144 = .ok (.getfield 86, 3) := by decide +kernel
theorem dX11_notice_147 : decode cX11_notice 147 = .ok (.aload_n 0, 1) := by decide +kernel
theorem dX11_notice_148 : decode cX11_notice 148 = .ok (.getfield 173, 3) := by decide +kernel
theorem dX11_notice_151 : decode cX11_notice 151 = .ok (.iconst (-1), 1) := by decide +kernel
theorem dX11_notice_152 : decode cX11_notice 152 = .ok (.iastore, 1) := by decide +kernel
theorem dX11_notice_153 : decode cX11_notice 153 = .ok (.aload_n 0, 1) := by decide +kernel
theorem dX11_notice_154 : decode cX11_notice 154 = .ok (.getfield 92, 3) := by decide +kernel
theorem dX11_notice_157 : decode cX11_notice 157 = .ok (.aload_n 0, 1) := by decide +kernel
theorem dX11_notice_158 : decode cX11_notice 158 = .ok (.getfield 173, 3) := by decide +kernel
theorem dX11_notice_161 : decode cX11_notice 161 = .ok (.lconst 0, 1) := by decide +kernel
theorem dX11_notice_162 : decode cX11_notice 162 = .ok (.lastore, 1) := by decide +kernel
theorem dX11_notice_163 : decode cX11_notice 163 = .ok (.aload_n 0, 1) := by decide +kernel
theorem dX11_notice_164 : decode cX11_notice 164 = .ok (.getfield 95, 3) := by decide +kernel
theorem dX11_notice_167 : decode cX11_notice 167 = .ok (.aload_n 0, 1) := by decide +kernel
theorem dX11_notice_168 : decode cX11_notice 168 = .ok (.getfield 173, 3) := by decide +kernel
theorem dX11_notice_171 : decode cX11_notice 171 = .ok (.lconst 0, 1) := by decide +kernel
theorem dX11_notice_172 : decode cX11_notice 172 = .ok (.lastore, 1) := by decide +kernel
theorem dX11_notice_173 : decode cX11_notice 173 = .ok (.aload_n 0, 1) := by decide +kernel
theorem dX11_notice_174 : decode cX11_notice 174 = .ok (.getfield 98, 3) := by decide +kernel
theorem dX11_notice_177 : decode cX11_notice 177 = .ok (.aload_n 0, 1) := by decide +kernel
theorem dX11_notice_178 : decode cX11_notice 178 = .ok (.getfield 173, 3) := by decide +kernel
theorem dX11_notice_181 : decode cX11_notice 181 = .ok (.lconst 0, 1) := by decide +kernel
theorem dX11_notice_182 : decode cX11_notice 182 = .ok (.lastore, 1) := by decide +kernel
theorem dX11_notice_183 : decode cX11_notice 183 = .ok (.aload_n 0, 1) := by decide +kernel
theorem dX11_notice_184 : decode cX11_notice 184 = .ok (.iconst 2, 1) := by decide +kernel
theorem dX11_notice_185 : decode cX11_notice 185 = .ok (.aload_n 0, 1) := by decide +kernel
theorem dX11_notice_186 : decode cX11_notice 186 = .ok (.getfield 173, 3) := by decide +kernel
theorem dX11_notice_189 : decode cX11_notice 189 = .ok (.lconst 0, 1) := by decide +kernel
theorem dX11_notice_190 : decode cX11_notice 190 = .ok (.lconst 0, 1) := by decide +kernel
theorem dX11_notice_191 : decode cX11_notice 191 = .ok (.invokevirtual 183, 3) := by decide +kernel
theorem dX11_notice_194 : decode cX11_notice 194 = .ok (.aload_n 0, 1) := by decide +kernel
theorem dX11_notice_195 : decode cX11_notice 195 = .ok (.dup, 1) := by decide +kernel
theorem dX11_notice_196 : decode cX11_notice 196 = .ok (.getfield 173, 3) := by decide +kernel
theorem dX11_notice_199 : decode cX11_notice 199 = .ok (.iconst 1, 1) := by decide +kernel
theorem dX11_notice_200 : decode cX11_notice 200 = .ok (.iadd, 1) := by decide +kernel
theorem dX11_notice_201 : decode cX11_notice 201 = .ok (.putfield 173, 3) := by decide +kernel
theorem dX11_notice_204 : decode cX11_notice 204 = .ok (.aload_n 0, 1) := by decide +kernel
theorem dX11_notice_205 : decode cX11_notice 205 = .ok (.aload_n 0, 1) := by decide +kernel
theorem dX11_notice_206 : decode cX11_notice 206 = .ok (.getfield 173, 3) := by decide +kernel
theorem dX11_notice_209 : decode cX11_notice 209 = .ok (.iconst 1, 1) := by decide +kernel
theorem dX11_notice_210 : decode cX11_notice 210 = .ok (.isub, 1) := by decide +kernel
theorem dX11_notice_211 : decode cX11_notice 211 = .ok (.invokevirtual 190, 3) := by decide +kernel
theorem dX11_notice_214 : decode cX11_notice 214 = .ok (.ireturn, 1) := by decide +kernel
theorem dX11_fault_0 : decode cX11_fault 0 = .ok (.aload_n 0, 1) := by decide +kernel
theorem dX11_fault_1 : decode cX11_fault 1 = .ok (.iconst 0, 1) := by decide +kernel
theorem dX11_fault_2 : decode cX11_fault 2 = .ok (.putfield 158, 3) := by decide +kernel
theorem dX11_fault_5 : decode cX11_fault 5 = .ok (.aload_n 0, 1) := by decide +kernel
theorem dX11_fault_6 : decode cX11_fault 6 = .ok (.getfield 267, 3) := by decide +kernel
theorem dX11_fault_9 : decode cX11_fault 9 = .ok (.ireturn, 1) := by decide +kernel
theorem dX11_where_0 : decode cX11_where 0 = .ok (.aload_n 0, 1) := by decide +kernel
theorem dX11_where_1 : decode cX11_where 1 = .ok (.iconst 0, 1) := by decide +kernel
theorem dX11_where_2 : decode cX11_where 2 = .ok (.putfield 158, 3) := by decide +kernel
theorem dX11_where_5 : decode cX11_where 5 = .ok (.aload_n 0, 1) := by decide +kernel
theorem dX11_where_6 : decode cX11_where 6 = .ok (.getfield 11, 3) := by decide +kernel
theorem dX11_where_9 : decode cX11_where 9 = .ok (.ireturn, 1) := by decide +kernel
theorem dX11_lacks_0 : decode cX11_lacks 0 = .ok (.aload_n 0, 1) := by decide +kernel
theorem dX11_lacks_1 : decode cX11_lacks 1 = .ok (.iconst 0, 1) := by decide +kernel
theorem dX11_lacks_2 : decode cX11_lacks 2 = .ok (.putfield 158, 3) := by decide +kernel
theorem dX11_lacks_5 : decode cX11_lacks 5 = .ok (.aload_n 0, 1) := by decide +kernel
theorem dX11_lacks_6 : decode cX11_lacks 6 = .ok (.getfield 15, 3) := by decide +kernel
theorem dX11_lacks_9 : decode cX11_lacks 9 = .ok (.ireturn, 1) := by decide +kernel
theorem dX11_isNotice_0 : decode cX11_isNotice 0 = .ok (.iload_n 1, 1) := by decide +kernel
theorem dX11_isNotice_1 : decode cX11_isNotice 1 = .ok (.ifCond .lt 15, 3) := by decide +kernel
theorem dX11_isNotice_4 : decode cX11_isNotice 4 = .ok (.iload_n 1, 1) := by decide +kernel
theorem dX11_isNotice_5 : decode cX11_isNotice 5 = .ok (.aload_n 0, 1) := by decide +kernel
theorem dX11_isNotice_6 : decode cX11_isNotice 6 = .ok (.getfield 173, 3) := by decide +kernel
theorem dX11_isNotice_9 : decode cX11_isNotice 9 = .ok (.if_icmp .ge 7, 3) := by decide +kernel
theorem dX11_isNotice_12 : decode cX11_isNotice 12 = .ok (.iconst 1, 1) := by decide +kernel
theorem dX11_isNotice_13 : decode cX11_isNotice 13 = .ok (.goto 4, 3) := by decide +kernel
theorem dX11_isNotice_16 : decode cX11_isNotice 16 = .ok (.iconst 0, 1) := by decide +kernel
theorem dX11_isNotice_17 : decode cX11_isNotice 17 = .ok (.ireturn, 1) := by decide +kernel
theorem dX11_spans_0 : decode cX11_spans 0 = .ok (.aload_n 0, 1) := by decide +kernel
theorem dX11_spans_1 : decode cX11_spans 1 = .ok (.getfield 71, 3) := by decide +kernel
theorem dX11_spans_4 : decode cX11_spans 4 = .ok (.iload_n 1, 1) := by decide +kernel
theorem dX11_spans_5 : decode cX11_spans 5 = .ok (.iaload, 1) := by decide +kernel
theorem dX11_spans_6 : decode cX11_spans 6 = .ok (.istore_n 2, 1) := by decide +kernel
theorem dX11_spans_7 : decode cX11_spans 7 = .ok (.iconst 0, 1) := by decide +kernel
theorem dX11_spans_8 : decode cX11_spans 8 = .ok (.istore_n 3, 1) := by decide +kernel
theorem dX11_spans_9 : decode cX11_spans 9 = .ok (.iload_n 3, 1) := by decide +kernel
theorem dX11_spans_10 : decode cX11_spans 10 = .ok (.aload_n 0, 1) := by decide +kernel
theorem dX11_spans_11 : decode cX11_spans 11 = .ok (.getfield 47, 3) := by decide +kernel
theorem dX11_spans_14 : decode cX11_spans 14 = .ok (.iload_n 2, 1) := by decide +kernel
theorem dX11_spans_15 : decode cX11_spans 15 = .ok (.iaload, 1) := by decide +kernel
theorem dX11_spans_16 : decode cX11_spans 16 = .ok (.if_icmp .ge 120, 3) := by decide +kernel
theorem dX11_spans_19 : decode cX11_spans 19 = .ok (.bipush 8, 2) := by decide +kernel
theorem dX11_spans_21 : decode cX11_spans 21 = .ok (.iload_n 2, 1) := by decide +kernel
theorem dX11_spans_22 : decode cX11_spans 22 = .ok (.imul, 1) := by decide +kernel
theorem dX11_spans_23 : decode cX11_spans 23 = .ok (.iload_n 3, 1) := by decide +kernel
theorem dX11_spans_24 : decode cX11_spans 24 = .ok (.iadd, 1) := by decide +kernel
theorem dX11_spans_25 : decode cX11_spans 25 = .ok (.istore 4, 2) := by decide +kernel
theorem dX11_spans_27 : decode cX11_spans 27 = .ok (.aload_n 0, 1) := by decide +kernel
theorem dX11_spans_28 : decode cX11_spans 28 = .ok (.getfield 50, 3) := by decide +kernel
theorem dX11_spans_31 : decode cX11_spans 31 = .ok (.iload 4, 2) := by decide +kernel
theorem dX11_spans_33 : decode cX11_spans 33 = .ok (.iaload, 1) := by decide +kernel
theorem dX11_spans_34 : decode cX11_spans 34 = .ok (.iconst 4, 1) := by decide +kernel
theorem dX11_spans_35 : decode cX11_spans 35 = .ok (.if_icmp .ge 6, 3) := by decide +kernel
theorem dX11_spans_38 : decode cX11_spans 38 = .ok (.goto 92, 3) := by decide +kernel
theorem dX11_spans_41 : decode cX11_spans 41 = .ok (.bipush 8, 2) := by decide +kernel
theorem dX11_spans_43 : decode cX11_spans 43 = .ok (.iload_n 1, 1) := by decide +kernel
theorem dX11_spans_44 : decode cX11_spans 44 = .ok (.imul, 1) := by decide +kernel
theorem dX11_spans_45 : decode cX11_spans 45 = .ok (.aload_n 0, 1) := by decide +kernel
theorem dX11_spans_46 : decode cX11_spans 46 = .ok (.getfield 56, 3) := by decide +kernel
theorem dX11_spans_49 : decode cX11_spans 49 = .ok (.iload 4, 2) := by decide +kernel
theorem dX11_spans_51 : decode cX11_spans 51 = .ok (.iaload, 1) := by decide +kernel
theorem dX11_spans_52 : decode cX11_spans 52 = .ok (.iadd, 1) := by decide +kernel
theorem dX11_spans_53 : decode cX11_spans 53 = .ok (.istore 5, 2) := by decide +kernel
theorem dX11_spans_55 : decode cX11_spans 55 = .ok (.aload_n 0, 1) := by decide +kernel
theorem dX11_spans_56 : decode cX11_spans 56 = .ok (.getfield 101, 3) := by decide +kernel
theorem dX11_spans_59 : decode cX11_spans 59 = .ok (.bipush 8, 2) := by decide +kernel
theorem dX11_spans_61 : decode cX11_spans 61 = .ok (.iload_n 1, 1) := by decide +kernel
theorem dX11_spans_62 : decode cX11_spans 62 = .ok (.imul, 1) := by decide +kernel
theorem dX11_spans_63 : decode cX11_spans 63 = .ok (.iload_n 3, 1) := by decide +kernel
theorem dX11_spans_64 : decode cX11_spans 64 = .ok (.iadd, 1) := by decide +kernel
theorem dX11_spans_65 : decode cX11_spans 65 = .ok (.aload_n 0, 1) := by decide +kernel
theorem dX11_spans_66 : decode cX11_spans 66 = .ok (.getfield 101, 3) := by decide +kernel
theorem dX11_spans_69 : decode cX11_spans 69 = .ok (.iload 5, 2) := by decide +kernel
theorem dX11_spans_71 : decode cX11_spans 71 = .ok (.baload, 1) := by decide +kernel
theorem dX11_spans_72 : decode cX11_spans 72 = .ok (.bastore, 1) := by decide +kernel
theorem dX11_spans_73 : decode cX11_spans 73 = .ok (.aload_n 0, 1) := by decide +kernel
theorem dX11_spans_74 : decode cX11_spans 74 = .ok (.getfield 101, 3) := by decide +kernel
theorem dX11_spans_77 : decode cX11_spans 77 = .ok (.iload 5, 2) := by decide +kernel
theorem dX11_spans_79 : decode cX11_spans 79 = .ok (.baload, 1) := by decide +kernel
theorem dX11_spans_80 : decode cX11_spans 80 = .ok (.ifCond .eq 50, 3) := by decide +kernel
theorem dX11_spans_83 : decode cX11_spans 83 = .ok (.aload_n 0, 1) := by decide +kernel
theorem dX11_spans_84 : decode cX11_spans 84 = .ok (.getfield 89, 3) := by decide +kernel
theorem dX11_spans_87 : decode cX11_spans 87 = .ok (.bipush 8, 2) := by decide +kernel
theorem dX11_spans_89 : decode cX11_spans 89 = .ok (.iload_n 1, 1) := by decide +kernel
theorem dX11_spans_90 : decode cX11_spans 90 = .ok (.imul, 1) := by decide +kernel
theorem dX11_spans_91 : decode cX11_spans 91 = .ok (.iload_n 3, 1) := by decide +kernel
theorem dX11_spans_92 : decode cX11_spans 92 = .ok (.iadd, 1) := by decide +kernel
theorem dX11_spans_93 : decode cX11_spans 93 = .ok (.aload_n 0, 1) := by decide +kernel
theorem dX11_spans_94 : decode cX11_spans 94 = .ok (.aload_n 0, 1) := by decide +kernel
theorem dX11_spans_95 : decode cX11_spans 95 = .ok (.getfield 89, 3) := by decide +kernel
theorem dX11_spans_98 : decode cX11_spans 98 = .ok (.iload 5, 2) := by decide +kernel
theorem dX11_spans_100 : decode cX11_spans 100 = .ok (.laload, 1) := by decide +kernel
theorem dX11_spans_101 : decode cX11_spans 101 = .ok (.l2i, 1) := by decide +kernel
theorem dX11_spans_102 : decode cX11_spans 102 = .ok (.aload_n 0, 1) := by decide +kernel
theorem dX11_spans_103 : decode cX11_spans 103 = .ok (.getfield 53, 3) := by decide +kernel
theorem dX11_spans_106 : decode cX11_spans 106 = .ok (.iload 4, 2) := by decide +kernel
theorem dX11_spans_108 : decode cX11_spans 108 = .ok (.iaload, 1) := by decide +kernel
theorem dX11_spans_109 : decode cX11_spans 109 = .ok (.aload_n 0, 1) := by decide +kernel
theorem dX11_spans_110 : decode cX11_spans 110 = .ok (.getfield 50, 3) := by decide +kernel
theorem dX11_spans_113 : decode cX11_spans 113 = .ok (.iload 4, 2) := by decide +kernel
theorem dX11_spans_115 : decode cX11_spans 115 = .ok (.iaload, 1) := by decide +kernel
theorem dX11_spans_116 : decode cX11_spans 116 = .ok (.iconst 5, 1) := by decide +kernel
theorem dX11_spans_117 : decode cX11_spans 117 = .ok (.if_icmp .ne 7, 3) := by decide +kernel
theorem dX11_spans_120 : decode cX11_spans 120 = .ok (.iconst 1, 1) := by decide +kernel
theorem dX11_spans_121 : decode cX11_spans 121 = .ok (.goto 4, 3) := by decide +kernel
theorem dX11_spans_124 : decode cX11_spans 124 = .ok (.iconst 0, 1) := by decide +kernel
theorem dX11_spans_125 : decode cX11_spans 125 = .ok (.invokevirtual 207, 3) := by decide +kernel
theorem dX11_spans_128 : decode cX11_spans 128 = .ok (.i2l, 1) := by decide +kernel
theorem dX11_spans_129 : decode cX11_spans 129 = .ok (.lastore, 1) := by decide +kernel
theorem dX11_spans_130 : decode cX11_spans 130 = .ok (.iinc 3 1, 3) := by decide +kernel
theorem dX11_spans_133 : decode cX11_spans 133 = .ok (.goto (-124), 3) := by decide +kernel
theorem dX11_spans_136 : decode cX11_spans 136 = .ok (.return_, 1) := by decide +kernel
theorem dX11_value_0 : decode cX11_value 0 = .ok (.aload_n 0, 1) := by decide +kernel
theorem dX11_value_1 : decode cX11_value 1 = .ok (.iconst 0, 1) := by decide +kernel
theorem dX11_value_2 : decode cX11_value 2 = .ok (.putfield 158, 3) := by decide +kernel
theorem dX11_value_5 : decode cX11_value 5 = .ok (.aload_n 0, 1) := by decide +kernel
theorem dX11_value_6 : decode cX11_value 6 = .ok (.iload_n 1, 1) := by decide +kernel
theorem dX11_value_7 : decode cX11_value 7 = .ok (.invokevirtual 328, 3) := by decide +kernel
theorem dX11_value_10 : decode cX11_value 10 = .ok (.ifCond .eq 22, 3) := by decide +kernel
theorem dX11_value_13 : decode cX11_value 13 = .ok (.iload_n 2, 1) := by decide +kernel
theorem dX11_value_14 : decode cX11_value 14 = .ok (.ifCond .lt 18, 3) := by decide +kernel
theorem dX11_value_17 : decode cX11_value 17 = .ok (.iload_n 2, 1) := by decide +kernel
theorem dX11_value_18 : decode cX11_value 18 = .ok (.aload_n 0, 1) := by decide +kernel
theorem dX11_value_19 : decode cX11_value 19 = .ok (.getfield 47, 3) := by decide +kernel
theorem dX11_value_22 : decode cX11_value 22 = .ok (.aload_n 0, 1) := by decide +kernel
theorem dX11_value_23 : decode cX11_value 23 = .ok (.getfield 71, 3) := by decide +kernel
theorem dX11_value_26 : decode cX11_value 26 = .ok (.iload_n 1, 1) := by decide +kernel
theorem dX11_value_27 : decode cX11_value 27 = .ok (.iaload, 1) := by decide +kernel
theorem dX11_value_28 : decode cX11_value 28 = .ok (.iaload, 1) := by decide +kernel
theorem dX11_value_29 : decode cX11_value 29 = .ok (.if_icmp .lt 7, 3) := by decide +kernel
theorem dX11_value_32 : decode cX11_value 32 = .ok (.ldc2_w 331, 3) := by decide +kernel
theorem dX11_value_35 : decode cX11_value 35 = .ok (.lreturn, 1) := by decide +kernel
theorem dX11_value_36 : decode cX11_value 36 = .ok (.aload_n 0, 1) := by decide +kernel
theorem dX11_value_37 : decode cX11_value 37 = .ok (.getfield 80, 3) := by decide +kernel
theorem dX11_value_40 : decode cX11_value 40 = .ok (.iload_n 1, 1) := by decide +kernel
theorem dX11_value_41 : decode cX11_value 41 = .ok (.iaload, 1) := by decide +kernel
theorem dX11_value_42 : decode cX11_value 42 = .ok (.iconst (-1), 1) := by decide +kernel
theorem dX11_value_43 : decode cX11_value 43 = .ok (.if_icmp .ne 8, 3) := by decide +kernel
theorem dX11_value_46 : decode cX11_value 46 = .ok (.aload_n 0, 1) := by decide +kernel
theorem dX11_value_47 : decode cX11_value 47 = .ok (.iload_n 1, 1) := by decide +kernel
theorem dX11_value_48 : decode cX11_value 48 = .ok (.invokevirtual 333, 3) := by decide +kernel
theorem dX11_value_51 : decode cX11_value 51 = .ok (.aload_n 0, 1) := by decide +kernel
theorem dX11_value_52 : decode cX11_value 52 = .ok (.getfield 101, 3) := by decide +kernel
theorem dX11_value_55 : decode cX11_value 55 = .ok (.bipush 8, 2) := by decide +kernel
theorem dX11_value_57 : decode cX11_value 57 = .ok (.iload_n 1, 1) := by decide +kernel
theorem dX11_value_58 : decode cX11_value 58 = .ok (.imul, 1) := by decide +kernel
theorem dX11_value_59 : decode cX11_value 59 = .ok (.iload_n 2, 1) := by decide +kernel
theorem dX11_value_60 : decode cX11_value 60 = .ok (.iadd, 1) := by decide +kernel
theorem dX11_value_61 : decode cX11_value 61 = .ok (.baload, 1) := by decide +kernel
theorem dX11_value_62 : decode cX11_value 62 = .ok (.ifCond .eq 17, 3) := by decide +kernel
theorem dX11_value_65 : decode cX11_value 65 = .ok (.aload_n 0, 1) := by decide +kernel
theorem dX11_value_66 : decode cX11_value 66 = .ok (.getfield 89, 3) := by decide +kernel
theorem dX11_value_69 : decode cX11_value 69 = .ok (.bipush 8, 2) := by decide +kernel
theorem dX11_value_71 : decode cX11_value 71 = .ok (.iload_n 1, 1) := by decide +kernel
theorem dX11_value_72 : decode cX11_value 72 = .ok (.imul, 1) := by decide +kernel
theorem dX11_value_73 : decode cX11_value 73 = .ok (.iload_n 2, 1) := by decide +kernel
theorem dX11_value_74 : decode cX11_value 74 = .ok (.iadd, 1) := by decide +kernel
theorem dX11_value_75 : decode cX11_value 75 = .ok (.laload, 1) := by decide +kernel
theorem dX11_value_76 : decode cX11_value 76 = .ok (.goto 6, 3) := by decide +kernel
theorem dX11_value_79 : decode cX11_value 79 = .ok (.ldc2_w 331, 3) := by decide +kernel
theorem dX11_value_82 : decode cX11_value 82 = .ok (.lreturn, 1) := by decide +kernel
theorem dX11_about_0 : decode cX11_about 0 = .ok (.aload_n 0, 1) := by decide +kernel
theorem dX11_about_1 : decode cX11_about 1 = .ok (.iconst 0, 1) := by decide +kernel
theorem dX11_about_2 : decode cX11_about 2 = .ok (.putfield 158, 3) := by decide +kernel
theorem dX11_about_5 : decode cX11_about 5 = .ok (.aload_n 0, 1) := by decide +kernel
theorem dX11_about_6 : decode cX11_about 6 = .ok (.iload_n 1, 1) := by decide +kernel
theorem dX11_about_7 : decode cX11_about 7 = .ok (.invokevirtual 328, 3) := by decide +kernel
theorem dX11_about_10 : decode cX11_about 10 = .ok (.ifCond .ne 5, 3) := by decide +kernel
theorem dX11_about_13 : decode cX11_about 13 = .ok (.iconst (-1), 1) := by decide +kernel
theorem dX11_about_14 : decode cX11_about 14 = .ok (.ireturn, 1) := by decide +kernel
theorem dX11_about_15 : decode cX11_about 15 = .ok (.iload_n 2, 1) := by decide +kernel
theorem dX11_about_16 : decode cX11_about 16 = .ok (.tableswitch 124 0 7 #[48, 55, 62, 69, 76, 83, 90, 107], 48) := by decide +kernel
theorem dX11_about_64 : decode cX11_about 64 = .ok (.aload_n 0, 1) := by decide +kernel
theorem dX11_about_65 : decode cX11_about 65 = .ok (.getfield 71, 3) := by decide +kernel
theorem dX11_about_68 : decode cX11_about 68 = .ok (.iload_n 1, 1) := by decide +kernel
theorem dX11_about_69 : decode cX11_about 69 = .ok (.iaload, 1) := by decide +kernel
theorem dX11_about_70 : decode cX11_about 70 = .ok (.ireturn, 1) := by decide +kernel
theorem dX11_about_71 : decode cX11_about 71 = .ok (.aload_n 0, 1) := by decide +kernel
theorem dX11_about_72 : decode cX11_about 72 = .ok (.getfield 74, 3) := by decide +kernel
theorem dX11_about_75 : decode cX11_about 75 = .ok (.iload_n 1, 1) := by decide +kernel
theorem dX11_about_76 : decode cX11_about 76 = .ok (.iaload, 1) := by decide +kernel
theorem dX11_about_77 : decode cX11_about 77 = .ok (.ireturn, 1) := by decide +kernel
theorem dX11_about_78 : decode cX11_about 78 = .ok (.aload_n 0, 1) := by decide +kernel
theorem dX11_about_79 : decode cX11_about 79 = .ok (.getfield 77, 3) := by decide +kernel
theorem dX11_about_82 : decode cX11_about 82 = .ok (.iload_n 1, 1) := by decide +kernel
theorem dX11_about_83 : decode cX11_about 83 = .ok (.iaload, 1) := by decide +kernel
theorem dX11_about_84 : decode cX11_about 84 = .ok (.ireturn, 1) := by decide +kernel
theorem dX11_about_85 : decode cX11_about 85 = .ok (.aload_n 0, 1) := by decide +kernel
theorem dX11_about_86 : decode cX11_about 86 = .ok (.getfield 80, 3) := by decide +kernel
theorem dX11_about_89 : decode cX11_about 89 = .ok (.iload_n 1, 1) := by decide +kernel
theorem dX11_about_90 : decode cX11_about 90 = .ok (.iaload, 1) := by decide +kernel
theorem dX11_about_91 : decode cX11_about 91 = .ok (.ireturn, 1) := by decide +kernel
theorem dX11_about_92 : decode cX11_about 92 = .ok (.aload_n 0, 1) := by decide +kernel
theorem dX11_about_93 : decode cX11_about 93 = .ok (.getfield 83, 3) := by decide +kernel
theorem dX11_about_96 : decode cX11_about 96 = .ok (.iload_n 1, 1) := by decide +kernel
theorem dX11_about_97 : decode cX11_about 97 = .ok (.iaload, 1) := by decide +kernel
theorem dX11_about_98 : decode cX11_about 98 = .ok (.ireturn, 1) := by decide +kernel
theorem dX11_about_99 : decode cX11_about 99 = .ok (.aload_n 0, 1) := by decide +kernel
theorem dX11_about_100 : decode cX11_about 100 = .ok (.getfield 86, 3) := by decide +kernel
theorem dX11_about_103 : decode cX11_about 103 = .ok (.iload_n 1, 1) := by decide +kernel
theorem dX11_about_104 : decode cX11_about 104 = .ok (.iaload, 1) := by decide +kernel
theorem dX11_about_105 : decode cX11_about 105 = .ok (.ireturn, 1) := by decide +kernel
theorem dX11_about_106 : decode cX11_about 106 = .ok (.aload_n 0, 1) := by decide +kernel
theorem dX11_about_107 : decode cX11_about 107 = .ok (.getfield 92, 3) := by decide +kernel
theorem dX11_about_110 : decode cX11_about 110 = .ok (.iload_n 1, 1) := by decide +kernel
theorem dX11_about_111 : decode cX11_about 111 = .ok (.laload, 1) := by decide +kernel
theorem dX11_about_112 : decode cX11_about 112 = .ok (.lconst 0, 1) := by decide +kernel
theorem dX11_about_113 : decode cX11_about 113 = .ok (.lcmp, 1) := by decide +kernel
theorem dX11_about_114 : decode cX11_about 114 = .ok (.ifCond .eq 7, 3) := by decide +kernel
theorem dX11_about_117 : decode cX11_about 117 = .ok (.iconst 1, 1) := by decide +kernel
theorem dX11_about_118 : decode cX11_about 118 = .ok (.goto 4, 3) := by decide +kernel
theorem dX11_about_121 : decode cX11_about 121 = .ok (.iconst 0, 1) := by decide +kernel
theorem dX11_about_122 : decode cX11_about 122 = .ok (.ireturn, 1) := by decide +kernel
theorem dX11_about_123 : decode cX11_about 123 = .ok (.aload_n 0, 1) := by decide +kernel
theorem dX11_about_124 : decode cX11_about 124 = .ok (.getfield 98, 3) := by decide +kernel
theorem dX11_about_127 : decode cX11_about 127 = .ok (.iload_n 1, 1) := by decide +kernel
theorem dX11_about_128 : decode cX11_about 128 = .ok (.laload, 1) := by decide +kernel
theorem dX11_about_129 : decode cX11_about 129 = .ok (.lconst 0, 1) := by decide +kernel
theorem dX11_about_130 : decode cX11_about 130 = .ok (.lcmp, 1) := by decide +kernel
theorem dX11_about_131 : decode cX11_about 131 = .ok (.ifCond .eq 7, 3) := by decide +kernel
theorem dX11_about_134 : decode cX11_about 134 = .ok (.iconst 1, 1) := by decide +kernel
theorem dX11_about_135 : decode cX11_about 135 = .ok (.goto 4, 3) := by decide +kernel
theorem dX11_about_138 : decode cX11_about 138 = .ok (.iconst 0, 1) := by decide +kernel
theorem dX11_about_139 : decode cX11_about 139 = .ok (.ireturn, 1) := by decide +kernel
theorem dX11_about_140 : decode cX11_about 140 = .ok (.iconst (-1), 1) := by decide +kernel
theorem dX11_about_141 : decode cX11_about 141 = .ok (.ireturn, 1) := by decide +kernel
theorem dX11_says_0 : decode cX11_says 0 = .ok (.aload_n 0, 1) := by decide +kernel
theorem dX11_says_1 : decode cX11_says 1 = .ok (.iconst 0, 1) := by decide +kernel
theorem dX11_says_2 : decode cX11_says 2 = .ok (.putfield 158, 3) := by decide +kernel
theorem dX11_says_5 : decode cX11_says 5 = .ok (.aload_n 0, 1) := by decide +kernel
theorem dX11_says_6 : decode cX11_says 6 = .ok (.iload_n 1, 1) := by decide +kernel
theorem dX11_says_7 : decode cX11_says 7 = .ok (.invokevirtual 328, 3) := by decide +kernel
theorem dX11_says_10 : decode cX11_says 10 = .ok (.ifCond .ne 9, 3) := by decide +kernel
theorem dX11_says_13 : decode cX11_says 13 = .ok (.aload_n 0, 1) := by decide +kernel
theorem dX11_says_14 : decode cX11_says 14 = .ok (.iconst 1, 1) := by decide +kernel
theorem dX11_says_15 : decode cX11_says 15 = .ok (.invokevirtual 194, 3) := by decide +kernel
theorem dX11_says_18 : decode cX11_says 18 = .ok (.ireturn, 1) := by decide +kernel
theorem dX11_says_19 : decode cX11_says 19 = .ok (.aload_n 0, 1) := by decide +kernel
theorem dX11_says_20 : decode cX11_says 20 = .ok (.getfield 80, 3) := by decide +kernel
theorem dX11_says_23 : decode cX11_says 23 = .ok (.iload_n 1, 1) := by decide +kernel
theorem dX11_says_24 : decode cX11_says 24 = .ok (.iaload, 1) := by decide +kernel
theorem dX11_says_25 : decode cX11_says 25 = .ok (.iconst (-1), 1) := by decide +kernel
theorem dX11_says_26 : decode cX11_says 26 = .ok (.if_icmp .eq 10, 3) := by decide +kernel
theorem dX11_says_29 : decode cX11_says 29 = .ok (.aload_n 0, 1) := by decide +kernel
theorem dX11_says_30 : decode cX11_says 30 = .ok (.bipush 6, 2) := by decide +kernel
theorem dX11_says_32 : decode cX11_says 32 = .ok (.invokevirtual 194, 3) := by decide +kernel
theorem dX11_says_35 : decode cX11_says 35 = .ok (.ireturn, 1) := by decide +kernel
theorem dX11_says_36 : decode cX11_says 36 = .ok (.iload_n 2, 1) := by decide +kernel
theorem dX11_says_37 : decode cX11_says 37 = .ok (.iconst 0, 1) := by decide +kernel
theorem dX11_says_38 : decode cX11_says 38 = .ok (.bipush 39, 2) := by decide +kernel
theorem dX11_says_40 : decode cX11_says 40 = .ok (.invokestatic 203, 3) := by decide +kernel
theorem dX11_says_43 : decode cX11_says 43 = .ok (.ifCond .eq 18, 3) := by decide +kernel
theorem dX11_says_46 : decode cX11_says 46 = .ok (.iload_n 3, 1) := by decide +kernel
theorem dX11_says_47 : decode cX11_says 47 = .ok (.ldc_w 336, 3) := by decide +kernel
theorem dX11_says_50 : decode cX11_says 50 = .ok (.if_icmp .eq 11, 3) := by decide +kernel
theorem dX11_says_53 : decode cX11_says 53 = .ok (.iload 4, 2) := by decide +kernel
theorem dX11_says_55 : decode cX11_says 55 = .ok (.invokestatic 176, 3) := by decide +kernel
theorem dX11_says_58 : decode cX11_says 58 = .ok (.ifCond .ne 9, 3) := by decide +kernel
theorem dX11_says_61 : decode cX11_says 61 = .ok (.aload_n 0, 1) := by decide +kernel
theorem dX11_says_62 : decode cX11_says 62 = .ok (.iconst 2, 1) := by decide +kernel
theorem dX11_says_63 : decode cX11_says 63 = .ok (.invokevirtual 194, 3) := by decide +kernel
theorem dX11_says_66 : decode cX11_says 66 = .ok (.ireturn, 1) := by decide +kernel
theorem dX11_says_67 : decode cX11_says 67 = .ok (.aload_n 0, 1) := by decide +kernel
theorem dX11_says_68 : decode cX11_says 68 = .ok (.getfield 83, 3) := by decide +kernel
theorem dX11_says_71 : decode cX11_says 71 = .ok (.iload_n 1, 1) := by decide +kernel
theorem dX11_says_72 : decode cX11_says 72 = .ok (.iaload, 1) := by decide +kernel
theorem dX11_says_73 : decode cX11_says 73 = .ok (.iconst 4, 1) := by decide +kernel
theorem dX11_says_74 : decode cX11_says 74 = .ok (.if_icmp .ne 9, 3) := by decide +kernel
theorem dX11_says_77 : decode cX11_says 77 = .ok (.aload_n 0, 1) := by decide +kernel
theorem dX11_says_78 : decode cX11_says 78 = .ok (.iconst 3, 1) := by decide +kernel
theorem dX11_says_79 : decode cX11_says 79 = .ok (.invokevirtual 194, 3) := by decide +kernel
theorem dX11_says_82 : decode cX11_says 82 = .ok (.ireturn, 1) := by decide +kernel
theorem dX11_says_83 : decode cX11_says 83 = .ok (.iconst 4, 1) := by decide +kernel
theorem dX11_says_84 : decode cX11_says 84 = .ok (.iload_n 1, 1) := by decide +kernel
theorem dX11_says_85 : decode cX11_says 85 = .ok (.imul, 1) := by decide +kernel
theorem dX11_says_86 : decode cX11_says 86 = .ok (.aload_n 0, 1) := by decide +kernel
theorem dX11_says_87 : decode cX11_says 87 = .ok (.getfield 83, 3) := by decide +kernel
theorem dX11_says_90 : decode cX11_says 90 = .ok (.iload_n 1, 1) := by decide +kernel
theorem dX11_says_91 : decode cX11_says 91 = .ok (.iaload, 1) := by decide +kernel
theorem dX11_says_92 : decode cX11_says 92 = .ok (.iadd, 1) := by decide +kernel
theorem dX11_says_93 : decode cX11_says 93 = .ok (.istore 5, 2) := by decide +kernel
theorem dX11_says_95 : decode cX11_says 95 = .ok (.aload_n 0, 1) := by decide +kernel
theorem dX11_says_96 : decode cX11_says 96 = .ok (.getfield 104, 3) := by decide +kernel
theorem dX11_says_99 : decode cX11_says 99 = .ok (.iload 5, 2) := by decide +kernel
theorem dX11_says_101 : decode cX11_says 101 = .ok (.iload_n 2, 1) := by decide +kernel
theorem dX11_says_102 : decode cX11_says 102 = .ok (.iastore, 1) := by decide +kernel
theorem dX11_says_103 : decode cX11_says 103 = .ok (.aload_n 0, 1) := by decide +kernel
theorem dX11_says_104 : decode cX11_says 104 = .ok (.getfield 107, 3) := by decide +kernel
theorem dX11_says_107 : decode cX11_says 107 = .ok (.iload 5, 2) := by decide +kernel
theorem dX11_says_109 : decode cX11_says 109 = .ok (.iload_n 3, 1) := by decide +kernel
theorem dX11_says_110 : decode cX11_says 110 = .ok (.iastore, 1) := by decide +kernel
theorem dX11_says_111 : decode cX11_says 111 = .ok (.aload_n 0, 1) := by decide +kernel
theorem dX11_says_112 : decode cX11_says 112 = .ok (.getfield 110, 3) := by decide +kernel
theorem dX11_says_115 : decode cX11_says 115 = .ok (.iload 5, 2) := by decide +kernel
theorem dX11_says_117 : decode cX11_says 117 = .ok (.iload 4, 2) := by decide +kernel
theorem dX11_says_119 : decode cX11_says 119 = .ok (.iastore, 1) := by decide +kernel
theorem dX11_says_120 : decode cX11_says 120 = .ok (.aload_n 0, 1) := by decide +kernel
theorem dX11_says_121 : decode cX11_says 121 = .ok (.iconst 3, 1) := by decide +kernel
theorem dX11_says_122 : decode cX11_says 122 = .ok (.iload_n 1, 1) := by decide +kernel
theorem dX11_says_123 : decode cX11_says 123 = .ok (.lconst 0, 1) := by decide +kernel
theorem dX11_says_124 : decode cX11_says 124 = .ok (.lconst 0, 1) := by decide +kernel
theorem dX11_says_125 : decode cX11_says 125 = .ok (.invokevirtual 183, 3) := by decide +kernel
theorem dX11_says_128 : decode cX11_says 128 = .ok (.aload_n 0, 1) := by decide +kernel
theorem dX11_says_129 : decode cX11_says 129 = .ok (.getfield 83, 3) := by decide +kernel
theorem dX11_says_132 : decode cX11_says 132 = .ok (.iload_n 1, 1) := by decide +kernel
theorem dX11_says_133 : decode cX11_says 133 = .ok (.dup2, 1) := by decide +kernel
theorem dX11_says_134 : decode cX11_says 134 = .ok (.iaload, 1) := by decide +kernel
theorem dX11_says_135 : decode cX11_says 135 = .ok (.iconst 1, 1) := by decide +kernel
theorem dX11_says_136 : decode cX11_says 136 = .ok (.iadd, 1) := by decide +kernel
theorem dX11_says_137 : decode cX11_says 137 = .ok (.iastore, 1) := by decide +kernel
theorem dX11_says_138 : decode cX11_says 138 = .ok (.aload_n 0, 1) := by decide +kernel
theorem dX11_says_139 : decode cX11_says 139 = .ok (.aload_n 0, 1) := by decide +kernel
theorem dX11_says_140 : decode cX11_says 140 = .ok (.getfield 83, 3) := by decide +kernel
theorem dX11_says_143 : decode cX11_says 143 = .ok (.iload_n 1, 1) := by decide +kernel
theorem dX11_says_144 : decode cX11_says 144 = .ok (.iaload, 1) := by decide +kernel
theorem dX11_says_145 : decode cX11_says 145 = .ok (.invokevirtual 190, 3) := by decide +kernel
theorem dX11_says_148 : decode cX11_says 148 = .ok (.ireturn, 1) := by decide +kernel
theorem dX11_waits_0 : decode cX11_waits 0 = .ok (.aload_n 0, 1) := by decide +kernel
theorem dX11_waits_1 : decode cX11_waits 1 = .ok (.iload_n 1, 1) := by decide +kernel
theorem dX11_waits_2 : decode cX11_waits 2 = .ok (.invokevirtual 328, 3) := by decide +kernel
theorem dX11_waits_5 : decode cX11_waits 5 = .ok (.ifCond .ne 9, 3) := by decide +kernel
theorem dX11_waits_8 : decode cX11_waits 8 = .ok (.aload_n 0, 1) := by decide +kernel
theorem dX11_waits_9 : decode cX11_waits 9 = .ok (.iconst 1, 1) := by decide +kernel
theorem dX11_waits_10 : decode cX11_waits 10 = .ok (.invokevirtual 180, 3) := by decide +kernel
theorem dX11_waits_13 : decode cX11_waits 13 = .ok (.ireturn, 1) := by decide +kernel
theorem dX11_waits_14 : decode cX11_waits 14 = .ok (.aload_n 0, 1) := by decide +kernel
theorem dX11_waits_15 : decode cX11_waits 15 = .ok (.getfield 80, 3) := by decide +kernel
theorem dX11_waits_18 : decode cX11_waits 18 = .ok (.iload_n 1, 1) := by decide +kernel
theorem dX11_waits_19 : decode cX11_waits 19 = .ok (.iaload, 1) := by decide +kernel
theorem dX11_waits_20 : decode cX11_waits 20 = .ok (.iconst (-1), 1) := by decide +kernel
theorem dX11_waits_21 : decode cX11_waits 21 = .ok (.if_icmp .eq 12, 3) := by decide +kernel
theorem dX11_waits_24 : decode cX11_waits 24 = .ok (.aload_n 0, 1) := by decide +kernel
theorem dX11_waits_25 : decode cX11_waits 25 = .ok (.bipush 6, 2) := by decide +kernel
theorem dX11_waits_27 : decode cX11_waits 27 = .ok (.invokevirtual 180, 3) := by decide +kernel
theorem dX11_waits_30 : decode cX11_waits 30 = .ok (.ifCond .eq 7, 3) := by decide +kernel
theorem dX11_waits_33 : decode cX11_waits 33 = .ok (.iconst 1, 1) := by decide +kernel
theorem dX11_waits_34 : decode cX11_waits 34 = .ok (.goto 4, 3) := by decide +kernel
theorem dX11_waits_37 : decode cX11_waits 37 = .ok (.iconst 0, 1) := by decide +kernel
theorem dX11_waits_38 : decode cX11_waits 38 = .ok (.ireturn, 1) := by decide +kernel
theorem dX11_granted_0 : decode cX11_granted 0 = .ok (.aload_n 0, 1) := by decide +kernel
theorem dX11_granted_1 : decode cX11_granted 1 = .ok (.iconst 0, 1) := by decide +kernel
theorem dX11_granted_2 : decode cX11_granted 2 = .ok (.putfield 161, 3) := by decide +kernel
theorem dX11_granted_5 : decode cX11_granted 5 = .ok (.aload_n 0, 1) := by decide +kernel
theorem dX11_granted_6 : decode cX11_granted 6 = .ok (.iconst (-1), 1) := by decide +kernel
theorem dX11_granted_7 : decode cX11_granted 7 = .ok (.putfield 11, 3) := by decide +kernel
theorem dX11_granted_10 : decode cX11_granted 10 = .ok (.iconst 1, 1) := by decide +kernel
theorem dX11_granted_11 : decode cX11_granted 11 = .ok (.ireturn, 1) := by decide +kernel
theorem dX11_corrects_0 : decode cX11_corrects 0 = .ok (.aload_n 0, 1) := by decide +kernel
theorem dX11_corrects_1 : decode cX11_corrects 1 = .ok (.iconst 0, 1) := by decide +kernel
theorem dX11_corrects_2 : decode cX11_corrects 2 = .ok (.putfield 158, 3) := by decide +kernel
theorem dX11_corrects_5 : decode cX11_corrects 5 = .ok (.aload_n 0, 1) := by decide +kernel
theorem dX11_corrects_6 : decode cX11_corrects 6 = .ok (.iload_n 2, 1) := by decide +kernel
theorem dX11_corrects_7 : decode cX11_corrects 7 = .ok (.invokevirtual 328, 3) := by decide +kernel
theorem dX11_corrects_10 : decode cX11_corrects 10 = .ok (.ifCond .ne 9, 3) := by decide +kernel
theorem dX11_corrects_13 : decode cX11_corrects 13 = .ok (.aload_n 0, 1) := by decide +kernel
theorem dX11_corrects_14 : decode cX11_corrects 14 = .ok (.iconst 1, 1) := by decide +kernel
theorem dX11_corrects_15 : decode cX11_corrects 15 = .ok (.invokevirtual 180, 3) := by decide +kernel
theorem dX11_corrects_18 : decode cX11_corrects 18 = .ok (.ireturn, 1) := by decide +kernel
theorem dX11_corrects_19 : decode cX11_corrects 19 = .ok (.aload_n 0, 1) := by decide +kernel
theorem dX11_corrects_20 : decode cX11_corrects 20 = .ok (.iload_n 1, 1) := by decide +kernel
theorem dX11_corrects_21 : decode cX11_corrects 21 = .ok (.invokevirtual 337, 3) := by decide +kernel
theorem dX11_corrects_24 : decode cX11_corrects 24 = .ok (.ifCond .ne 5, 3) := by decide +kernel
theorem dX11_corrects_27 : decode cX11_corrects 27 = .ok (.iconst 0, 1) := by decide +kernel
theorem dX11_corrects_28 : decode cX11_corrects 28 = .ok (.ireturn, 1) := by decide +kernel
theorem dX11_corrects_29 : decode cX11_corrects 29 = .ok (.iload_n 2, 1) := by decide +kernel
theorem dX11_corrects_30 : decode cX11_corrects 30 = .ok (.iload_n 1, 1) := by decide +kernel
theorem dX11_corrects_31 : decode cX11_corrects 31 = .ok (.if_icmp .lt 9, 3) := by decide +kernel
theorem dX11_corrects_34 : decode cX11_corrects 34 = .ok (.aload_n 0, 1) := by decide +kernel
theorem dX11_corrects_35 : decode cX11_corrects 35 = .ok (.iconst 2, 1) := by decide +kernel
theorem dX11_corrects_36 : decode cX11_corrects 36 = .ok (.invokevirtual 180, 3) := by decide +kernel
theorem dX11_corrects_39 : decode cX11_corrects 39 = .ok (.ireturn, 1) := by decide +kernel
theorem dX11_corrects_40 : decode cX11_corrects 40 = .ok (.aload_n 0, 1) := by decide +kernel
theorem dX11_corrects_41 : decode cX11_corrects 41 = .ok (.iconst 4, 1) := by decide +kernel
theorem dX11_corrects_42 : decode cX11_corrects 42 = .ok (.iload_n 1, 1) := by decide +kernel
theorem dX11_corrects_43 : decode cX11_corrects 43 = .ok (.aload_n 0, 1) := by decide +kernel
theorem dX11_corrects_44 : decode cX11_corrects 44 = .ok (.getfield 86, 3) := by decide +kernel
theorem dX11_corrects_47 : decode cX11_corrects 47 = .ok (.iload_n 1, 1) := by decide +kernel
theorem dX11_corrects_48 : decode cX11_corrects 48 = .ok (.iaload, 1) := by decide +kernel
theorem dX11_corrects_49 : decode cX11_corrects 49 = .ok (.i2l, 1) := by decide +kernel
theorem dX11_corrects_50 : decode cX11_corrects 50 = .ok (.lconst 0, 1) := by decide +kernel
theorem dX11_corrects_51 : decode cX11_corrects 51 = .ok (.invokevirtual 183, 3) := by decide +kernel
theorem dX11_corrects_54 : decode cX11_corrects 54 = .ok (.aload_n 0, 1) := by decide +kernel
theorem dX11_corrects_55 : decode cX11_corrects 55 = .ok (.getfield 86, 3) := by decide +kernel
theorem dX11_corrects_58 : decode cX11_corrects 58 = .ok (.iload_n 1, 1) := by decide +kernel
theorem dX11_corrects_59 : decode cX11_corrects 59 = .ok (.iload_n 2, 1) := by decide +kernel
theorem dX11_corrects_60 : decode cX11_corrects 60 = .ok (.iastore, 1) := by decide +kernel
theorem dX11_corrects_61 : decode cX11_corrects 61 = .ok (.aload_n 0, 1) := by decide +kernel
theorem dX11_corrects_62 : decode cX11_corrects 62 = .ok (.invokevirtual 340, 3) := by decide +kernel
theorem dX11_corrects_65 : decode cX11_corrects 65 = .ok (.ireturn, 1) := by decide +kernel
theorem dX11_isWord_0 : decode cX11_isWord 0 = .ok (.lload_n 0, 1) := by decide +kernel
theorem dX11_isWord_1 : decode cX11_isWord 1 = .ok (.lconst 0, 1) := by decide +kernel
theorem dX11_isWord_2 : decode cX11_isWord 2 = .ok (.lcmp, 1) := by decide +kernel
theorem dX11_isWord_3 : decode cX11_isWord 3 = .ok (.ifCond .le 11, 3) := by decide +kernel
theorem dX11_isWord_6 : decode cX11_isWord 6 = .ok (.lload_n 0, 1) := by decide +kernel
theorem dX11_isWord_7 : decode cX11_isWord 7 = .ok (.ldc2_w 344, 3) := by decide +kernel
theorem dX11_isWord_10 : decode cX11_isWord 10 = .ok (.lcmp, 1) := by decide +kernel
theorem dX11_isWord_11 : decode cX11_isWord 11 = .ok (.ifCond .lt 5, 3) := by decide +kernel
theorem dX11_isWord_14 : decode cX11_isWord 14 = .ok (.iconst 0, 1) := by decide +kernel
theorem dX11_isWord_15 : decode cX11_isWord 15 = .ok (.ireturn, 1) := by decide +kernel
theorem dX11_isWord_16 : decode cX11_isWord 16 = .ok (.iconst 1, 1) := by decide +kernel
theorem dX11_isWord_17 : decode cX11_isWord 17 = .ok (.istore_n 2, 1) := by decide +kernel
theorem dX11_isWord_18 : decode cX11_isWord 18 = .ok (.lload_n 0, 1) := by decide +kernel
theorem dX11_isWord_19 : decode cX11_isWord 19 = .ok (.lstore_n 3, 1) := by decide +kernel
theorem dX11_isWord_20 : decode cX11_isWord 20 = .ok (.lload_n 3, 1) := by decide +kernel
theorem dX11_isWord_21 : decode cX11_isWord 21 = .ok (.lconst 0, 1) := by decide +kernel
theorem dX11_isWord_22 : decode cX11_isWord 22 = .ok (.lcmp, 1) := by decide +kernel
theorem dX11_isWord_23 : decode cX11_isWord 23 = .ok (.ifCond .le 42, 3) := by decide +kernel
theorem dX11_isWord_26 : decode cX11_isWord 26 = .ok (.iload_n 2, 1) := by decide +kernel
theorem dX11_isWord_27 : decode cX11_isWord 27 = .ok (.ifCond .eq 29, 3) := by decide +kernel
theorem dX11_isWord_30 : decode cX11_isWord 30 = .ok (.lload_n 3, 1) := by decide +kernel
theorem dX11_isWord_31 : decode cX11_isWord 31 = .ok (.ldc2_w 346, 3) := by decide +kernel
theorem dX11_isWord_34 : decode cX11_isWord 34 = .ok (.land, 1) := by decide +kernel
theorem dX11_isWord_35 : decode cX11_isWord 35 = .ok (.lconst 0, 1) := by decide +kernel
theorem dX11_isWord_36 : decode cX11_isWord 36 = .ok (.lcmp, 1) := by decide +kernel
theorem dX11_isWord_37 : decode cX11_isWord 37 = .ok (.ifCond .le 19, 3) := by decide +kernel
theorem dX11_isWord_40 : decode cX11_isWord 40 = .ok (.lload_n 3, 1) := by decide +kernel
theorem dX11_isWord_41 : decode cX11_isWord 41 = .ok (.ldc2_w 346, 3) := by decide +kernel
theorem dX11_isWord_44 : decode cX11_isWord 44 = .ok (.land, 1) := by decide +kernel
theorem dX11_isWord_45 : decode cX11_isWord 45 = .ok (.ldc2_w 348, 3) := by decide +kernel
theorem dX11_isWord_48 : decode cX11_isWord 48 = .ok (.lcmp, 1) := by decide +kernel
theorem dX11_isWord_49 : decode cX11_isWord 49 = .ok (.ifCond .ge 7, 3) := by decide +kernel
theorem dX11_isWord_52 : decode cX11_isWord 52 = .ok (.iconst 1, 1) := by decide +kernel
theorem dX11_isWord_53 : decode cX11_isWord 53 = .ok (.goto 4, 3) := by decide +kernel
theorem dX11_isWord_56 : decode cX11_isWord 56 = .ok (.iconst 0, 1) := by decide +kernel
theorem dX11_isWord_57 : decode cX11_isWord 57 = .ok (.istore_n 2, 1) := by decide +kernel
theorem dX11_isWord_58 : decode cX11_isWord 58 = .ok (.lload_n 3, 1) := by decide +kernel
theorem dX11_isWord_59 : decode cX11_isWord 59 = .ok (.iconst 5, 1) := by decide +kernel
theorem dX11_isWord_60 : decode cX11_isWord 60 = .ok (.lshr, 1) := by decide +kernel
theorem dX11_isWord_61 : decode cX11_isWord 61 = .ok (.lstore_n 3, 1) := by decide +kernel
theorem dX11_isWord_62 : decode cX11_isWord 62 = .ok (.goto (-42), 3) := by decide +kernel
theorem dX11_isWord_65 : decode cX11_isWord 65 = .ok (.iload_n 2, 1) := by decide +kernel
theorem dX11_isWord_66 : decode cX11_isWord 66 = .ok (.ireturn, 1) := by decide +kernel
theorem dX11_renames_0 : decode cX11_renames 0 = .ok (.aload_n 0, 1) := by decide +kernel
theorem dX11_renames_1 : decode cX11_renames 1 = .ok (.iconst 0, 1) := by decide +kernel
theorem dX11_renames_2 : decode cX11_renames 2 = .ok (.putfield 158, 3) := by decide +kernel
theorem dX11_renames_5 : decode cX11_renames 5 = .ok (.aload_n 0, 1) := by decide +kernel
theorem dX11_renames_6 : decode cX11_renames 6 = .ok (.iload_n 1, 1) := by decide +kernel
theorem dX11_renames_7 : decode cX11_renames 7 = .ok (.invokevirtual 337, 3) := by decide +kernel
theorem dX11_renames_10 : decode cX11_renames 10 = .ok (.ifCond .ne 5, 3) := by decide +kernel
theorem dX11_renames_13 : decode cX11_renames 13 = .ok (.iconst 0, 1) := by decide +kernel
theorem dX11_renames_14 : decode cX11_renames 14 = .ok (.ireturn, 1) := by decide +kernel
theorem dX11_renames_15 : decode cX11_renames 15 = .ok (.lload_n 2, 1) := by decide +kernel
theorem dX11_renames_16 : decode cX11_renames 16 = .ok (.invokestatic 350, 3) := by decide +kernel
theorem dX11_renames_19 : decode cX11_renames 19 = .ok (.ifCond .eq 18, 3) := by decide +kernel
theorem dX11_renames_22 : decode cX11_renames 22 = .ok (.lload 4, 2) := by decide +kernel
theorem dX11_renames_24 : decode cX11_renames 24 = .ok (.invokestatic 350, 3) := by decide +kernel
theorem dX11_renames_27 : decode cX11_renames 27 = .ok (.ifCond .eq 10, 3) := by decide +kernel
theorem dX11_renames_30 : decode cX11_renames 30 = .ok (.lload_n 2, 1) := by decide +kernel
theorem dX11_renames_31 : decode cX11_renames 31 = .ok (.lload 4, 2) := by decide +kernel
theorem dX11_renames_33 : decode cX11_renames 33 = .ok (.lcmp, 1) := by decide +kernel
theorem dX11_renames_34 : decode cX11_renames 34 = .ok (.ifCond .ne 9, 3) := by decide +kernel
theorem dX11_renames_37 : decode cX11_renames 37 = .ok (.aload_n 0, 1) := by decide +kernel
theorem dX11_renames_38 : decode cX11_renames 38 = .ok (.iconst 2, 1) := by decide +kernel
theorem dX11_renames_39 : decode cX11_renames 39 = .ok (.invokevirtual 180, 3) := by decide +kernel
theorem dX11_renames_42 : decode cX11_renames 42 = .ok (.ireturn, 1) := by decide +kernel
theorem dX11_renames_43 : decode cX11_renames 43 = .ok (.aload_n 0, 1) := by decide +kernel
theorem dX11_renames_44 : decode cX11_renames 44 = .ok (.iconst 5, 1) := by decide +kernel
theorem dX11_renames_45 : decode cX11_renames 45 = .ok (.iload_n 1, 1) := by decide +kernel
theorem dX11_renames_46 : decode cX11_renames 46 = .ok (.aload_n 0, 1) := by decide +kernel
theorem dX11_renames_47 : decode cX11_renames 47 = .ok (.getfield 92, 3) := by decide +kernel
theorem dX11_renames_50 : decode cX11_renames 50 = .ok (.iload_n 1, 1) := by decide +kernel
theorem dX11_renames_51 : decode cX11_renames 51 = .ok (.laload, 1) := by decide +kernel
theorem dX11_renames_52 : decode cX11_renames 52 = .ok (.aload_n 0, 1) := by decide +kernel
theorem dX11_renames_53 : decode cX11_renames 53 = .ok (.getfield 95, 3) := by decide +kernel
theorem dX11_renames_56 : decode cX11_renames 56 = .ok (.iload_n 1, 1) := by decide +kernel
theorem dX11_renames_57 : decode cX11_renames 57 = .ok (.laload, 1) := by decide +kernel
theorem dX11_renames_58 : decode cX11_renames 58 = .ok (.invokevirtual 183, 3) := by decide +kernel
theorem dX11_renames_61 : decode cX11_renames 61 = .ok (.aload_n 0, 1) := by decide +kernel
theorem dX11_renames_62 : decode cX11_renames 62 = .ok (.getfield 92, 3) := by decide +kernel
theorem dX11_renames_65 : decode cX11_renames 65 = .ok (.iload_n 1, 1) := by decide +kernel
theorem dX11_renames_66 : decode cX11_renames 66 = .ok (.lload_n 2, 1) := by decide +kernel
theorem dX11_renames_67 : decode cX11_renames 67 = .ok (.lastore, 1) := by decide +kernel
theorem dX11_renames_68 : decode cX11_renames 68 = .ok (.aload_n 0, 1) := by decide +kernel
theorem dX11_renames_69 : decode cX11_renames 69 = .ok (.getfield 95, 3) := by decide +kernel
theorem dX11_renames_72 : decode cX11_renames 72 = .ok (.iload_n 1, 1) := by decide +kernel
theorem dX11_renames_73 : decode cX11_renames 73 = .ok (.lload 4, 2) := by decide +kernel
theorem dX11_renames_75 : decode cX11_renames 75 = .ok (.lastore, 1) := by decide +kernel
theorem dX11_renames_76 : decode cX11_renames 76 = .ok (.aload_n 0, 1) := by decide +kernel
theorem dX11_renames_77 : decode cX11_renames 77 = .ok (.invokevirtual 340, 3) := by decide +kernel
theorem dX11_renames_80 : decode cX11_renames 80 = .ok (.ireturn, 1) := by decide +kernel
theorem dX11_strikes_0 : decode cX11_strikes 0 = .ok (.aload_n 0, 1) := by decide +kernel
theorem dX11_strikes_1 : decode cX11_strikes 1 = .ok (.iconst 0, 1) := by decide +kernel
theorem dX11_strikes_2 : decode cX11_strikes 2 = .ok (.putfield 158, 3) := by decide +kernel
theorem dX11_strikes_5 : decode cX11_strikes 5 = .ok (.aload_n 0, 1) := by decide +kernel
theorem dX11_strikes_6 : decode cX11_strikes 6 = .ok (.iload_n 1, 1) := by decide +kernel
theorem dX11_strikes_7 : decode cX11_strikes 7 = .ok (.invokevirtual 337, 3) := by decide +kernel
theorem dX11_strikes_10 : decode cX11_strikes 10 = .ok (.ifCond .ne 5, 3) := by decide +kernel
theorem dX11_strikes_13 : decode cX11_strikes 13 = .ok (.iconst 0, 1) := by decide +kernel
theorem dX11_strikes_14 : decode cX11_strikes 14 = .ok (.ireturn, 1) := by decide +kernel
theorem dX11_strikes_15 : decode cX11_strikes 15 = .ok (.lload_n 2, 1) := by decide +kernel
theorem dX11_strikes_16 : decode cX11_strikes 16 = .ok (.invokestatic 350, 3) := by decide +kernel
theorem dX11_strikes_19 : decode cX11_strikes 19 = .ok (.ifCond .ne 9, 3) := by decide +kernel
theorem dX11_strikes_22 : decode cX11_strikes 22 = .ok (.aload_n 0, 1) := by decide +kernel
theorem dX11_strikes_23 : decode cX11_strikes 23 = .ok (.iconst 2, 1) := by decide +kernel
theorem dX11_strikes_24 : decode cX11_strikes 24 = .ok (.invokevirtual 180, 3) := by decide +kernel
theorem dX11_strikes_27 : decode cX11_strikes 27 = .ok (.ireturn, 1) := by decide +kernel
theorem dX11_strikes_28 : decode cX11_strikes 28 = .ok (.aload_n 0, 1) := by decide +kernel
theorem dX11_strikes_29 : decode cX11_strikes 29 = .ok (.bipush 6, 2) := by decide +kernel
theorem dX11_strikes_31 : decode cX11_strikes 31 = .ok (.iload_n 1, 1) := by decide +kernel
theorem dX11_strikes_32 : decode cX11_strikes 32 = .ok (.aload_n 0, 1) := by decide +kernel
theorem dX11_strikes_33 : decode cX11_strikes 33 = .ok (.getfield 98, 3) := by decide +kernel
theorem dX11_strikes_36 : decode cX11_strikes 36 = .ok (.iload_n 1, 1) := by decide +kernel
theorem dX11_strikes_37 : decode cX11_strikes 37 = .ok (.laload, 1) := by decide +kernel
theorem dX11_strikes_38 : decode cX11_strikes 38 = .ok (.lconst 0, 1) := by decide +kernel
theorem dX11_strikes_39 : decode cX11_strikes 39 = .ok (.invokevirtual 183, 3) := by decide +kernel
theorem dX11_strikes_42 : decode cX11_strikes 42 = .ok (.aload_n 0, 1) := by decide +kernel
theorem dX11_strikes_43 : decode cX11_strikes 43 = .ok (.getfield 98, 3) := by decide +kernel
theorem dX11_strikes_46 : decode cX11_strikes 46 = .ok (.iload_n 1, 1) := by decide +kernel
theorem dX11_strikes_47 : decode cX11_strikes 47 = .ok (.lload_n 2, 1) := by decide +kernel
theorem dX11_strikes_48 : decode cX11_strikes 48 = .ok (.lastore, 1) := by decide +kernel
theorem dX11_strikes_49 : decode cX11_strikes 49 = .ok (.aload_n 0, 1) := by decide +kernel
theorem dX11_strikes_50 : decode cX11_strikes 50 = .ok (.invokevirtual 340, 3) := by decide +kernel
theorem dX11_strikes_53 : decode cX11_strikes 53 = .ok (.ireturn, 1) := by decide +kernel
theorem dX11_packs_0 : decode cX11_packs 0 = .ok (.aload_n 0, 1) := by decide +kernel
theorem dX11_packs_1 : decode cX11_packs 1 = .ok (.getfield 354, 3) := by decide +kernel
theorem dX11_packs_4 : decode cX11_packs 4 = .ok (.bipush 12, 2) := by decide +kernel
theorem dX11_packs_6 : decode cX11_packs 6 = .ok (.if_icmp .eq 13, 3) := by decide +kernel
theorem dX11_packs_9 : decode cX11_packs 9 = .ok (.aload_n 0, 1) := by decide +kernel
theorem dX11_packs_10 : decode cX11_packs 10 = .ok (.getfield 74, 3) := by decide +kernel
theorem dX11_packs_13 : decode cX11_packs 13 = .ok (.iload_n 1, 1) := by decide +kernel
theorem dX11_packs_14 : decode cX11_packs 14 = .ok (.iaload, 1) := by decide +kernel
theorem dX11_packs_15 : decode cX11_packs 15 = .ok (.iload_n 3, 1) := by decide +kernel
theorem dX11_packs_16 : decode cX11_packs 16 = .ok (.if_icmp .le 5, 3) := by decide +kernel
theorem dX11_packs_19 : decode cX11_packs 19 = .ok (.iconst 0, 1) := by decide +kernel
theorem dX11_packs_20 : decode cX11_packs 20 = .ok (.ireturn, 1) := by decide +kernel
theorem dX11_packs_21 : decode cX11_packs 21 = .ok (.aload_n 0, 1) := by decide +kernel
theorem dX11_packs_22 : decode cX11_packs 22 = .ok (.getfield 131, 3) := by decide +kernel
theorem dX11_packs_25 : decode cX11_packs 25 = .ok (.aload_n 0, 1) := by decide +kernel
theorem dX11_packs_26 : decode cX11_packs 26 = .ok (.getfield 354, 3) := by decide +kernel
theorem dX11_packs_29 : decode cX11_packs 29 = .ok (.iload_n 1, 1) := by decide +kernel
theorem dX11_packs_30 : decode cX11_packs 30 = .ok (.iastore, 1) := by decide +kernel
theorem dX11_packs_31 : decode cX11_packs 31 = .ok (.iconst 1, 1) := by decide +kernel
theorem dX11_packs_32 : decode cX11_packs 32 = .ok (.aload_n 0, 1) := by decide +kernel
theorem dX11_packs_33 : decode cX11_packs 33 = .ok (.getfield 354, 3) := by decide +kernel
theorem dX11_packs_36 : decode cX11_packs 36 = .ok (.ishl, 1) := by decide +kernel
theorem dX11_packs_37 : decode cX11_packs 37 = .ok (.istore 4, 2) := by decide +kernel
theorem dX11_packs_39 : decode cX11_packs 39 = .ok (.iload 4, 2) := by decide +kernel
theorem dX11_packs_41 : decode cX11_packs 41 = .ok (.istore 5, 2) := by decide +kernel
theorem dX11_packs_43 : decode cX11_packs 43 = .ok (.iload 5, 2) := by decide +kernel
theorem dX11_packs_45 : decode cX11_packs 45 = .ok (.iconst 2, 1) := by decide +kernel
theorem dX11_packs_46 : decode cX11_packs 46 = .ok (.iload 4, 2) := by decide +kernel
theorem dX11_packs_48 : decode cX11_packs 48 = .ok (.imul, 1) := by decide +kernel
theorem dX11_packs_49 : decode cX11_packs 49 = .ok (.if_icmp .ge 205, 3) := by decide +kernel
theorem dX11_packs_52 : decode cX11_packs 52 = .ok (.aload_n 0, 1) := by decide +kernel
theorem dX11_packs_53 : decode cX11_packs 53 = .ok (.getfield 134, 3) := by decide +kernel
theorem dX11_packs_56 : decode cX11_packs 56 = .ok (.iload 5, 2) := by decide +kernel
theorem dX11_packs_58 : decode cX11_packs 58 = .ok (.bipush 13, 2) := by decide +kernel
theorem dX11_packs_60 : decode cX11_packs 60 = .ok (.iastore, 1) := by decide +kernel
theorem dX11_packs_61 : decode cX11_packs 61 = .ok (.aload_n 0, 1) := by decide +kernel
theorem dX11_packs_62 : decode cX11_packs 62 = .ok (.getfield 137, 3) := by decide +kernel
theorem dX11_packs_65 : decode cX11_packs 65 = .ok (.iload 5, 2) := by decide +kernel
theorem dX11_packs_67 : decode cX11_packs 67 = .ok (.iconst 0, 1) := by decide +kernel
theorem dX11_packs_68 : decode cX11_packs 68 = .ok (.iastore, 1) := by decide +kernel
theorem dX11_packs_69 : decode cX11_packs 69 = .ok (.iconst 0, 1) := by decide +kernel
theorem dX11_packs_70 : decode cX11_packs 70 = .ok (.istore 6, 2) := by decide +kernel
theorem dX11_packs_72 : decode cX11_packs 72 = .ok (.iload 6, 2) := by decide +kernel
theorem dX11_packs_74 : decode cX11_packs 74 = .ok (.aload_n 0, 1) := by decide +kernel
theorem dX11_packs_75 : decode cX11_packs 75 = .ok (.getfield 354, 3) := by decide +kernel
theorem dX11_packs_78 : decode cX11_packs 78 = .ok (.if_icmp .gt 170, 3) := by decide +kernel
theorem dX11_packs_81 : decode cX11_packs 81 = .ok (.iload 5, 2) := by decide +kernel
theorem dX11_packs_83 : decode cX11_packs 83 = .ok (.iload 6, 2) := by decide +kernel
theorem dX11_packs_85 : decode cX11_packs 85 = .ok (.ishr, 1) := by decide +kernel
theorem dX11_packs_86 : decode cX11_packs 86 = .ok (.iconst 1, 1) := by decide +kernel
theorem dX11_packs_87 : decode cX11_packs 87 = .ok (.iand, 1) := by decide +kernel
theorem dX11_packs_88 : decode cX11_packs 88 = .ok (.ifCond .ne 6, 3) := by decide +kernel
theorem dX11_packs_91 : decode cX11_packs 91 = .ok (.goto 151, 3) := by decide +kernel
theorem dX11_packs_94 : decode cX11_packs 94 = .ok (.iload 5, 2) := by decide +kernel
theorem dX11_packs_96 : decode cX11_packs 96 = .ok (.iconst 1, 1) := by decide +kernel
theorem dX11_packs_97 : decode cX11_packs 97 = .ok (.iload 6, 2) := by decide +kernel
theorem dX11_packs_99 : decode cX11_packs 99 = .ok (.ishl, 1) := by decide +kernel
theorem dX11_packs_100 : decode cX11_packs 100 = .ok (.isub, 1) := by decide +kernel
theorem dX11_packs_101 : decode cX11_packs 101 = .ok (.istore 7, 2) := by decide +kernel
theorem dX11_packs_103 : decode cX11_packs 103 = .ok (.iload 7, 2) := by decide +kernel
theorem dX11_packs_105 : decode cX11_packs 105 = .ok (.ifCond .eq 29, 3) := by decide +kernel
theorem dX11_packs_108 : decode cX11_packs 108 = .ok (.aload_n 0, 1) := by decide +kernel
theorem dX11_packs_109 : decode cX11_packs 109 = .ok (.getfield 137, 3) := by decide +kernel
theorem dX11_packs_112 : decode cX11_packs 112 = .ok (.iload 7, 2) := by decide +kernel
theorem dX11_packs_114 : decode cX11_packs 114 = .ok (.iaload, 1) := by decide +kernel
theorem dX11_packs_115 : decode cX11_packs 115 = .ok (.aload_n 0, 1) := by decide +kernel
theorem dX11_packs_116 : decode cX11_packs 116 = .ok (.getfield 74, 3) := by decide +kernel
theorem dX11_packs_119 : decode cX11_packs 119 = .ok (.aload_n 0, 1) := by decide +kernel
theorem dX11_packs_120 : decode cX11_packs 120 = .ok (.getfield 131, 3) := by decide +kernel
theorem dX11_packs_123 : decode cX11_packs 123 = .ok (.iload 6, 2) := by decide +kernel
theorem dX11_packs_125 : decode cX11_packs 125 = .ok (.iaload, 1) := by decide +kernel
theorem dX11_packs_126 : decode cX11_packs 126 = .ok (.iaload, 1) := by decide +kernel
theorem dX11_packs_127 : decode cX11_packs 127 = .ok (.if_icmp .lt 7, 3) := by decide +kernel
theorem dX11_packs_130 : decode cX11_packs 130 = .ok (.iconst 1, 1) := by decide +kernel
theorem dX11_packs_131 : decode cX11_packs 131 = .ok (.goto 4, 3) := by decide +kernel
theorem dX11_packs_134 : decode cX11_packs 134 = .ok (.iconst 0, 1) := by decide +kernel
theorem dX11_packs_135 : decode cX11_packs 135 = .ok (.istore 8, 2) := by decide +kernel
theorem dX11_packs_137 : decode cX11_packs 137 = .ok (.aload_n 0, 1) := by decide +kernel
theorem dX11_packs_138 : decode cX11_packs 138 = .ok (.getfield 134, 3) := by decide +kernel
theorem dX11_packs_141 : decode cX11_packs 141 = .ok (.iload 7, 2) := by decide +kernel
theorem dX11_packs_143 : decode cX11_packs 143 = .ok (.iaload, 1) := by decide +kernel
theorem dX11_packs_144 : decode cX11_packs 144 = .ok (.iload 8, 2) := by decide +kernel
theorem dX11_packs_146 : decode cX11_packs 146 = .ok (.ifCond .eq 7, 3) := by decide +kernel
theorem dX11_packs_149 : decode cX11_packs 149 = .ok (.iconst 0, 1) := by decide +kernel
theorem dX11_packs_150 : decode cX11_packs 150 = .ok (.goto 4, 3) := by decide +kernel
theorem dX11_packs_153 : decode cX11_packs 153 = .ok (.iconst 1, 1) := by decide +kernel
theorem dX11_packs_154 : decode cX11_packs 154 = .ok (.iadd, 1) := by decide +kernel
theorem dX11_packs_155 : decode cX11_packs 155 = .ok (.istore 9, 2) := by decide +kernel
theorem dX11_packs_157 : decode cX11_packs 157 = .ok (.iload 8, 2) := by decide +kernel
theorem dX11_packs_159 : decode cX11_packs 159 = .ok (.ifCond .eq 13, 3) := by decide +kernel
theorem dX11_packs_162 : decode cX11_packs 162 = .ok (.aload_n 0, 1) := by decide +kernel
theorem dX11_packs_163 : decode cX11_packs 163 = .ok (.getfield 137, 3) := by decide +kernel
theorem dX11_packs_166 : decode cX11_packs 166 = .ok (.iload 7, 2) := by decide +kernel
theorem dX11_packs_168 : decode cX11_packs 168 = .ok (.iaload, 1) := by decide +kernel
theorem dX11_packs_169 : decode cX11_packs 169 = .ok (.goto 4, 3) := by decide +kernel
theorem dX11_packs_172 : decode cX11_packs 172 = .ok (.iload_n 3, 1) := by decide +kernel
theorem dX11_packs_173 : decode cX11_packs 173 = .ok (.aload_n 0, 1) := by decide +kernel
theorem dX11_packs_174 : decode cX11_packs 174 = .ok (.getfield 74, 3) := by decide +kernel
theorem dX11_packs_177 : decode cX11_packs 177 = .ok (.aload_n 0, 1) := by decide +kernel
theorem dX11_packs_178 : decode cX11_packs 178 = .ok (.getfield 131, 3) := by decide +kernel
theorem dX11_packs_181 : decode cX11_packs 181 = .ok (.iload 6, 2) := by decide +kernel
theorem dX11_packs_183 : decode cX11_packs 183 = .ok (.iaload, 1) := by decide +kernel
theorem dX11_packs_184 : decode cX11_packs 184 = .ok (.iaload, 1) := by decide +kernel
theorem dX11_packs_185 : decode cX11_packs 185 = .ok (.isub, 1) := by decide +kernel
theorem dX11_packs_186 : decode cX11_packs 186 = .ok (.istore 10, 2) := by decide +kernel
theorem dX11_packs_188 : decode cX11_packs 188 = .ok (.iload 9, 2) := by decide +kernel
theorem dX11_packs_190 : decode cX11_packs 190 = .ok (.aload_n 0, 1) := by decide +kernel
theorem dX11_packs_191 : decode cX11_packs 191 = .ok (.getfield 134, 3) := by decide +kernel
theorem dX11_packs_194 : decode cX11_packs 194 = .ok (.iload 5, 2) := by decide +kernel
theorem dX11_packs_196 : decode cX11_packs 196 = .ok (.iaload, 1) := by decide +kernel
theorem dX11_packs_197 : decode cX11_packs 197 = .ok (.if_icmp .lt 27, 3) := by decide +kernel
theorem dX11_packs_200 : decode cX11_packs 200 = .ok (.iload 9, 2) := by decide +kernel
theorem dX11_packs_202 : decode cX11_packs 202 = .ok (.aload_n 0, 1) := by decide +kernel
theorem dX11_packs_203 : decode cX11_packs 203 = .ok (.getfield 134, 3) := by decide +kernel
theorem dX11_packs_206 : decode cX11_packs 206 = .ok (.iload 5, 2) := by decide +kernel
theorem dX11_packs_208 : decode cX11_packs 208 = .ok (.iaload, 1) := by decide +kernel
theorem dX11_packs_209 : decode cX11_packs 209 = .ok (.if_icmp .ne 33, 3) := by decide +kernel
theorem dX11_packs_212 : decode cX11_packs 212 = .ok (.iload 10, 2) := by decide +kernel
theorem dX11_packs_214 : decode cX11_packs 214 = .ok (.aload_n 0, 1) := by decide +kernel
theorem dX11_packs_215 : decode cX11_packs 215 = .ok (.getfield 137, 3) := by decide +kernel
theorem dX11_packs_218 : decode cX11_packs 218 = .ok (.iload 5, 2) := by decide +kernel
theorem dX11_packs_220 : decode cX11_packs 220 = .ok (.iaload, 1) := by decide +kernel
theorem dX11_packs_221 : decode cX11_packs 221 = .ok (.if_icmp .le 21, 3) := by decide +kernel
theorem dX11_packs_224 : decode cX11_packs 224 = .ok (.aload_n 0, 1) := by decide +kernel
theorem dX11_packs_225 : decode cX11_packs 225 = .ok (.getfield 134, 3) := by decide +kernel
theorem dX11_packs_228 : decode cX11_packs 228 = .ok (.iload 5, 2) := by decide +kernel
theorem dX11_packs_230 : decode cX11_packs 230 = .ok (.iload 9, 2) := by decide +kernel
theorem dX11_packs_232 : decode cX11_packs 232 = .ok (.iastore, 1) := by decide +kernel
theorem dX11_packs_233 : decode cX11_packs 233 = .ok (.aload_n 0, 1) := by decide +kernel
theorem dX11_packs_234 : decode cX11_packs 234 = .ok (.getfield 137, 3) := by decide +kernel
theorem dX11_packs_237 : decode cX11_packs 237 = .ok (.iload 5, 2) := by decide +kernel
theorem dX11_packs_239 : decode cX11_packs 239 = .ok (.iload 10, 2) := by decide +kernel
theorem dX11_packs_241 : decode cX11_packs 241 = .ok (.iastore, 1) := by decide +kernel
theorem dX11_packs_242 : decode cX11_packs 242 = .ok (.iinc 6 1, 3) := by decide +kernel
theorem dX11_packs_245 : decode cX11_packs 245 = .ok (.goto (-173), 3) := by decide +kernel
theorem dX11_packs_248 : decode cX11_packs 248 = .ok (.iinc 5 1, 3) := by decide +kernel
theorem dX11_packs_251 : decode cX11_packs 251 = .ok (.goto (-208), 3) := by decide +kernel
theorem dX11_packs_254 : decode cX11_packs 254 = .ok (.aload_n 0, 1) := by decide +kernel
theorem dX11_packs_255 : decode cX11_packs 255 = .ok (.getfield 134, 3) := by decide +kernel
theorem dX11_packs_258 : decode cX11_packs 258 = .ok (.iconst 2, 1) := by decide +kernel
theorem dX11_packs_259 : decode cX11_packs 259 = .ok (.iload 4, 2) := by decide +kernel
theorem dX11_packs_261 : decode cX11_packs 261 = .ok (.imul, 1) := by decide +kernel
theorem dX11_packs_262 : decode cX11_packs 262 = .ok (.iconst 1, 1) := by decide +kernel
theorem dX11_packs_263 : decode cX11_packs 263 = .ok (.isub, 1) := by decide +kernel
theorem dX11_packs_264 : decode cX11_packs 264 = .ok (.iaload, 1) := by decide +kernel
theorem dX11_packs_265 : decode cX11_packs 265 = .ok (.iload_n 2, 1) := by decide +kernel
theorem dX11_packs_266 : decode cX11_packs 266 = .ok (.if_icmp .le 5, 3) := by decide +kernel
theorem dX11_packs_269 : decode cX11_packs 269 = .ok (.iconst 0, 1) := by decide +kernel
theorem dX11_packs_270 : decode cX11_packs 270 = .ok (.ireturn, 1) := by decide +kernel
theorem dX11_packs_271 : decode cX11_packs 271 = .ok (.aload_n 0, 1) := by decide +kernel
theorem dX11_packs_272 : decode cX11_packs 272 = .ok (.dup, 1) := by decide +kernel
theorem dX11_packs_273 : decode cX11_packs 273 = .ok (.getfield 354, 3) := by decide +kernel
theorem dX11_packs_276 : decode cX11_packs 276 = .ok (.iconst 1, 1) := by decide +kernel
theorem dX11_packs_277 : decode cX11_packs 277 = .ok (.iadd, 1) := by decide +kernel
theorem dX11_packs_278 : decode cX11_packs 278 = .ok (.putfield 354, 3) := by decide +kernel
theorem dX11_packs_281 : decode cX11_packs 281 = .ok (.iconst 1, 1) := by decide +kernel
theorem dX11_packs_282 : decode cX11_packs 282 = .ok (.ireturn, 1) := by decide +kernel
theorem dX11_issue_0 : decode cX11_issue 0 = .ok (.aload_n 0, 1) := by decide +kernel
theorem dX11_issue_1 : decode cX11_issue 1 = .ok (.iconst 0, 1) := by decide +kernel
theorem dX11_issue_2 : decode cX11_issue 2 = .ok (.putfield 158, 3) := by decide +kernel
theorem dX11_issue_5 : decode cX11_issue 5 = .ok (.iload_n 1, 1) := by decide +kernel
theorem dX11_issue_6 : decode cX11_issue 6 = .ok (.invokestatic 176, 3) := by decide +kernel
theorem dX11_issue_9 : decode cX11_issue 9 = .ok (.ifCond .eq 45, 3) := by decide +kernel
theorem dX11_issue_12 : decode cX11_issue 12 = .ok (.iload_n 1, 1) := by decide +kernel
theorem dX11_issue_13 : decode cX11_issue 13 = .ok (.aload_n 0, 1) := by decide +kernel
theorem dX11_issue_14 : decode cX11_issue 14 = .ok (.getfield 68, 3) := by decide +kernel
theorem dX11_issue_17 : decode cX11_issue 17 = .ok (.if_icmp .le 37, 3) := by decide +kernel
theorem dX11_issue_20 : decode cX11_issue 20 = .ok (.iload_n 2, 1) := by decide +kernel
theorem dX11_issue_21 : decode cX11_issue 21 = .ok (.iload_n 1, 1) := by decide +kernel
theorem dX11_issue_22 : decode cX11_issue 22 = .ok (.if_icmp .le 32, 3) := by decide +kernel
theorem dX11_issue_25 : decode cX11_issue 25 = .ok (.iload_n 2, 1) := by decide +kernel
theorem dX11_issue_26 : decode cX11_issue 26 = .ok (.sipush 10000, 3) := by decide +kernel
theorem dX11_issue_29 : decode cX11_issue 29 = .ok (.if_icmp .gt 25, 3) := by decide +kernel
theorem dX11_issue_32 : decode cX11_issue 32 = .ok (.iload_n 3, 1) := by decide +kernel
theorem dX11_issue_33 : decode cX11_issue 33 = .ok (.iconst 1, 1) := by decide +kernel
theorem dX11_issue_34 : decode cX11_issue 34 = .ok (.bipush 8, 2) := by decide +kernel
theorem dX11_issue_36 : decode cX11_issue 36 = .ok (.invokestatic 203, 3) := by decide +kernel
theorem dX11_issue_39 : decode cX11_issue 39 = .ok (.ifCond .eq 15, 3) := by decide +kernel
theorem dX11_issue_42 : decode cX11_issue 42 = .ok (.iload 4, 2) := by decide +kernel
theorem dX11_issue_44 : decode cX11_issue 44 = .ok (.bipush 10, 2) := by decide +kernel
theorem dX11_issue_46 : decode cX11_issue 46 = .ok (.bipush 60, 2) := by decide +kernel
theorem dX11_issue_48 : decode cX11_issue 48 = .ok (.invokestatic 203, 3) := by decide +kernel
theorem dX11_issue_51 : decode cX11_issue 51 = .ok (.ifCond .ne 9, 3) := by decide +kernel
theorem dX11_issue_54 : decode cX11_issue 54 = .ok (.aload_n 0, 1) := by decide +kernel
theorem dX11_issue_55 : decode cX11_issue 55 = .ok (.iconst 2, 1) := by decide +kernel
theorem dX11_issue_56 : decode cX11_issue 56 = .ok (.invokevirtual 194, 3) := by decide +kernel
theorem dX11_issue_59 : decode cX11_issue 59 = .ok (.ireturn, 1) := by decide +kernel
theorem dX11_issue_60 : decode cX11_issue 60 = .ok (.aload_n 0, 1) := by decide +kernel
theorem dX11_issue_61 : decode cX11_issue 61 = .ok (.getfield 357, 3) := by decide +kernel
theorem dX11_issue_64 : decode cX11_issue 64 = .ok (.bipush 40, 2) := by decide +kernel
theorem dX11_issue_66 : decode cX11_issue 66 = .ok (.if_icmp .ne 9, 3) := by decide +kernel
theorem dX11_issue_69 : decode cX11_issue 69 = .ok (.aload_n 0, 1) := by decide +kernel
theorem dX11_issue_70 : decode cX11_issue 70 = .ok (.iconst 3, 1) := by decide +kernel
theorem dX11_issue_71 : decode cX11_issue 71 = .ok (.invokevirtual 194, 3) := by decide +kernel
theorem dX11_issue_74 : decode cX11_issue 74 = .ok (.ireturn, 1) := by decide +kernel
theorem dX11_issue_75 : decode cX11_issue 75 = .ok (.aload_n 0, 1) := by decide +kernel
theorem dX11_issue_76 : decode cX11_issue 76 = .ok (.iconst 0, 1) := by decide +kernel
theorem dX11_issue_77 : decode cX11_issue 77 = .ok (.putfield 354, 3) := by decide +kernel
theorem dX11_issue_80 : decode cX11_issue 80 = .ok (.aload_n 0, 1) := by decide +kernel
theorem dX11_issue_81 : decode cX11_issue 81 = .ok (.getfield 134, 3) := by decide +kernel
theorem dX11_issue_84 : decode cX11_issue 84 = .ok (.iconst 0, 1) := by decide +kernel
theorem dX11_issue_85 : decode cX11_issue 85 = .ok (.iconst 0, 1) := by decide +kernel
theorem dX11_issue_86 : decode cX11_issue 86 = .ok (.iastore, 1) := by decide +kernel
theorem dX11_issue_87 : decode cX11_issue 87 = .ok (.aload_n 0, 1) := by decide +kernel
theorem dX11_issue_88 : decode cX11_issue 88 = .ok (.getfield 137, 3) := by decide +kernel
theorem dX11_issue_91 : decode cX11_issue 91 = .ok (.iconst 0, 1) := by decide +kernel
theorem dX11_issue_92 : decode cX11_issue 92 = .ok (.iconst 0, 1) := by decide +kernel
theorem dX11_issue_93 : decode cX11_issue 93 = .ok (.iastore, 1) := by decide +kernel
theorem dX11_issue_94 : decode cX11_issue 94 = .ok (.bipush 60, 2) := by decide +kernel
theorem dX11_issue_96 : decode cX11_issue 96 = .ok (.newarray .boolean, 2) := by decide +kernel
theorem dX11_issue_98 : decode cX11_issue 98 = .ok (.astore 5, 2) := by decide +kernel
theorem dX11_issue_100 : decode cX11_issue 100 = .ok (.iconst 0, 1) := by decide +kernel
theorem dX11_issue_101 : decode cX11_issue 101 = .ok (.istore 6, 2) := by decide +kernel
theorem dX11_issue_103 : decode cX11_issue 103 = .ok (.iload 6, 2) := by decide +kernel
theorem dX11_issue_105 : decode cX11_issue 105 = .ok (.aload_n 0, 1) := by decide +kernel
theorem dX11_issue_106 : decode cX11_issue 106 = .ok (.getfield 173, 3) := by decide +kernel
theorem dX11_issue_109 : decode cX11_issue 109 = .ok (.if_icmp .ge 76, 3) := by decide +kernel
theorem dX11_issue_112 : decode cX11_issue 112 = .ok (.aload 5, 2) := by decide +kernel
theorem dX11_issue_114 : decode cX11_issue 114 = .ok (.iload 6, 2) := by decide +kernel
theorem dX11_issue_116 : decode cX11_issue 116 = .ok (.aload_n 0, 1) := by decide +kernel
theorem dX11_issue_117 : decode cX11_issue 117 = .ok (.getfield 80, 3) := by decide +kernel
theorem dX11_issue_120 : decode cX11_issue 120 = .ok (.iload 6, 2) := by decide +kernel
theorem dX11_issue_122 : decode cX11_issue 122 = .ok (.iaload, 1) := by decide +kernel
theorem dX11_issue_123 : decode cX11_issue 123 = .ok (.iconst (-1), 1) := by decide +kernel
theorem dX11_issue_124 : decode cX11_issue 124 = .ok (.if_icmp .eq 7, 3) := by decide +kernel
theorem dX11_issue_127 : decode cX11_issue 127 = .ok (.iconst 1, 1) := by decide +kernel
theorem dX11_issue_128 : decode cX11_issue 128 = .ok (.goto 4, 3) := by decide +kernel
theorem dX11_issue_131 : decode cX11_issue 131 = .ok (.iconst 0, 1) := by decide +kernel
theorem dX11_issue_132 : decode cX11_issue 132 = .ok (.bastore, 1) := by decide +kernel
theorem dX11_issue_133 : decode cX11_issue 133 = .ok (.aload 5, 2) := by decide +kernel
theorem dX11_issue_135 : decode cX11_issue 135 = .ok (.iload 6, 2) := by decide +kernel
theorem dX11_issue_137 : decode cX11_issue 137 = .ok (.baload, 1) := by decide +kernel
theorem dX11_issue_138 : decode cX11_issue 138 = .ok (.ifCond .ne 41, 3) := by decide +kernel
theorem dX11_issue_141 : decode cX11_issue 141 = .ok (.aload_n 0, 1) := by decide +kernel
theorem dX11_issue_142 : decode cX11_issue 142 = .ok (.getfield 77, 3) := by decide +kernel
theorem dX11_issue_145 : decode cX11_issue 145 = .ok (.iload 6, 2) := by decide +kernel
theorem dX11_issue_147 : decode cX11_issue 147 = .ok (.iaload, 1) := by decide +kernel
theorem dX11_issue_148 : decode cX11_issue 148 = .ok (.iload_n 2, 1) := by decide +kernel
theorem dX11_issue_149 : decode cX11_issue 149 = .ok (.if_icmp .lt 6, 3) := by decide +kernel
theorem dX11_issue_152 : decode cX11_issue 152 = .ok (.goto 27, 3) := by decide +kernel
theorem dX11_issue_155 : decode cX11_issue 155 = .ok (.aload 5, 2) := by decide +kernel
theorem dX11_issue_157 : decode cX11_issue 157 = .ok (.iload 6, 2) := by decide +kernel
theorem dX11_issue_159 : decode cX11_issue 159 = .ok (.iconst 1, 1) := by decide +kernel
theorem dX11_issue_160 : decode cX11_issue 160 = .ok (.bastore, 1) := by decide +kernel
theorem dX11_issue_161 : decode cX11_issue 161 = .ok (.aload_n 0, 1) := by decide +kernel
theorem dX11_issue_162 : decode cX11_issue 162 = .ok (.iload 6, 2) := by decide +kernel
theorem dX11_issue_164 : decode cX11_issue 164 = .ok (.iload_n 3, 1) := by decide +kernel
theorem dX11_issue_165 : decode cX11_issue 165 = .ok (.iload 4, 2) := by decide +kernel
theorem dX11_issue_167 : decode cX11_issue 167 = .ok (.invokevirtual 360, 3) := by decide +kernel
theorem dX11_issue_170 : decode cX11_issue 170 = .ok (.ifCond .ne 9, 3) := by decide +kernel
theorem dX11_issue_173 : decode cX11_issue 173 = .ok (.aload_n 0, 1) := by decide +kernel
theorem dX11_issue_174 : decode cX11_issue 174 = .ok (.iconst 5, 1) := by decide +kernel
theorem dX11_issue_175 : decode cX11_issue 175 = .ok (.invokevirtual 194, 3) := by decide +kernel
theorem dX11_issue_178 : decode cX11_issue 178 = .ok (.ireturn, 1) := by decide +kernel
theorem dX11_issue_179 : decode cX11_issue 179 = .ok (.iinc 6 1, 3) := by decide +kernel
theorem dX11_issue_182 : decode cX11_issue 182 = .ok (.goto (-79), 3) := by decide +kernel
theorem dX11_issue_185 : decode cX11_issue 185 = .ok (.iconst 1, 1) := by decide +kernel
theorem dX11_issue_186 : decode cX11_issue 186 = .ok (.istore 6, 2) := by decide +kernel
theorem dX11_issue_188 : decode cX11_issue 188 = .ok (.iload 6, 2) := by decide +kernel
theorem dX11_issue_190 : decode cX11_issue 190 = .ok (.ifCond .eq 100, 3) := by decide +kernel
theorem dX11_issue_193 : decode cX11_issue 193 = .ok (.iconst (-1), 1) := by decide +kernel
theorem dX11_issue_194 : decode cX11_issue 194 = .ok (.istore 7, 2) := by decide +kernel
theorem dX11_issue_196 : decode cX11_issue 196 = .ok (.iconst 0, 1) := by decide +kernel
theorem dX11_issue_197 : decode cX11_issue 197 = .ok (.istore 8, 2) := by decide +kernel
theorem dX11_issue_199 : decode cX11_issue 199 = .ok (.iload 8, 2) := by decide +kernel
theorem dX11_issue_201 : decode cX11_issue 201 = .ok (.aload_n 0, 1) := by decide +kernel
theorem dX11_issue_202 : decode cX11_issue 202 = .ok (.getfield 173, 3) := by decide +kernel
theorem dX11_issue_205 : decode cX11_issue 205 = .ok (.if_icmp .ge 44, 3) := by decide +kernel
theorem dX11_issue_208 : decode cX11_issue 208 = .ok (.aload 5, 2) := by decide +kernel
theorem dX11_issue_210 : decode cX11_issue 210 = .ok (.iload 8, 2) := by decide +kernel
theorem dX11_issue_212 : decode cX11_issue 212 = .ok (.baload, 1) := by decide +kernel
theorem dX11_issue_213 : decode cX11_issue 213 = .ok (.ifCond .ne 30, 3) := by decide +kernel
theorem dX11_issue_216 : decode cX11_issue 216 = .ok (.iload 7, 2) := by decide +kernel
theorem dX11_issue_218 : decode cX11_issue 218 = .ok (.iconst (-1), 1) := by decide +kernel
theorem dX11_issue_219 : decode cX11_issue 219 = .ok (.if_icmp .eq 20, 3) := by decide +kernel
theorem dX11_issue_222 : decode cX11_issue 222 = .ok (.aload_n 0, 1) := by decide +kernel
theorem dX11_issue_223 : decode cX11_issue 223 = .ok (.getfield 77, 3) := by decide +kernel
theorem dX11_issue_226 : decode cX11_issue 226 = .ok (.iload 8, 2) := by decide +kernel
theorem dX11_issue_228 : decode cX11_issue 228 = .ok (.iaload, 1) := by decide +kernel
theorem dX11_issue_229 : decode cX11_issue 229 = .ok (.aload_n 0, 1) := by decide +kernel
theorem dX11_issue_230 : decode cX11_issue 230 = .ok (.getfield 77, 3) := by decide +kernel
theorem dX11_issue_233 : decode cX11_issue 233 = .ok (.iload 7, 2) := by decide +kernel
theorem dX11_issue_235 : decode cX11_issue 235 = .ok (.iaload, 1) := by decide +kernel
theorem dX11_issue_236 : decode cX11_issue 236 = .ok (.if_icmp .ge 7, 3) := by decide +kernel
theorem dX11_issue_239 : decode cX11_issue 239 = .ok (.iload 8, 2) := by decide +kernel
theorem dX11_issue_241 : decode cX11_issue 241 = .ok (.istore 7, 2) := by decide +kernel
theorem dX11_issue_243 : decode cX11_issue 243 = .ok (.iinc 8 1, 3) := by decide +kernel
theorem dX11_issue_246 : decode cX11_issue 246 = .ok (.goto (-47), 3) := by decide +kernel
theorem dX11_issue_249 : decode cX11_issue 249 = .ok (.iload 7, 2) := by decide +kernel
theorem dX11_issue_251 : decode cX11_issue 251 = .ok (.iconst (-1), 1) := by decide +kernel
theorem dX11_issue_252 : decode cX11_issue 252 = .ok (.if_icmp .eq 7, 3) := by decide +kernel
theorem dX11_issue_255 : decode cX11_issue 255 = .ok (.iconst 1, 1) := by decide +kernel
theorem dX11_issue_256 : decode cX11_issue 256 = .ok (.goto 4, 3) := by decide +kernel
theorem dX11_issue_259 : decode cX11_issue 259 = .ok (.iconst 0, 1) := by decide +kernel
theorem dX11_issue_260 : decode cX11_issue 260 = .ok (.istore 6, 2) := by decide +kernel
theorem dX11_issue_262 : decode cX11_issue 262 = .ok (.iload 6, 2) := by decide +kernel
theorem dX11_issue_264 : decode cX11_issue 264 = .ok (.ifCond .ne 6, 3) := by decide +kernel
theorem dX11_issue_267 : decode cX11_issue 267 = .ok (.goto (-79), 3) := by decide +kernel
theorem dX11_issue_270 : decode cX11_issue 270 = .ok (.aload 5, 2) := by decide +kernel
theorem dX11_issue_272 : decode cX11_issue 272 = .ok (.iload 7, 2) := by decide +kernel
theorem dX11_issue_274 : decode cX11_issue 274 = .ok (.iconst 1, 1) := by decide +kernel
theorem dX11_issue_275 : decode cX11_issue 275 = .ok (.bastore, 1) := by decide +kernel
theorem dX11_issue_276 : decode cX11_issue 276 = .ok (.aload_n 0, 1) := by decide +kernel
theorem dX11_issue_277 : decode cX11_issue 277 = .ok (.iload 7, 2) := by decide +kernel
theorem dX11_issue_279 : decode cX11_issue 279 = .ok (.iload_n 3, 1) := by decide +kernel
theorem dX11_issue_280 : decode cX11_issue 280 = .ok (.iload 4, 2) := by decide +kernel
theorem dX11_issue_282 : decode cX11_issue 282 = .ok (.invokevirtual 360, 3) := by decide +kernel
theorem dX11_issue_285 : decode cX11_issue 285 = .ok (.istore 8, 2) := by decide +kernel
theorem dX11_issue_287 : decode cX11_issue 287 = .ok (.goto (-99), 3) := by decide +kernel
theorem dX11_issue_290 : decode cX11_issue 290 = .ok (.aload_n 0, 1) := by decide +kernel
theorem dX11_issue_291 : decode cX11_issue 291 = .ok (.getfield 357, 3) := by decide +kernel
theorem dX11_issue_294 : decode cX11_issue 294 = .ok (.istore 7, 2) := by decide +kernel
theorem dX11_issue_296 : decode cX11_issue 296 = .ok (.aload_n 0, 1) := by decide +kernel
theorem dX11_issue_297 : decode cX11_issue 297 = .ok (.dup, 1) := by decide +kernel
theorem dX11_issue_298 : decode cX11_issue 298 = .ok (.getfield 357, 3) := by decide +kernel
theorem dX11_issue_301 : decode cX11_issue 301 = .ok (.iconst 1, 1) := by decide +kernel
theorem dX11_issue_302 : decode cX11_issue 302 = .ok (.iadd, 1) := by decide +kernel
theorem dX11_issue_303 : decode cX11_issue 303 = .ok (.putfield 357, 3) := by decide +kernel
theorem dX11_issue_306 : decode cX11_issue 306 = .ok (.aload_n 0, 1) := by decide +kernel
theorem dX11_issue_307 : decode cX11_issue 307 = .ok (.iload_n 1, 1) := by decide +kernel
theorem dX11_issue_308 : decode cX11_issue 308 = .ok (.putfield 68, 3) := by decide +kernel
theorem dX11_issue_311 : decode cX11_issue 311 = .ok (.aload_n 0, 1) := by decide +kernel
theorem dX11_issue_312 : decode cX11_issue 312 = .ok (.getfield 113, 3) := by decide +kernel
theorem dX11_issue_315 : decode cX11_issue 315 = .ok (.iload 7, 2) := by decide +kernel
theorem dX11_issue_317 : decode cX11_issue 317 = .ok (.iload_n 1, 1) := by decide +kernel
theorem dX11_issue_318 : decode cX11_issue 318 = .ok (.iastore, 1) := by decide +kernel
theorem dX11_issue_319 : decode cX11_issue 319 = .ok (.aload_n 0, 1) := by decide +kernel
theorem dX11_issue_320 : decode cX11_issue 320 = .ok (.getfield 116, 3) := by decide +kernel
theorem dX11_issue_323 : decode cX11_issue 323 = .ok (.iload 7, 2) := by decide +kernel
theorem dX11_issue_325 : decode cX11_issue 325 = .ok (.aload_n 0, 1) := by decide +kernel
theorem dX11_issue_326 : decode cX11_issue 326 = .ok (.getfield 354, 3) := by decide +kernel
theorem dX11_issue_329 : decode cX11_issue 329 = .ok (.iastore, 1) := by decide +kernel
theorem dX11_issue_330 : decode cX11_issue 330 = .ok (.aload_n 0, 1) := by decide +kernel
theorem dX11_issue_331 : decode cX11_issue 331 = .ok (.getfield 119, 3) := by decide +kernel
theorem dX11_issue_334 : decode cX11_issue 334 = .ok (.iload 7, 2) := by decide +kernel
theorem dX11_issue_336 : decode cX11_issue 336 = .ok (.aload_n 0, 1) := by decide +kernel
theorem dX11_issue_337 : decode cX11_issue 337 = .ok (.getfield 134, 3) := by decide +kernel
theorem dX11_issue_340 : decode cX11_issue 340 = .ok (.iconst 1, 1) := by decide +kernel
theorem dX11_issue_341 : decode cX11_issue 341 = .ok (.aload_n 0, 1) := by decide +kernel
theorem dX11_issue_342 : decode cX11_issue 342 = .ok (.getfield 354, 3) := by decide +kernel
theorem dX11_issue_345 : decode cX11_issue 345 = .ok (.ishl, 1) := by decide +kernel
theorem dX11_issue_346 : decode cX11_issue 346 = .ok (.iconst 1, 1) := by decide +kernel
theorem dX11_issue_347 : decode cX11_issue 347 = .ok (.isub, 1) := by decide +kernel
theorem dX11_issue_348 : decode cX11_issue 348 = .ok (.iaload, 1) := by decide +kernel
theorem dX11_issue_349 : decode cX11_issue 349 = .ok (.iastore, 1) := by decide +kernel
theorem dX11_issue_350 : decode cX11_issue 350 = .ok (.aload_n 0, 1) := by decide +kernel
theorem dX11_issue_351 : decode cX11_issue 351 = .ok (.getfield 122, 3) := by decide +kernel
theorem dX11_issue_354 : decode cX11_issue 354 = .ok (.iload 7, 2) := by decide +kernel
theorem dX11_issue_356 : decode cX11_issue 356 = .ok (.iconst 0, 1) := by decide +kernel
theorem dX11_issue_357 : decode cX11_issue 357 = .ok (.iastore, 1) := by decide +kernel
theorem dX11_issue_358 : decode cX11_issue 358 = .ok (.iconst 0, 1) := by decide +kernel
theorem dX11_issue_359 : decode cX11_issue 359 = .ok (.istore 8, 2) := by decide +kernel
theorem dX11_issue_361 : decode cX11_issue 361 = .ok (.iload 8, 2) := by decide +kernel
theorem dX11_issue_363 : decode cX11_issue 363 = .ok (.aload_n 0, 1) := by decide +kernel
theorem dX11_issue_364 : decode cX11_issue 364 = .ok (.getfield 354, 3) := by decide +kernel
theorem dX11_issue_367 : decode cX11_issue 367 = .ok (.if_icmp .ge 59, 3) := by decide +kernel
theorem dX11_issue_370 : decode cX11_issue 370 = .ok (.aload_n 0, 1) := by decide +kernel
theorem dX11_issue_371 : decode cX11_issue 371 = .ok (.getfield 131, 3) := by decide +kernel
theorem dX11_issue_374 : decode cX11_issue 374 = .ok (.iload 8, 2) := by decide +kernel
theorem dX11_issue_376 : decode cX11_issue 376 = .ok (.iaload, 1) := by decide +kernel
theorem dX11_issue_377 : decode cX11_issue 377 = .ok (.istore 9, 2) := by decide +kernel
theorem dX11_issue_379 : decode cX11_issue 379 = .ok (.aload_n 0, 1) := by decide +kernel
theorem dX11_issue_380 : decode cX11_issue 380 = .ok (.iload 9, 2) := by decide +kernel
theorem dX11_issue_382 : decode cX11_issue 382 = .ok (.invokevirtual 333, 3) := by decide +kernel
theorem dX11_issue_385 : decode cX11_issue 385 = .ok (.aload_n 0, 1) := by decide +kernel
theorem dX11_issue_386 : decode cX11_issue 386 = .ok (.getfield 80, 3) := by decide +kernel
theorem dX11_issue_389 : decode cX11_issue 389 = .ok (.iload 9, 2) := by decide +kernel
theorem dX11_issue_391 : decode cX11_issue 391 = .ok (.iload 7, 2) := by decide +kernel
theorem dX11_issue_393 : decode cX11_issue 393 = .ok (.iastore, 1) := by decide +kernel
theorem dX11_issue_394 : decode cX11_issue 394 = .ok (.aload_n 0, 1) := by decide +kernel
theorem dX11_issue_395 : decode cX11_issue 395 = .ok (.getfield 122, 3) := by decide +kernel
theorem dX11_issue_398 : decode cX11_issue 398 = .ok (.iload 7, 2) := by decide +kernel
theorem dX11_issue_400 : decode cX11_issue 400 = .ok (.dup2, 1) := by decide +kernel
theorem dX11_issue_401 : decode cX11_issue 401 = .ok (.iaload, 1) := by decide +kernel
theorem dX11_issue_402 : decode cX11_issue 402 = .ok (.aload_n 0, 1) := by decide +kernel
theorem dX11_issue_403 : decode cX11_issue 403 = .ok (.getfield 77, 3) := by decide +kernel
theorem dX11_issue_406 : decode cX11_issue 406 = .ok (.iload 9, 2) := by decide +kernel
theorem dX11_issue_408 : decode cX11_issue 408 = .ok (.iaload, 1) := by decide +kernel
theorem dX11_issue_409 : decode cX11_issue 409 = .ok (.iload_n 1, 1) := by decide +kernel
theorem dX11_issue_410 : decode cX11_issue 410 = .ok (.if_icmp .ge 7, 3) := by decide +kernel
theorem dX11_issue_413 : decode cX11_issue 413 = .ok (.iconst 1, 1) := by decide +kernel
theorem dX11_issue_414 : decode cX11_issue 414 = .ok (.goto 4, 3) := by decide +kernel
theorem dX11_issue_417 : decode cX11_issue 417 = .ok (.iconst 0, 1) := by decide +kernel
theorem dX11_issue_418 : decode cX11_issue 418 = .ok (.iadd, 1) := by decide +kernel
theorem dX11_issue_419 : decode cX11_issue 419 = .ok (.iastore, 1) := by decide +kernel
theorem dX11_issue_420 : decode cX11_issue 420 = .ok (.iinc 8 1, 3) := by decide +kernel
theorem dX11_issue_423 : decode cX11_issue 423 = .ok (.goto (-62), 3) := by decide +kernel
theorem dX11_issue_426 : decode cX11_issue 426 = .ok (.iconst 0, 1) := by decide +kernel
theorem dX11_issue_427 : decode cX11_issue 427 = .ok (.istore 8, 2) := by decide +kernel
theorem dX11_issue_429 : decode cX11_issue 429 = .ok (.iconst 0, 1) := by decide +kernel
theorem dX11_issue_430 : decode cX11_issue 430 = .ok (.istore 9, 2) := by decide +kernel
theorem dX11_issue_432 : decode cX11_issue 432 = .ok (.iload 9, 2) := by decide +kernel
theorem dX11_issue_434 : decode cX11_issue 434 = .ok (.aload_n 0, 1) := by decide +kernel
theorem dX11_issue_435 : decode cX11_issue 435 = .ok (.getfield 173, 3) := by decide +kernel
theorem dX11_issue_438 : decode cX11_issue 438 = .ok (.if_icmp .ge 42, 3) := by decide +kernel
theorem dX11_issue_441 : decode cX11_issue 441 = .ok (.aload_n 0, 1) := by decide +kernel
theorem dX11_issue_442 : decode cX11_issue 442 = .ok (.getfield 80, 3) := by decide +kernel
theorem dX11_issue_445 : decode cX11_issue 445 = .ok (.iload 9, 2) := by decide +kernel
theorem dX11_issue_447 : decode cX11_issue 447 = .ok (.iaload, 1) := by decide +kernel
theorem dX11_issue_448 : decode cX11_issue 448 = .ok (.iload 7, 2) := by decide +kernel
theorem dX11_issue_450 : decode cX11_issue 450 = .ok (.if_icmp .eq 6, 3) := by decide +kernel
theorem dX11_issue_453 : decode cX11_issue 453 = .ok (.goto 21, 3) := by decide +kernel
theorem dX11_issue_456 : decode cX11_issue 456 = .ok (.aload_n 0, 1) := by decide +kernel
theorem dX11_issue_457 : decode cX11_issue 457 = .ok (.getfield 128, 3) := by decide +kernel
theorem dX11_issue_460 : decode cX11_issue 460 = .ok (.bipush 12, 2) := by decide +kernel
theorem dX11_issue_462 : decode cX11_issue 462 = .ok (.iload 7, 2) := by decide +kernel
theorem dX11_issue_464 : decode cX11_issue 464 = .ok (.imul, 1) := by decide +kernel
theorem dX11_issue_465 : decode cX11_issue 465 = .ok (.iload 8, 2) := by decide +kernel
theorem dX11_issue_467 : decode cX11_issue 467 = .ok (.iadd, 1) := by decide +kernel
theorem dX11_issue_468 : decode cX11_issue 468 = .ok (.iload 9, 2) := by decide +kernel
theorem dX11_issue_470 : decode cX11_issue 470 = .ok (.iastore, 1) := by decide +kernel
theorem dX11_issue_471 : decode cX11_issue 471 = .ok (.iinc 8 1, 3) := by decide +kernel
theorem dX11_issue_474 : decode cX11_issue 474 = .ok (.iinc 9 1, 3) := by decide +kernel
theorem dX11_issue_477 : decode cX11_issue 477 = .ok (.goto (-45), 3) := by decide +kernel
theorem dX11_issue_480 : decode cX11_issue 480 = .ok (.aload_n 0, 1) := by decide +kernel
theorem dX11_issue_481 : decode cX11_issue 481 = .ok (.getfield 125, 3) := by decide +kernel
theorem dX11_issue_484 : decode cX11_issue 484 = .ok (.iload 7, 2) := by decide +kernel
theorem dX11_issue_486 : decode cX11_issue 486 = .ok (.aload_n 0, 1) := by decide +kernel
theorem dX11_issue_487 : decode cX11_issue 487 = .ok (.invokevirtual 362, 3) := by decide +kernel
theorem dX11_issue_490 : decode cX11_issue 490 = .ok (.iastore, 1) := by decide +kernel
theorem dX11_issue_491 : decode cX11_issue 491 = .ok (.aload_n 0, 1) := by decide +kernel
theorem dX11_issue_492 : decode cX11_issue 492 = .ok (.iconst 0, 1) := by decide +kernel
theorem dX11_issue_493 : decode cX11_issue 493 = .ok (.putfield 164, 3) := by decide +kernel
theorem dX11_issue_496 : decode cX11_issue 496 = .ok (.aload_n 0, 1) := by decide +kernel
theorem dX11_issue_497 : decode cX11_issue 497 = .ok (.iload 7, 2) := by decide +kernel
theorem dX11_issue_499 : decode cX11_issue 499 = .ok (.invokevirtual 190, 3) := by decide +kernel
theorem dX11_issue_502 : decode cX11_issue 502 = .ok (.ireturn, 1) := by decide +kernel
theorem dX11_waiting_0 : decode cX11_waiting 0 = .ok (.iconst 0, 1) := by decide +kernel
theorem dX11_waiting_1 : decode cX11_waiting 1 = .ok (.istore_n 1, 1) := by decide +kernel
theorem dX11_waiting_2 : decode cX11_waiting 2 = .ok (.iconst 0, 1) := by decide +kernel
theorem dX11_waiting_3 : decode cX11_waiting 3 = .ok (.istore_n 2, 1) := by decide +kernel
theorem dX11_waiting_4 : decode cX11_waiting 4 = .ok (.iload_n 2, 1) := by decide +kernel
theorem dX11_waiting_5 : decode cX11_waiting 5 = .ok (.aload_n 0, 1) := by decide +kernel
theorem dX11_waiting_6 : decode cX11_waiting 6 = .ok (.getfield 173, 3) := by decide +kernel
theorem dX11_waiting_9 : decode cX11_waiting 9 = .ok (.if_icmp .ge 27, 3) := by decide +kernel
theorem dX11_waiting_12 : decode cX11_waiting 12 = .ok (.iload_n 1, 1) := by decide +kernel
theorem dX11_waiting_13 : decode cX11_waiting 13 = .ok (.aload_n 0, 1) := by decide +kernel
theorem dX11_waiting_14 : decode cX11_waiting 14 = .ok (.getfield 80, 3) := by decide +kernel
theorem dX11_waiting_17 : decode cX11_waiting 17 = .ok (.iload_n 2, 1) := by decide +kernel
theorem dX11_waiting_18 : decode cX11_waiting 18 = .ok (.iaload, 1) := by decide +kernel
theorem dX11_waiting_19 : decode cX11_waiting 19 = .ok (.iconst (-1), 1) := by decide +kernel
theorem dX11_waiting_20 : decode cX11_waiting 20 = .ok (.if_icmp .ne 7, 3) := by decide +kernel
theorem dX11_waiting_23 : decode cX11_waiting 23 = .ok (.iconst 1, 1) := by decide +kernel
theorem dX11_waiting_24 : decode cX11_waiting 24 = .ok (.goto 4, 3) := by decide +kernel
theorem dX11_waiting_27 : decode cX11_waiting 27 = .ok (.iconst 0, 1) := by decide +kernel
theorem dX11_waiting_28 : decode cX11_waiting 28 = .ok (.iadd, 1) := by decide +kernel
theorem dX11_waiting_29 : decode cX11_waiting 29 = .ok (.istore_n 1, 1) := by decide +kernel
theorem dX11_waiting_30 : decode cX11_waiting 30 = .ok (.iinc 2 1, 3) := by decide +kernel
theorem dX11_waiting_33 : decode cX11_waiting 33 = .ok (.goto (-29), 3) := by decide +kernel
theorem dX11_waiting_36 : decode cX11_waiting 36 = .ok (.iload_n 1, 1) := by decide +kernel
theorem dX11_waiting_37 : decode cX11_waiting 37 = .ok (.ireturn, 1) := by decide +kernel
theorem dX11_isIssue_0 : decode cX11_isIssue 0 = .ok (.iload_n 1, 1) := by decide +kernel
theorem dX11_isIssue_1 : decode cX11_isIssue 1 = .ok (.ifCond .lt 15, 3) := by decide +kernel
theorem dX11_isIssue_4 : decode cX11_isIssue 4 = .ok (.iload_n 1, 1) := by decide +kernel
theorem dX11_isIssue_5 : decode cX11_isIssue 5 = .ok (.aload_n 0, 1) := by decide +kernel
theorem dX11_isIssue_6 : decode cX11_isIssue 6 = .ok (.getfield 357, 3) := by decide +kernel
theorem dX11_isIssue_9 : decode cX11_isIssue 9 = .ok (.if_icmp .ge 7, 3) := by decide +kernel
theorem dX11_isIssue_12 : decode cX11_isIssue 12 = .ok (.iconst 1, 1) := by decide +kernel
theorem dX11_isIssue_13 : decode cX11_isIssue 13 = .ok (.goto 4, 3) := by decide +kernel
theorem dX11_isIssue_16 : decode cX11_isIssue 16 = .ok (.iconst 0, 1) := by decide +kernel
theorem dX11_isIssue_17 : decode cX11_isIssue 17 = .ok (.ireturn, 1) := by decide +kernel
theorem dX11_issued_0 : decode cX11_issued 0 = .ok (.aload_n 0, 1) := by decide +kernel
theorem dX11_issued_1 : decode cX11_issued 1 = .ok (.iconst 0, 1) := by decide +kernel
theorem dX11_issued_2 : decode cX11_issued 2 = .ok (.putfield 158, 3) := by decide +kernel
theorem dX11_issued_5 : decode cX11_issued 5 = .ok (.aload_n 0, 1) := by decide +kernel
theorem dX11_issued_6 : decode cX11_issued 6 = .ok (.iload_n 1, 1) := by decide +kernel
theorem dX11_issued_7 : decode cX11_issued 7 = .ok (.invokevirtual 365, 3) := by decide +kernel
theorem dX11_issued_10 : decode cX11_issued 10 = .ok (.ifCond .ne 5, 3) := by decide +kernel
theorem dX11_issued_13 : decode cX11_issued 13 = .ok (.iconst (-1), 1) := by decide +kernel
theorem dX11_issued_14 : decode cX11_issued 14 = .ok (.ireturn, 1) := by decide +kernel
theorem dX11_issued_15 : decode cX11_issued 15 = .ok (.iload_n 2, 1) := by decide +kernel
theorem dX11_issued_16 : decode cX11_issued 16 = .ok (.tableswitch 71 0 4 #[36, 43, 50, 57, 64], 36) := by decide +kernel
theorem dX11_issued_52 : decode cX11_issued 52 = .ok (.aload_n 0, 1) := by decide +kernel
theorem dX11_issued_53 : decode cX11_issued 53 = .ok (.getfield 113, 3) := by decide +kernel
theorem dX11_issued_56 : decode cX11_issued 56 = .ok (.iload_n 1, 1) := by decide +kernel
theorem dX11_issued_57 : decode cX11_issued 57 = .ok (.iaload, 1) := by decide +kernel
theorem dX11_issued_58 : decode cX11_issued 58 = .ok (.ireturn, 1) := by decide +kernel
theorem dX11_issued_59 : decode cX11_issued 59 = .ok (.aload_n 0, 1) := by decide +kernel
theorem dX11_issued_60 : decode cX11_issued 60 = .ok (.getfield 116, 3) := by decide +kernel
theorem dX11_issued_63 : decode cX11_issued 63 = .ok (.iload_n 1, 1) := by decide +kernel
theorem dX11_issued_64 : decode cX11_issued 64 = .ok (.iaload, 1) := by decide +kernel
theorem dX11_issued_65 : decode cX11_issued 65 = .ok (.ireturn, 1) := by decide +kernel
theorem dX11_issued_66 : decode cX11_issued 66 = .ok (.aload_n 0, 1) := by decide +kernel
theorem dX11_issued_67 : decode cX11_issued 67 = .ok (.getfield 119, 3) := by decide +kernel
theorem dX11_issued_70 : decode cX11_issued 70 = .ok (.iload_n 1, 1) := by decide +kernel
theorem dX11_issued_71 : decode cX11_issued 71 = .ok (.iaload, 1) := by decide +kernel
theorem dX11_issued_72 : decode cX11_issued 72 = .ok (.ireturn, 1) := by decide +kernel
theorem dX11_issued_73 : decode cX11_issued 73 = .ok (.aload_n 0, 1) := by decide +kernel
theorem dX11_issued_74 : decode cX11_issued 74 = .ok (.getfield 122, 3) := by decide +kernel
theorem dX11_issued_77 : decode cX11_issued 77 = .ok (.iload_n 1, 1) := by decide +kernel
theorem dX11_issued_78 : decode cX11_issued 78 = .ok (.iaload, 1) := by decide +kernel
theorem dX11_issued_79 : decode cX11_issued 79 = .ok (.ireturn, 1) := by decide +kernel
theorem dX11_issued_80 : decode cX11_issued 80 = .ok (.aload_n 0, 1) := by decide +kernel
theorem dX11_issued_81 : decode cX11_issued 81 = .ok (.getfield 125, 3) := by decide +kernel
theorem dX11_issued_84 : decode cX11_issued 84 = .ok (.iload_n 1, 1) := by decide +kernel
theorem dX11_issued_85 : decode cX11_issued 85 = .ok (.iaload, 1) := by decide +kernel
theorem dX11_issued_86 : decode cX11_issued 86 = .ok (.ireturn, 1) := by decide +kernel
theorem dX11_issued_87 : decode cX11_issued 87 = .ok (.iconst (-1), 1) := by decide +kernel
theorem dX11_issued_88 : decode cX11_issued 88 = .ok (.ireturn, 1) := by decide +kernel
theorem dX11_printed_0 : decode cX11_printed 0 = .ok (.aload_n 0, 1) := by decide +kernel
theorem dX11_printed_1 : decode cX11_printed 1 = .ok (.iconst 0, 1) := by decide +kernel
theorem dX11_printed_2 : decode cX11_printed 2 = .ok (.putfield 158, 3) := by decide +kernel
theorem dX11_printed_5 : decode cX11_printed 5 = .ok (.aload_n 0, 1) := by decide +kernel
theorem dX11_printed_6 : decode cX11_printed 6 = .ok (.iload_n 1, 1) := by decide +kernel
theorem dX11_printed_7 : decode cX11_printed 7 = .ok (.invokevirtual 365, 3) := by decide +kernel
theorem dX11_printed_10 : decode cX11_printed 10 = .ok (.ifCond .eq 31, 3) := by decide +kernel
theorem dX11_printed_13 : decode cX11_printed 13 = .ok (.iload_n 2, 1) := by decide +kernel
theorem dX11_printed_14 : decode cX11_printed 14 = .ok (.ifCond .lt 27, 3) := by decide +kernel
theorem dX11_printed_17 : decode cX11_printed 17 = .ok (.iload_n 2, 1) := by decide +kernel
theorem dX11_printed_18 : decode cX11_printed 18 = .ok (.aload_n 0, 1) := by decide +kernel
theorem dX11_printed_19 : decode cX11_printed 19 = .ok (.getfield 116, 3) := by decide +kernel
theorem dX11_printed_22 : decode cX11_printed 22 = .ok (.iload_n 1, 1) := by decide +kernel
theorem dX11_printed_23 : decode cX11_printed 23 = .ok (.iaload, 1) := by decide +kernel
theorem dX11_printed_24 : decode cX11_printed 24 = .ok (.if_icmp .ge 17, 3) := by decide +kernel
theorem dX11_printed_27 : decode cX11_printed 27 = .ok (.aload_n 0, 1) := by decide +kernel
theorem dX11_printed_28 : decode cX11_printed 28 = .ok (.getfield 128, 3) := by decide +kernel
theorem dX11_printed_31 : decode cX11_printed 31 = .ok (.bipush 12, 2) := by decide +kernel
theorem dX11_printed_33 : decode cX11_printed 33 = .ok (.iload_n 1, 1) := by decide +kernel
theorem dX11_printed_34 : decode cX11_printed 34 = .ok (.imul, 1) := by decide +kernel
theorem dX11_printed_35 : decode cX11_printed 35 = .ok (.iload_n 2, 1) := by decide +kernel
theorem dX11_printed_36 : decode cX11_printed 36 = .ok (.iadd, 1) := by decide +kernel
theorem dX11_printed_37 : decode cX11_printed 37 = .ok (.iaload, 1) := by decide +kernel
theorem dX11_printed_38 : decode cX11_printed 38 = .ok (.goto 4, 3) := by decide +kernel
theorem dX11_printed_41 : decode cX11_printed 41 = .ok (.iconst (-1), 1) := by decide +kernel
theorem dX11_printed_42 : decode cX11_printed 42 = .ok (.ireturn, 1) := by decide +kernel
theorem dX11_isKnown_0 : decode cX11_isKnown 0 = .ok (.aload_n 0, 1) := by decide +kernel
theorem dX11_isKnown_1 : decode cX11_isKnown 1 = .ok (.getfield 80, 3) := by decide +kernel
theorem dX11_isKnown_4 : decode cX11_isKnown 4 = .ok (.iload_n 1, 1) := by decide +kernel
theorem dX11_isKnown_5 : decode cX11_isKnown 5 = .ok (.iaload, 1) := by decide +kernel
theorem dX11_isKnown_6 : decode cX11_isKnown 6 = .ok (.iconst (-1), 1) := by decide +kernel
theorem dX11_isKnown_7 : decode cX11_isKnown 7 = .ok (.if_icmp .eq 22, 3) := by decide +kernel
theorem dX11_isKnown_10 : decode cX11_isKnown 10 = .ok (.aload_n 0, 1) := by decide +kernel
theorem dX11_isKnown_11 : decode cX11_isKnown 11 = .ok (.getfield 113, 3) := by decide +kernel
theorem dX11_isKnown_14 : decode cX11_isKnown 14 = .ok (.aload_n 0, 1) := by decide +kernel
theorem dX11_isKnown_15 : decode cX11_isKnown 15 = .ok (.getfield 80, 3) := by decide +kernel
theorem dX11_isKnown_18 : decode cX11_isKnown 18 = .ok (.iload_n 1, 1) := by decide +kernel
theorem dX11_isKnown_19 : decode cX11_isKnown 19 = .ok (.iaload, 1) := by decide +kernel
theorem dX11_isKnown_20 : decode cX11_isKnown 20 = .ok (.iaload, 1) := by decide +kernel
theorem dX11_isKnown_21 : decode cX11_isKnown 21 = .ok (.iload_n 2, 1) := by decide +kernel
theorem dX11_isKnown_22 : decode cX11_isKnown 22 = .ok (.if_icmp .gt 7, 3) := by decide +kernel
theorem dX11_isKnown_25 : decode cX11_isKnown 25 = .ok (.iconst 1, 1) := by decide +kernel
theorem dX11_isKnown_26 : decode cX11_isKnown 26 = .ok (.goto 4, 3) := by decide +kernel
theorem dX11_isKnown_29 : decode cX11_isKnown 29 = .ok (.iconst 0, 1) := by decide +kernel
theorem dX11_isKnown_30 : decode cX11_isKnown 30 = .ok (.ireturn, 1) := by decide +kernel
theorem dX11_voids_0 : decode cX11_voids 0 = .ok (.iconst 0, 1) := by decide +kernel
theorem dX11_voids_1 : decode cX11_voids 1 = .ok (.istore_n 2, 1) := by decide +kernel
theorem dX11_voids_2 : decode cX11_voids 2 = .ok (.iload_n 2, 1) := by decide +kernel
theorem dX11_voids_3 : decode cX11_voids 3 = .ok (.aload_n 0, 1) := by decide +kernel
theorem dX11_voids_4 : decode cX11_voids 4 = .ok (.getfield 173, 3) := by decide +kernel
theorem dX11_voids_7 : decode cX11_voids 7 = .ok (.if_icmp .ge 16, 3) := by decide +kernel
theorem dX11_voids_10 : decode cX11_voids 10 = .ok (.aload_n 0, 1) := by decide +kernel
theorem dX11_voids_11 : decode cX11_voids 11 = .ok (.getfield 140, 3) := by decide +kernel
theorem dX11_voids_14 : decode cX11_voids 14 = .ok (.iload_n 2, 1) := by decide +kernel
theorem dX11_voids_15 : decode cX11_voids 15 = .ok (.iconst 0, 1) := by decide +kernel
theorem dX11_voids_16 : decode cX11_voids 16 = .ok (.bastore, 1) := by decide +kernel
theorem dX11_voids_17 : decode cX11_voids 17 = .ok (.iinc 2 1, 3) := by decide +kernel
theorem dX11_voids_20 : decode cX11_voids 20 = .ok (.goto (-18), 3) := by decide +kernel
theorem dX11_voids_23 : decode cX11_voids 23 = .ok (.aload_n 0, 1) := by decide +kernel
theorem dX11_voids_24 : decode cX11_voids 24 = .ok (.getfield 173, 3) := by decide +kernel
theorem dX11_voids_27 : decode cX11_voids 27 = .ok (.iconst 1, 1) := by decide +kernel
theorem dX11_voids_28 : decode cX11_voids 28 = .ok (.isub, 1) := by decide +kernel
theorem dX11_voids_29 : decode cX11_voids 29 = .ok (.istore_n 2, 1) := by decide +kernel
theorem dX11_voids_30 : decode cX11_voids 30 = .ok (.iload_n 2, 1) := by decide +kernel
theorem dX11_voids_31 : decode cX11_voids 31 = .ok (.ifCond .lt 49, 3) := by decide +kernel
theorem dX11_voids_34 : decode cX11_voids 34 = .ok (.aload_n 0, 1) := by decide +kernel
theorem dX11_voids_35 : decode cX11_voids 35 = .ok (.iload_n 2, 1) := by decide +kernel
theorem dX11_voids_36 : decode cX11_voids 36 = .ok (.iload_n 1, 1) := by decide +kernel
theorem dX11_voids_37 : decode cX11_voids 37 = .ok (.invokevirtual 368, 3) := by decide +kernel
theorem dX11_voids_40 : decode cX11_voids 40 = .ok (.ifCond .eq 34, 3) := by decide +kernel
theorem dX11_voids_43 : decode cX11_voids 43 = .ok (.aload_n 0, 1) := by decide +kernel
theorem dX11_voids_44 : decode cX11_voids 44 = .ok (.getfield 140, 3) := by decide +kernel
theorem dX11_voids_47 : decode cX11_voids 47 = .ok (.iload_n 2, 1) := by decide +kernel
theorem dX11_voids_48 : decode cX11_voids 48 = .ok (.baload, 1) := by decide +kernel
theorem dX11_voids_49 : decode cX11_voids 49 = .ok (.ifCond .ne 25, 3) := by decide +kernel
theorem dX11_voids_52 : decode cX11_voids 52 = .ok (.aload_n 0, 1) := by decide +kernel
theorem dX11_voids_53 : decode cX11_voids 53 = .ok (.getfield 86, 3) := by decide +kernel
theorem dX11_voids_56 : decode cX11_voids 56 = .ok (.iload_n 2, 1) := by decide +kernel
theorem dX11_voids_57 : decode cX11_voids 57 = .ok (.iaload, 1) := by decide +kernel
theorem dX11_voids_58 : decode cX11_voids 58 = .ok (.iconst (-1), 1) := by decide +kernel
theorem dX11_voids_59 : decode cX11_voids 59 = .ok (.if_icmp .eq 15, 3) := by decide +kernel
theorem dX11_voids_62 : decode cX11_voids 62 = .ok (.aload_n 0, 1) := by decide +kernel
theorem dX11_voids_63 : decode cX11_voids 63 = .ok (.getfield 140, 3) := by decide +kernel
theorem dX11_voids_66 : decode cX11_voids 66 = .ok (.aload_n 0, 1) := by decide +kernel
theorem dX11_voids_67 : decode cX11_voids 67 = .ok (.getfield 86, 3) := by decide +kernel
theorem dX11_voids_70 : decode cX11_voids 70 = .ok (.iload_n 2, 1) := by decide +kernel
theorem dX11_voids_71 : decode cX11_voids 71 = .ok (.iaload, 1) := by decide +kernel
theorem dX11_voids_72 : decode cX11_voids 72 = .ok (.iconst 1, 1) := by decide +kernel
theorem dX11_voids_73 : decode cX11_voids 73 = .ok (.bastore, 1) := by decide +kernel
theorem dX11_voids_74 : decode cX11_voids 74 = .ok (.iinc 2 (-1), 3) := by decide +kernel
theorem dX11_voids_77 : decode cX11_voids 77 = .ok (.goto (-47), 3) := by decide +kernel
theorem dX11_voids_80 : decode cX11_voids 80 = .ok (.return_, 1) := by decide +kernel
theorem dX11_lay_0 : decode cX11_lay 0 = .ok (.aload_n 0, 1) := by decide +kernel
theorem dX11_lay_1 : decode cX11_lay 1 = .ok (.iload_n 2, 1) := by decide +kernel
theorem dX11_lay_2 : decode cX11_lay 2 = .ok (.invokevirtual 372, 3) := by decide +kernel
theorem dX11_lay_5 : decode cX11_lay 5 = .ok (.iconst 0, 1) := by decide +kernel
theorem dX11_lay_6 : decode cX11_lay 6 = .ok (.istore_n 3, 1) := by decide +kernel
theorem dX11_lay_7 : decode cX11_lay 7 = .ok (.iload_n 3, 1) := by decide +kernel
theorem dX11_lay_8 : decode cX11_lay 8 = .ok (.sipush 10000, 3) := by decide +kernel
theorem dX11_lay_11 : decode cX11_lay 11 = .ok (.if_icmp .ge 16, 3) := by decide +kernel
theorem dX11_lay_14 : decode cX11_lay 14 = .ok (.aload_n 0, 1) := by decide +kernel
theorem dX11_lay_15 : decode cX11_lay 15 = .ok (.getfield 149, 3) := by decide +kernel
theorem dX11_lay_18 : decode cX11_lay 18 = .ok (.iload_n 3, 1) := by decide +kernel
theorem dX11_lay_19 : decode cX11_lay 19 = .ok (.iconst 0, 1) := by decide +kernel
theorem dX11_lay_20 : decode cX11_lay 20 = .ok (.bastore, 1) := by decide +kernel
theorem dX11_lay_21 : decode cX11_lay 21 = .ok (.iinc 3 1, 3) := by decide +kernel
theorem dX11_lay_24 : decode cX11_lay 24 = .ok (.goto (-17), 3) := by decide +kernel
theorem dX11_lay_27 : decode cX11_lay 27 = .ok (.iconst 0, 1) := by decide +kernel
theorem dX11_lay_28 : decode cX11_lay 28 = .ok (.istore_n 3, 1) := by decide +kernel
theorem dX11_lay_29 : decode cX11_lay 29 = .ok (.iload_n 3, 1) := by decide +kernel
theorem dX11_lay_30 : decode cX11_lay 30 = .ok (.aload_n 0, 1) := by decide +kernel
theorem dX11_lay_31 : decode cX11_lay 31 = .ok (.getfield 173, 3) := by decide +kernel
theorem dX11_lay_34 : decode cX11_lay 34 = .ok (.if_icmp .ge 115, 3) := by decide +kernel
theorem dX11_lay_37 : decode cX11_lay 37 = .ok (.aload_n 0, 1) := by decide +kernel
theorem dX11_lay_38 : decode cX11_lay 38 = .ok (.iload_n 3, 1) := by decide +kernel
theorem dX11_lay_39 : decode cX11_lay 39 = .ok (.iload_n 2, 1) := by decide +kernel
theorem dX11_lay_40 : decode cX11_lay 40 = .ok (.invokevirtual 368, 3) := by decide +kernel
theorem dX11_lay_43 : decode cX11_lay 43 = .ok (.ifCond .eq 100, 3) := by decide +kernel
theorem dX11_lay_46 : decode cX11_lay 46 = .ok (.aload_n 0, 1) := by decide +kernel
theorem dX11_lay_47 : decode cX11_lay 47 = .ok (.getfield 140, 3) := by decide +kernel
theorem dX11_lay_50 : decode cX11_lay 50 = .ok (.iload_n 3, 1) := by decide +kernel
theorem dX11_lay_51 : decode cX11_lay 51 = .ok (.baload, 1) := by decide +kernel
theorem dX11_lay_52 : decode cX11_lay 52 = .ok (.ifCond .eq 6, 3) := by decide +kernel
theorem dX11_lay_55 : decode cX11_lay 55 = .ok (.goto 88, 3) := by decide +kernel
theorem dX11_lay_58 : decode cX11_lay 58 = .ok (.iconst 4, 1) := by decide +kernel
theorem dX11_lay_59 : decode cX11_lay 59 = .ok (.iload_n 3, 1) := by decide +kernel
theorem dX11_lay_60 : decode cX11_lay 60 = .ok (.imul, 1) := by decide +kernel
theorem dX11_lay_61 : decode cX11_lay 61 = .ok (.istore 4, 2) := by decide +kernel
theorem dX11_lay_63 : decode cX11_lay 63 = .ok (.iload 4, 2) := by decide +kernel
theorem dX11_lay_65 : decode cX11_lay 65 = .ok (.iconst 4, 1) := by decide +kernel
theorem dX11_lay_66 : decode cX11_lay 66 = .ok (.iload_n 3, 1) := by decide +kernel
theorem dX11_lay_67 : decode cX11_lay 67 = .ok (.imul, 1) := by decide +kernel
theorem dX11_lay_68 : decode cX11_lay 68 = .ok (.aload_n 0, 1) := by decide +kernel
theorem dX11_lay_69 : decode cX11_lay 69 = .ok (.getfield 83, 3) := by decide +kernel
theorem dX11_lay_72 : decode cX11_lay 72 = .ok (.iload_n 3, 1) := by decide +kernel
theorem dX11_lay_73 : decode cX11_lay 73 = .ok (.iaload, 1) := by decide +kernel
theorem dX11_lay_74 : decode cX11_lay 74 = .ok (.iadd, 1) := by decide +kernel
theorem dX11_lay_75 : decode cX11_lay 75 = .ok (.if_icmp .ge 68, 3) := by decide +kernel
theorem dX11_lay_78 : decode cX11_lay 78 = .ok (.aload_n 0, 1) := by decide +kernel
theorem dX11_lay_79 : decode cX11_lay 79 = .ok (.getfield 104, 3) := by decide +kernel
theorem dX11_lay_82 : decode cX11_lay 82 = .ok (.iload 4, 2) := by decide +kernel
theorem dX11_lay_84 : decode cX11_lay 84 = .ok (.iaload, 1) := by decide +kernel
theorem dX11_lay_85 : decode cX11_lay 85 = .ok (.iload_n 1, 1) := by decide +kernel
theorem dX11_lay_86 : decode cX11_lay 86 = .ok (.if_icmp .eq 6, 3) := by decide +kernel
theorem dX11_lay_89 : decode cX11_lay 89 = .ok (.goto 48, 3) := by decide +kernel
theorem dX11_lay_92 : decode cX11_lay 92 = .ok (.aload_n 0, 1) := by decide +kernel
theorem dX11_lay_93 : decode cX11_lay 93 = .ok (.getfield 143, 3) := by decide +kernel
theorem dX11_lay_96 : decode cX11_lay 96 = .ok (.aload_n 0, 1) := by decide +kernel
theorem dX11_lay_97 : decode cX11_lay 97 = .ok (.getfield 110, 3) := by decide +kernel
theorem dX11_lay_100 : decode cX11_lay 100 = .ok (.iload 4, 2) := by decide +kernel
theorem dX11_lay_102 : decode cX11_lay 102 = .ok (.iaload, 1) := by decide +kernel
theorem dX11_lay_103 : decode cX11_lay 103 = .ok (.aload_n 0, 1) := by decide +kernel
theorem dX11_lay_104 : decode cX11_lay 104 = .ok (.getfield 107, 3) := by decide +kernel
theorem dX11_lay_107 : decode cX11_lay 107 = .ok (.iload 4, 2) := by decide +kernel
theorem dX11_lay_109 : decode cX11_lay 109 = .ok (.iaload, 1) := by decide +kernel
theorem dX11_lay_110 : decode cX11_lay 110 = .ok (.iastore, 1) := by decide +kernel
theorem dX11_lay_111 : decode cX11_lay 111 = .ok (.aload_n 0, 1) := by decide +kernel
theorem dX11_lay_112 : decode cX11_lay 112 = .ok (.getfield 146, 3) := by decide +kernel
theorem dX11_lay_115 : decode cX11_lay 115 = .ok (.aload_n 0, 1) := by decide +kernel
theorem dX11_lay_116 : decode cX11_lay 116 = .ok (.getfield 110, 3) := by decide +kernel
theorem dX11_lay_119 : decode cX11_lay 119 = .ok (.iload 4, 2) := by decide +kernel
theorem dX11_lay_121 : decode cX11_lay 121 = .ok (.iaload, 1) := by decide +kernel
theorem dX11_lay_122 : decode cX11_lay 122 = .ok (.iload_n 3, 1) := by decide +kernel
theorem dX11_lay_123 : decode cX11_lay 123 = .ok (.iastore, 1) := by decide +kernel
theorem dX11_lay_124 : decode cX11_lay 124 = .ok (.aload_n 0, 1) := by decide +kernel
theorem dX11_lay_125 : decode cX11_lay 125 = .ok (.getfield 149, 3) := by decide +kernel
theorem dX11_lay_128 : decode cX11_lay 128 = .ok (.aload_n 0, 1) := by decide +kernel
theorem dX11_lay_129 : decode cX11_lay 129 = .ok (.getfield 110, 3) := by decide +kernel
theorem dX11_lay_132 : decode cX11_lay 132 = .ok (.iload 4, 2) := by decide +kernel
theorem dX11_lay_134 : decode cX11_lay 134 = .ok (.iaload, 1) := by decide +kernel
theorem dX11_lay_135 : decode cX11_lay 135 = .ok (.iconst 1, 1) := by decide +kernel
theorem dX11_lay_136 : decode cX11_lay 136 = .ok (.bastore, 1) := by decide +kernel
theorem dX11_lay_137 : decode cX11_lay 137 = .ok (.iinc 4 1, 3) := by decide +kernel
theorem dX11_lay_140 : decode cX11_lay 140 = .ok (.goto (-77), 3) := by decide +kernel
theorem dX11_lay_143 : decode cX11_lay 143 = .ok (.iinc 3 1, 3) := by decide +kernel
theorem dX11_lay_146 : decode cX11_lay 146 = .ok (.goto (-117), 3) := by decide +kernel
theorem dX11_lay_149 : decode cX11_lay 149 = .ok (.return_, 1) := by decide +kernel
theorem dX11_sinceOf_0 : decode cX11_sinceOf 0 = .ok (.iload_n 1, 1) := by decide +kernel
theorem dX11_sinceOf_1 : decode cX11_sinceOf 1 = .ok (.iconst 0, 1) := by decide +kernel
theorem dX11_sinceOf_2 : decode cX11_sinceOf 2 = .ok (.bipush 39, 2) := by decide +kernel
theorem dX11_sinceOf_4 : decode cX11_sinceOf 4 = .ok (.invokestatic 203, 3) := by decide +kernel
theorem dX11_sinceOf_7 : decode cX11_sinceOf 7 = .ok (.ifCond .eq 17, 3) := by decide +kernel
theorem dX11_sinceOf_10 : decode cX11_sinceOf 10 = .ok (.iload_n 2, 1) := by decide +kernel
theorem dX11_sinceOf_11 : decode cX11_sinceOf 11 = .ok (.invokestatic 176, 3) := by decide +kernel
theorem dX11_sinceOf_14 : decode cX11_sinceOf 14 = .ok (.ifCond .eq 10, 3) := by decide +kernel
theorem dX11_sinceOf_17 : decode cX11_sinceOf 17 = .ok (.iload_n 3, 1) := by decide +kernel
theorem dX11_sinceOf_18 : decode cX11_sinceOf 18 = .ok (.invokestatic 176, 3) := by decide +kernel
theorem dX11_sinceOf_21 : decode cX11_sinceOf 21 = .ok (.ifCond .ne 5, 3) := by decide +kernel
theorem dX11_sinceOf_24 : decode cX11_sinceOf 24 = .ok (.iconst (-1), 1) := by decide +kernel
theorem dX11_sinceOf_25 : decode cX11_sinceOf 25 = .ok (.ireturn, 1) := by decide +kernel
theorem dX11_sinceOf_26 : decode cX11_sinceOf 26 = .ok (.aload_n 0, 1) := by decide +kernel
theorem dX11_sinceOf_27 : decode cX11_sinceOf 27 = .ok (.iload_n 1, 1) := by decide +kernel
theorem dX11_sinceOf_28 : decode cX11_sinceOf 28 = .ok (.iload_n 3, 1) := by decide +kernel
theorem dX11_sinceOf_29 : decode cX11_sinceOf 29 = .ok (.invokevirtual 375, 3) := by decide +kernel
theorem dX11_sinceOf_32 : decode cX11_sinceOf 32 = .ok (.iload_n 2, 1) := by decide +kernel
theorem dX11_sinceOf_33 : decode cX11_sinceOf 33 = .ok (.istore 4, 2) := by decide +kernel
theorem dX11_sinceOf_35 : decode cX11_sinceOf 35 = .ok (.iload 4, 2) := by decide +kernel
theorem dX11_sinceOf_37 : decode cX11_sinceOf 37 = .ok (.ifCond .lt 19, 3) := by decide +kernel
theorem dX11_sinceOf_40 : decode cX11_sinceOf 40 = .ok (.aload_n 0, 1) := by decide +kernel
theorem dX11_sinceOf_41 : decode cX11_sinceOf 41 = .ok (.getfield 149, 3) := by decide +kernel
theorem dX11_sinceOf_44 : decode cX11_sinceOf 44 = .ok (.iload 4, 2) := by decide +kernel
theorem dX11_sinceOf_46 : decode cX11_sinceOf 46 = .ok (.baload, 1) := by decide +kernel
theorem dX11_sinceOf_47 : decode cX11_sinceOf 47 = .ok (.ifCond .ne 9, 3) := by decide +kernel
theorem dX11_sinceOf_50 : decode cX11_sinceOf 50 = .ok (.iinc 4 (-1), 3) := by decide +kernel
theorem dX11_sinceOf_53 : decode cX11_sinceOf 53 = .ok (.goto (-18), 3) := by decide +kernel
theorem dX11_sinceOf_56 : decode cX11_sinceOf 56 = .ok (.iload 4, 2) := by decide +kernel
theorem dX11_sinceOf_58 : decode cX11_sinceOf 58 = .ok (.ireturn, 1) := by decide +kernel
theorem dX11_law_0 : decode cX11_law 0 = .ok (.aload_n 0, 1) := by decide +kernel
theorem dX11_law_1 : decode cX11_law 1 = .ok (.iconst 0, 1) := by decide +kernel
theorem dX11_law_2 : decode cX11_law 2 = .ok (.putfield 158, 3) := by decide +kernel
theorem dX11_law_5 : decode cX11_law 5 = .ok (.aload_n 0, 1) := by decide +kernel
theorem dX11_law_6 : decode cX11_law 6 = .ok (.iload_n 1, 1) := by decide +kernel
theorem dX11_law_7 : decode cX11_law 7 = .ok (.iload_n 2, 1) := by decide +kernel
theorem dX11_law_8 : decode cX11_law 8 = .ok (.iload_n 3, 1) := by decide +kernel
theorem dX11_law_9 : decode cX11_law 9 = .ok (.invokevirtual 378, 3) := by decide +kernel
theorem dX11_law_12 : decode cX11_law 12 = .ok (.istore 4, 2) := by decide +kernel
theorem dX11_law_14 : decode cX11_law 14 = .ok (.iload 4, 2) := by decide +kernel
theorem dX11_law_16 : decode cX11_law 16 = .ok (.ifCond .ge 9, 3) := by decide +kernel
theorem dX11_law_19 : decode cX11_law 19 = .ok (.ldc_w 336, 3) := by decide +kernel
theorem dX11_law_22 : decode cX11_law 22 = .ok (.goto 10, 3) := by decide +kernel
theorem dX11_law_25 : decode cX11_law 25 = .ok (.aload_n 0, 1) := by decide +kernel
theorem dX11_law_26 : decode cX11_law 26 = .ok (.getfield 143, 3) := by decide +kernel
theorem dX11_law_29 : decode cX11_law 29 = .ok (.iload 4, 2) := by decide +kernel
theorem dX11_law_31 : decode cX11_law 31 = .ok (.iaload, 1) := by decide +kernel
theorem dX11_law_32 : decode cX11_law 32 = .ok (.ireturn, 1) := by decide +kernel
theorem dX11_source_0 : decode cX11_source 0 = .ok (.aload_n 0, 1) := by decide +kernel
theorem dX11_source_1 : decode cX11_source 1 = .ok (.iconst 0, 1) := by decide +kernel
theorem dX11_source_2 : decode cX11_source 2 = .ok (.putfield 158, 3) := by decide +kernel
theorem dX11_source_5 : decode cX11_source 5 = .ok (.aload_n 0, 1) := by decide +kernel
theorem dX11_source_6 : decode cX11_source 6 = .ok (.iload_n 1, 1) := by decide +kernel
theorem dX11_source_7 : decode cX11_source 7 = .ok (.iload_n 2, 1) := by decide +kernel
theorem dX11_source_8 : decode cX11_source 8 = .ok (.iload_n 3, 1) := by decide +kernel
theorem dX11_source_9 : decode cX11_source 9 = .ok (.invokevirtual 378, 3) := by decide +kernel
theorem dX11_source_12 : decode cX11_source 12 = .ok (.istore 4, 2) := by decide +kernel
theorem dX11_source_14 : decode cX11_source 14 = .ok (.iload 4, 2) := by decide +kernel
theorem dX11_source_16 : decode cX11_source 16 = .ok (.ifCond .ge 7, 3) := by decide +kernel
theorem dX11_source_19 : decode cX11_source 19 = .ok (.iconst (-1), 1) := by decide +kernel
theorem dX11_source_20 : decode cX11_source 20 = .ok (.goto 10, 3) := by decide +kernel
theorem dX11_source_23 : decode cX11_source 23 = .ok (.aload_n 0, 1) := by decide +kernel
theorem dX11_source_24 : decode cX11_source 24 = .ok (.getfield 146, 3) := by decide +kernel
theorem dX11_source_27 : decode cX11_source 27 = .ok (.iload 4, 2) := by decide +kernel
theorem dX11_source_29 : decode cX11_source 29 = .ok (.iaload, 1) := by decide +kernel
theorem dX11_source_30 : decode cX11_source 30 = .ok (.ireturn, 1) := by decide +kernel
theorem dX11_isVoid_0 : decode cX11_isVoid 0 = .ok (.aload_n 0, 1) := by decide +kernel
theorem dX11_isVoid_1 : decode cX11_isVoid 1 = .ok (.iconst 0, 1) := by decide +kernel
theorem dX11_isVoid_2 : decode cX11_isVoid 2 = .ok (.putfield 158, 3) := by decide +kernel
theorem dX11_isVoid_5 : decode cX11_isVoid 5 = .ok (.aload_n 0, 1) := by decide +kernel
theorem dX11_isVoid_6 : decode cX11_isVoid 6 = .ok (.iload_n 1, 1) := by decide +kernel
theorem dX11_isVoid_7 : decode cX11_isVoid 7 = .ok (.invokevirtual 328, 3) := by decide +kernel
theorem dX11_isVoid_10 : decode cX11_isVoid 10 = .ok (.ifCond .eq 19, 3) := by decide +kernel
theorem dX11_isVoid_13 : decode cX11_isVoid 13 = .ok (.iload_n 2, 1) := by decide +kernel
theorem dX11_isVoid_14 : decode cX11_isVoid 14 = .ok (.invokestatic 176, 3) := by decide +kernel
theorem dX11_isVoid_17 : decode cX11_isVoid 17 = .ok (.ifCond .eq 12, 3) := by decide +kernel
theorem dX11_isVoid_20 : decode cX11_isVoid 20 = .ok (.aload_n 0, 1) := by decide +kernel
theorem dX11_isVoid_21 : decode cX11_isVoid 21 = .ok (.iload_n 1, 1) := by decide +kernel
theorem dX11_isVoid_22 : decode cX11_isVoid 22 = .ok (.iload_n 2, 1) := by decide +kernel
theorem dX11_isVoid_23 : decode cX11_isVoid 23 = .ok (.invokevirtual 368, 3) := by decide +kernel
theorem dX11_isVoid_26 : decode cX11_isVoid 26 = .ok (.ifCond .ne 5, 3) := by decide +kernel
theorem dX11_isVoid_29 : decode cX11_isVoid 29 = .ok (.iconst (-1), 1) := by decide +kernel
theorem dX11_isVoid_30 : decode cX11_isVoid 30 = .ok (.ireturn, 1) := by decide +kernel
theorem dX11_isVoid_31 : decode cX11_isVoid 31 = .ok (.aload_n 0, 1) := by decide +kernel
theorem dX11_isVoid_32 : decode cX11_isVoid 32 = .ok (.iload_n 2, 1) := by decide +kernel
theorem dX11_isVoid_33 : decode cX11_isVoid 33 = .ok (.invokevirtual 372, 3) := by decide +kernel
theorem dX11_isVoid_36 : decode cX11_isVoid 36 = .ok (.aload_n 0, 1) := by decide +kernel
theorem dX11_isVoid_37 : decode cX11_isVoid 37 = .ok (.getfield 140, 3) := by decide +kernel
theorem dX11_isVoid_40 : decode cX11_isVoid 40 = .ok (.iload_n 1, 1) := by decide +kernel
theorem dX11_isVoid_41 : decode cX11_isVoid 41 = .ok (.baload, 1) := by decide +kernel
theorem dX11_isVoid_42 : decode cX11_isVoid 42 = .ok (.ifCond .eq 7, 3) := by decide +kernel
theorem dX11_isVoid_45 : decode cX11_isVoid 45 = .ok (.iconst 1, 1) := by decide +kernel
theorem dX11_isVoid_46 : decode cX11_isVoid 46 = .ok (.goto 4, 3) := by decide +kernel
theorem dX11_isVoid_49 : decode cX11_isVoid 49 = .ok (.iconst 0, 1) := by decide +kernel
theorem dX11_isVoid_50 : decode cX11_isVoid 50 = .ok (.ireturn, 1) := by decide +kernel
theorem dX11_changes_0 : decode cX11_changes 0 = .ok (.aload_n 0, 1) := by decide +kernel
theorem dX11_changes_1 : decode cX11_changes 1 = .ok (.iconst 0, 1) := by decide +kernel
theorem dX11_changes_2 : decode cX11_changes 2 = .ok (.putfield 158, 3) := by decide +kernel
theorem dX11_changes_5 : decode cX11_changes 5 = .ok (.iload_n 1, 1) := by decide +kernel
theorem dX11_changes_6 : decode cX11_changes 6 = .ok (.iconst 0, 1) := by decide +kernel
theorem dX11_changes_7 : decode cX11_changes 7 = .ok (.bipush 39, 2) := by decide +kernel
theorem dX11_changes_9 : decode cX11_changes 9 = .ok (.invokestatic 203, 3) := by decide +kernel
theorem dX11_changes_12 : decode cX11_changes 12 = .ok (.ifCond .eq 10, 3) := by decide +kernel
theorem dX11_changes_15 : decode cX11_changes 15 = .ok (.iload_n 2, 1) := by decide +kernel
theorem dX11_changes_16 : decode cX11_changes 16 = .ok (.invokestatic 176, 3) := by decide +kernel
theorem dX11_changes_19 : decode cX11_changes 19 = .ok (.ifCond .ne 5, 3) := by decide +kernel
theorem dX11_changes_22 : decode cX11_changes 22 = .ok (.iconst (-1), 1) := by decide +kernel
theorem dX11_changes_23 : decode cX11_changes 23 = .ok (.ireturn, 1) := by decide +kernel
theorem dX11_changes_24 : decode cX11_changes 24 = .ok (.aload_n 0, 1) := by decide +kernel
theorem dX11_changes_25 : decode cX11_changes 25 = .ok (.iload_n 1, 1) := by decide +kernel
theorem dX11_changes_26 : decode cX11_changes 26 = .ok (.iload_n 2, 1) := by decide +kernel
theorem dX11_changes_27 : decode cX11_changes 27 = .ok (.invokevirtual 375, 3) := by decide +kernel
theorem dX11_changes_30 : decode cX11_changes 30 = .ok (.ldc_w 336, 3) := by decide +kernel
theorem dX11_changes_33 : decode cX11_changes 33 = .ok (.istore_n 3, 1) := by decide +kernel
theorem dX11_changes_34 : decode cX11_changes 34 = .ok (.iconst 0, 1) := by decide +kernel
theorem dX11_changes_35 : decode cX11_changes 35 = .ok (.istore 4, 2) := by decide +kernel
theorem dX11_changes_37 : decode cX11_changes 37 = .ok (.iconst 0, 1) := by decide +kernel
theorem dX11_changes_38 : decode cX11_changes 38 = .ok (.istore 5, 2) := by decide +kernel
theorem dX11_changes_40 : decode cX11_changes 40 = .ok (.iload 5, 2) := by decide +kernel
theorem dX11_changes_42 : decode cX11_changes 42 = .ok (.sipush 10000, 3) := by decide +kernel
theorem dX11_changes_45 : decode cX11_changes 45 = .ok (.if_icmp .ge 44, 3) := by decide +kernel
theorem dX11_changes_48 : decode cX11_changes 48 = .ok (.aload_n 0, 1) := by decide +kernel
theorem dX11_changes_49 : decode cX11_changes 49 = .ok (.getfield 149, 3) := by decide +kernel
theorem dX11_changes_52 : decode cX11_changes 52 = .ok (.iload 5, 2) := by decide +kernel
theorem dX11_changes_54 : decode cX11_changes 54 = .ok (.baload, 1) := by decide +kernel
theorem dX11_changes_55 : decode cX11_changes 55 = .ok (.ifCond .eq 28, 3) := by decide +kernel
theorem dX11_changes_58 : decode cX11_changes 58 = .ok (.aload_n 0, 1) := by decide +kernel
theorem dX11_changes_59 : decode cX11_changes 59 = .ok (.getfield 143, 3) := by decide +kernel
theorem dX11_changes_62 : decode cX11_changes 62 = .ok (.iload 5, 2) := by decide +kernel
theorem dX11_changes_64 : decode cX11_changes 64 = .ok (.iaload, 1) := by decide +kernel
theorem dX11_changes_65 : decode cX11_changes 65 = .ok (.iload_n 3, 1) := by decide +kernel
theorem dX11_changes_66 : decode cX11_changes 66 = .ok (.if_icmp .ne 6, 3) := by decide +kernel
theorem dX11_changes_69 : decode cX11_changes 69 = .ok (.goto 14, 3) := by decide +kernel
theorem dX11_changes_72 : decode cX11_changes 72 = .ok (.aload_n 0, 1) := by decide +kernel
theorem dX11_changes_73 : decode cX11_changes 73 = .ok (.getfield 143, 3) := by decide +kernel
theorem dX11_changes_76 : decode cX11_changes 76 = .ok (.iload 5, 2) := by decide +kernel
theorem dX11_changes_78 : decode cX11_changes 78 = .ok (.iaload, 1) := by decide +kernel
theorem dX11_changes_79 : decode cX11_changes 79 = .ok (.istore_n 3, 1) := by decide +kernel
theorem dX11_changes_80 : decode cX11_changes 80 = .ok (.iinc 4 1, 3) := by decide +kernel
theorem dX11_changes_83 : decode cX11_changes 83 = .ok (.iinc 5 1, 3) := by decide +kernel
theorem dX11_changes_86 : decode cX11_changes 86 = .ok (.goto (-46), 3) := by decide +kernel
theorem dX11_changes_89 : decode cX11_changes 89 = .ok (.iload 4, 2) := by decide +kernel
theorem dX11_changes_91 : decode cX11_changes 91 = .ok (.ireturn, 1) := by decide +kernel
theorem dX11_find_0 : decode cX11_find 0 = .ok (.aload_n 0, 1) := by decide +kernel
theorem dX11_find_1 : decode cX11_find 1 = .ok (.iconst 0, 1) := by decide +kernel
theorem dX11_find_2 : decode cX11_find 2 = .ok (.putfield 158, 3) := by decide +kernel
theorem dX11_find_5 : decode cX11_find 5 = .ok (.lload_n 1, 1) := by decide +kernel
theorem dX11_find_6 : decode cX11_find 6 = .ok (.invokestatic 350, 3) := by decide +kernel
theorem dX11_find_9 : decode cX11_find 9 = .ok (.ifCond .eq 10, 3) := by decide +kernel
theorem dX11_find_12 : decode cX11_find 12 = .ok (.iload_n 3, 1) := by decide +kernel
theorem dX11_find_13 : decode cX11_find 13 = .ok (.invokestatic 176, 3) := by decide +kernel
theorem dX11_find_16 : decode cX11_find 16 = .ok (.ifCond .ne 5, 3) := by decide +kernel
theorem dX11_find_19 : decode cX11_find 19 = .ok (.iconst (-1), 1) := by decide +kernel
theorem dX11_find_20 : decode cX11_find 20 = .ok (.ireturn, 1) := by decide +kernel
theorem dX11_find_21 : decode cX11_find 21 = .ok (.iconst 1, 1) := by decide +kernel
theorem dX11_find_22 : decode cX11_find 22 = .ok (.istore 4, 2) := by decide +kernel
theorem dX11_find_24 : decode cX11_find 24 = .ok (.aload_n 0, 1) := by decide +kernel
theorem dX11_find_25 : decode cX11_find 25 = .ok (.getfield 152, 3) := by decide +kernel
theorem dX11_find_28 : decode cX11_find 28 = .ok (.iconst 0, 1) := by decide +kernel
theorem dX11_find_29 : decode cX11_find 29 = .ok (.lload_n 1, 1) := by decide +kernel
theorem dX11_find_30 : decode cX11_find 30 = .ok (.lastore, 1) := by decide +kernel
theorem dX11_find_31 : decode cX11_find 31 = .ok (.iconst 0, 1) := by decide +kernel
theorem dX11_find_32 : decode cX11_find 32 = .ok (.istore 5, 2) := by decide +kernel
theorem dX11_find_34 : decode cX11_find 34 = .ok (.iload 5, 2) := by decide +kernel
theorem dX11_find_36 : decode cX11_find 36 = .ok (.iload 4, 2) := by decide +kernel
theorem dX11_find_38 : decode cX11_find 38 = .ok (.if_icmp .ge 131, 3) := by decide +kernel
theorem dX11_find_41 : decode cX11_find 41 = .ok (.iconst 0, 1) := by decide +kernel
theorem dX11_find_42 : decode cX11_find 42 = .ok (.istore 6, 2) := by decide +kernel
theorem dX11_find_44 : decode cX11_find 44 = .ok (.iload 6, 2) := by decide +kernel
theorem dX11_find_46 : decode cX11_find 46 = .ok (.aload_n 0, 1) := by decide +kernel
theorem dX11_find_47 : decode cX11_find 47 = .ok (.getfield 173, 3) := by decide +kernel
theorem dX11_find_50 : decode cX11_find 50 = .ok (.if_icmp .ge 113, 3) := by decide +kernel
theorem dX11_find_53 : decode cX11_find 53 = .ok (.aload_n 0, 1) := by decide +kernel
theorem dX11_find_54 : decode cX11_find 54 = .ok (.getfield 92, 3) := by decide +kernel
theorem dX11_find_57 : decode cX11_find 57 = .ok (.iload 6, 2) := by decide +kernel
theorem dX11_find_59 : decode cX11_find 59 = .ok (.laload, 1) := by decide +kernel
theorem dX11_find_60 : decode cX11_find 60 = .ok (.lconst 0, 1) := by decide +kernel
theorem dX11_find_61 : decode cX11_find 61 = .ok (.lcmp, 1) := by decide +kernel
theorem dX11_find_62 : decode cX11_find 62 = .ok (.ifCond .eq 95, 3) := by decide +kernel
theorem dX11_find_65 : decode cX11_find 65 = .ok (.aload_n 0, 1) := by decide +kernel
theorem dX11_find_66 : decode cX11_find 66 = .ok (.iload 6, 2) := by decide +kernel
theorem dX11_find_68 : decode cX11_find 68 = .ok (.iload_n 3, 1) := by decide +kernel
theorem dX11_find_69 : decode cX11_find 69 = .ok (.invokevirtual 368, 3) := by decide +kernel
theorem dX11_find_72 : decode cX11_find 72 = .ok (.ifCond .eq 85, 3) := by decide +kernel
theorem dX11_find_75 : decode cX11_find 75 = .ok (.aload_n 0, 1) := by decide +kernel
theorem dX11_find_76 : decode cX11_find 76 = .ok (.getfield 95, 3) := by decide +kernel
theorem dX11_find_79 : decode cX11_find 79 = .ok (.iload 6, 2) := by decide +kernel
theorem dX11_find_81 : decode cX11_find 81 = .ok (.laload, 1) := by decide +kernel
theorem dX11_find_82 : decode cX11_find 82 = .ok (.aload_n 0, 1) := by decide +kernel
theorem dX11_find_83 : decode cX11_find 83 = .ok (.getfield 152, 3) := by decide +kernel
theorem dX11_find_86 : decode cX11_find 86 = .ok (.iload 5, 2) := by decide +kernel
theorem dX11_find_88 : decode cX11_find 88 = .ok (.laload, 1) := by decide +kernel
theorem dX11_find_89 : decode cX11_find 89 = .ok (.lcmp, 1) := by decide +kernel
theorem dX11_find_90 : decode cX11_find 90 = .ok (.ifCond .eq 6, 3) := by decide +kernel
theorem dX11_find_93 : decode cX11_find 93 = .ok (.goto 64, 3) := by decide +kernel
theorem dX11_find_96 : decode cX11_find 96 = .ok (.iconst 0, 1) := by decide +kernel
theorem dX11_find_97 : decode cX11_find 97 = .ok (.istore 7, 2) := by decide +kernel
theorem dX11_find_99 : decode cX11_find 99 = .ok (.iload 7, 2) := by decide +kernel
theorem dX11_find_101 : decode cX11_find 101 = .ok (.iload 4, 2) := by decide +kernel
theorem dX11_find_103 : decode cX11_find 103 = .ok (.if_icmp .ge 27, 3) := by decide +kernel
theorem dX11_find_106 : decode cX11_find 106 = .ok (.aload_n 0, 1) := by decide +kernel
theorem dX11_find_107 : decode cX11_find 107 = .ok (.getfield 152, 3) := by decide +kernel
theorem dX11_find_110 : decode cX11_find 110 = .ok (.iload 7, 2) := by decide +kernel
theorem dX11_find_112 : decode cX11_find 112 = .ok (.laload, 1) := by decide +kernel
theorem dX11_find_113 : decode cX11_find 113 = .ok (.aload_n 0, 1) := by decide +kernel
theorem dX11_find_114 : decode cX11_find 114 = .ok (.getfield 92, 3) := by decide +kernel
theorem dX11_find_117 : decode cX11_find 117 = .ok (.iload 6, 2) := by decide +kernel
theorem dX11_find_119 : decode cX11_find 119 = .ok (.laload, 1) := by decide +kernel
theorem dX11_find_120 : decode cX11_find 120 = .ok (.lcmp, 1) := by decide +kernel
theorem dX11_find_121 : decode cX11_find 121 = .ok (.ifCond .eq 9, 3) := by decide +kernel
theorem dX11_find_124 : decode cX11_find 124 = .ok (.iinc 7 1, 3) := by decide +kernel
theorem dX11_find_127 : decode cX11_find 127 = .ok (.goto (-28), 3) := by decide +kernel
theorem dX11_find_130 : decode cX11_find 130 = .ok (.iload 7, 2) := by decide +kernel
theorem dX11_find_132 : decode cX11_find 132 = .ok (.iload 4, 2) := by decide +kernel
theorem dX11_find_134 : decode cX11_find 134 = .ok (.if_icmp .ge 6, 3) := by decide +kernel
theorem dX11_find_137 : decode cX11_find 137 = .ok (.goto 20, 3) := by decide +kernel
theorem dX11_find_140 : decode cX11_find 140 = .ok (.aload_n 0, 1) := by decide +kernel
theorem dX11_find_141 : decode cX11_find 141 = .ok (.getfield 152, 3) := by decide +kernel
theorem dX11_find_144 : decode cX11_find 144 = .ok (.iload 4, 2) := by decide +kernel
theorem dX11_find_146 : decode cX11_find 146 = .ok (.aload_n 0, 1) := by decide +kernel
theorem dX11_find_147 : decode cX11_find 147 = .ok (.getfield 92, 3) := by decide +kernel
theorem dX11_find_150 : decode cX11_find 150 = .ok (.iload 6, 2) := by decide +kernel
theorem dX11_find_152 : decode cX11_find 152 = .ok (.laload, 1) := by decide +kernel
theorem dX11_find_153 : decode cX11_find 153 = .ok (.lastore, 1) := by decide +kernel
theorem dX11_find_154 : decode cX11_find 154 = .ok (.iinc 4 1, 3) := by decide +kernel
theorem dX11_find_157 : decode cX11_find 157 = .ok (.iinc 6 1, 3) := by decide +kernel
theorem dX11_find_160 : decode cX11_find 160 = .ok (.goto (-116), 3) := by decide +kernel
theorem dX11_find_163 : decode cX11_find 163 = .ok (.iinc 5 1, 3) := by decide +kernel
theorem dX11_find_166 : decode cX11_find 166 = .ok (.goto (-132), 3) := by decide +kernel
theorem dX11_find_169 : decode cX11_find 169 = .ok (.aload_n 0, 1) := by decide +kernel
theorem dX11_find_170 : decode cX11_find 170 = .ok (.iconst 0, 1) := by decide +kernel
theorem dX11_find_171 : decode cX11_find 171 = .ok (.putfield 382, 3) := by decide +kernel
theorem dX11_find_174 : decode cX11_find 174 = .ok (.iconst 0, 1) := by decide +kernel
theorem dX11_find_175 : decode cX11_find 175 = .ok (.istore 5, 2) := by decide +kernel
theorem dX11_find_177 : decode cX11_find 177 = .ok (.iload 5, 2) := by decide +kernel
theorem dX11_find_179 : decode cX11_find 179 = .ok (.aload_n 0, 1) := by decide +kernel
theorem dX11_find_180 : decode cX11_find 180 = .ok (.getfield 173, 3) := by decide +kernel
theorem dX11_find_183 : decode cX11_find 183 = .ok (.if_icmp .ge 54, 3) := by decide +kernel
theorem dX11_find_186 : decode cX11_find 186 = .ok (.aload_n 0, 1) := by decide +kernel
theorem dX11_find_187 : decode cX11_find 187 = .ok (.iload 5, 2) := by decide +kernel
theorem dX11_find_189 : decode cX11_find 189 = .ok (.iload_n 3, 1) := by decide +kernel
theorem dX11_find_190 : decode cX11_find 190 = .ok (.invokevirtual 368, 3) := by decide +kernel
theorem dX11_find_193 : decode cX11_find 193 = .ok (.ifCond .eq 38, 3) := by decide +kernel
theorem dX11_find_196 : decode cX11_find 196 = .ok (.aload_n 0, 1) := by decide +kernel
theorem dX11_find_197 : decode cX11_find 197 = .ok (.iload 5, 2) := by decide +kernel
theorem dX11_find_199 : decode cX11_find 199 = .ok (.iload 4, 2) := by decide +kernel
theorem dX11_find_201 : decode cX11_find 201 = .ok (.invokevirtual 385, 3) := by decide +kernel
theorem dX11_find_204 : decode cX11_find 204 = .ok (.ifCond .ne 6, 3) := by decide +kernel
theorem dX11_find_207 : decode cX11_find 207 = .ok (.goto 24, 3) := by decide +kernel
theorem dX11_find_210 : decode cX11_find 210 = .ok (.aload_n 0, 1) := by decide +kernel
theorem dX11_find_211 : decode cX11_find 211 = .ok (.getfield 155, 3) := by decide +kernel
theorem dX11_find_214 : decode cX11_find 214 = .ok (.aload_n 0, 1) := by decide +kernel
theorem dX11_find_215 : decode cX11_find 215 = .ok (.getfield 382, 3) := by decide +kernel
theorem dX11_find_218 : decode cX11_find 218 = .ok (.iload 5, 2) := by decide +kernel
theorem dX11_find_220 : decode cX11_find 220 = .ok (.iastore, 1) := by decide +kernel
theorem dX11_find_221 : decode cX11_find 221 = .ok (.aload_n 0, 1) := by decide +kernel
theorem dX11_find_222 : decode cX11_find 222 = .ok (.dup, 1) := by decide +kernel
theorem dX11_find_223 : decode cX11_find 223 = .ok (.getfield 382, 3) := by decide +kernel
theorem dX11_find_226 : decode cX11_find 226 = .ok (.iconst 1, 1) := by decide +kernel
theorem dX11_find_227 : decode cX11_find 227 = .ok (.iadd, 1) := by decide +kernel
theorem dX11_find_228 : decode cX11_find 228 = .ok (.putfield 382, 3) := by decide +kernel
theorem dX11_find_231 : decode cX11_find 231 = .ok (.iinc 5 1, 3) := by decide +kernel
theorem dX11_find_234 : decode cX11_find 234 = .ok (.goto (-57), 3) := by decide +kernel
theorem dX11_find_237 : decode cX11_find 237 = .ok (.aload_n 0, 1) := by decide +kernel
theorem dX11_find_238 : decode cX11_find 238 = .ok (.getfield 382, 3) := by decide +kernel
theorem dX11_find_241 : decode cX11_find 241 = .ok (.ireturn, 1) := by decide +kernel
theorem dX11_isNamed_0 : decode cX11_isNamed 0 = .ok (.iconst 0, 1) := by decide +kernel
theorem dX11_isNamed_1 : decode cX11_isNamed 1 = .ok (.istore_n 3, 1) := by decide +kernel
theorem dX11_isNamed_2 : decode cX11_isNamed 2 = .ok (.iconst 0, 1) := by decide +kernel
theorem dX11_isNamed_3 : decode cX11_isNamed 3 = .ok (.istore 4, 2) := by decide +kernel
theorem dX11_isNamed_5 : decode cX11_isNamed 5 = .ok (.iload 4, 2) := by decide +kernel
theorem dX11_isNamed_7 : decode cX11_isNamed 7 = .ok (.aload_n 0, 1) := by decide +kernel
theorem dX11_isNamed_8 : decode cX11_isNamed 8 = .ok (.getfield 47, 3) := by decide +kernel
theorem dX11_isNamed_11 : decode cX11_isNamed 11 = .ok (.aload_n 0, 1) := by decide +kernel
theorem dX11_isNamed_12 : decode cX11_isNamed 12 = .ok (.getfield 71, 3) := by decide +kernel
theorem dX11_isNamed_15 : decode cX11_isNamed 15 = .ok (.iload_n 1, 1) := by decide +kernel
theorem dX11_isNamed_16 : decode cX11_isNamed 16 = .ok (.iaload, 1) := by decide +kernel
theorem dX11_isNamed_17 : decode cX11_isNamed 17 = .ok (.iaload, 1) := by decide +kernel
theorem dX11_isNamed_18 : decode cX11_isNamed 18 = .ok (.if_icmp .ge 96, 3) := by decide +kernel
theorem dX11_isNamed_21 : decode cX11_isNamed 21 = .ok (.aload_n 0, 1) := by decide +kernel
theorem dX11_isNamed_22 : decode cX11_isNamed 22 = .ok (.getfield 50, 3) := by decide +kernel
theorem dX11_isNamed_25 : decode cX11_isNamed 25 = .ok (.bipush 8, 2) := by decide +kernel
theorem dX11_isNamed_27 : decode cX11_isNamed 27 = .ok (.aload_n 0, 1) := by decide +kernel
theorem dX11_isNamed_28 : decode cX11_isNamed 28 = .ok (.getfield 71, 3) := by decide +kernel
theorem dX11_isNamed_31 : decode cX11_isNamed 31 = .ok (.iload_n 1, 1) := by decide +kernel
theorem dX11_isNamed_32 : decode cX11_isNamed 32 = .ok (.iaload, 1) := by decide +kernel
theorem dX11_isNamed_33 : decode cX11_isNamed 33 = .ok (.imul, 1) := by decide +kernel
theorem dX11_isNamed_34 : decode cX11_isNamed 34 = .ok (.iload 4, 2) := by decide +kernel
theorem dX11_isNamed_36 : decode cX11_isNamed 36 = .ok (.iadd, 1) := by decide +kernel
theorem dX11_isNamed_37 : decode cX11_isNamed 37 = .ok (.iaload, 1) := by decide +kernel
theorem dX11_isNamed_38 : decode cX11_isNamed 38 = .ok (.iconst 2, 1) := by decide +kernel
theorem dX11_isNamed_39 : decode cX11_isNamed 39 = .ok (.if_icmp .ne 69, 3) := by decide +kernel
theorem dX11_isNamed_42 : decode cX11_isNamed 42 = .ok (.aload_n 0, 1) := by decide +kernel
theorem dX11_isNamed_43 : decode cX11_isNamed 43 = .ok (.getfield 101, 3) := by decide +kernel
theorem dX11_isNamed_46 : decode cX11_isNamed 46 = .ok (.bipush 8, 2) := by decide +kernel
theorem dX11_isNamed_48 : decode cX11_isNamed 48 = .ok (.iload_n 1, 1) := by decide +kernel
theorem dX11_isNamed_49 : decode cX11_isNamed 49 = .ok (.imul, 1) := by decide +kernel
theorem dX11_isNamed_50 : decode cX11_isNamed 50 = .ok (.iload 4, 2) := by decide +kernel
theorem dX11_isNamed_52 : decode cX11_isNamed 52 = .ok (.iadd, 1) := by decide +kernel
theorem dX11_isNamed_53 : decode cX11_isNamed 53 = .ok (.baload, 1) := by decide +kernel
theorem dX11_isNamed_54 : decode cX11_isNamed 54 = .ok (.ifCond .ne 6, 3) := by decide +kernel
theorem dX11_isNamed_57 : decode cX11_isNamed 57 = .ok (.goto 51, 3) := by decide +kernel
theorem dX11_isNamed_60 : decode cX11_isNamed 60 = .ok (.iconst 0, 1) := by decide +kernel
theorem dX11_isNamed_61 : decode cX11_isNamed 61 = .ok (.istore 5, 2) := by decide +kernel
theorem dX11_isNamed_63 : decode cX11_isNamed 63 = .ok (.iload 5, 2) := by decide +kernel
theorem dX11_isNamed_65 : decode cX11_isNamed 65 = .ok (.iload_n 2, 1) := by decide +kernel
theorem dX11_isNamed_66 : decode cX11_isNamed 66 = .ok (.if_icmp .ge 42, 3) := by decide +kernel
theorem dX11_isNamed_69 : decode cX11_isNamed 69 = .ok (.iload_n 3, 1) := by decide +kernel
theorem dX11_isNamed_70 : decode cX11_isNamed 70 = .ok (.ifCond .ne 26, 3) := by decide +kernel
theorem dX11_isNamed_73 : decode cX11_isNamed 73 = .ok (.aload_n 0, 1) := by decide +kernel
theorem dX11_isNamed_74 : decode cX11_isNamed 74 = .ok (.getfield 89, 3) := by decide +kernel
theorem dX11_isNamed_77 : decode cX11_isNamed 77 = .ok (.bipush 8, 2) := by decide +kernel
theorem dX11_isNamed_79 : decode cX11_isNamed 79 = .ok (.iload_n 1, 1) := by decide +kernel
theorem dX11_isNamed_80 : decode cX11_isNamed 80 = .ok (.imul, 1) := by decide +kernel
theorem dX11_isNamed_81 : decode cX11_isNamed 81 = .ok (.iload 4, 2) := by decide +kernel
theorem dX11_isNamed_83 : decode cX11_isNamed 83 = .ok (.iadd, 1) := by decide +kernel
theorem dX11_isNamed_84 : decode cX11_isNamed 84 = .ok (.laload, 1) := by decide +kernel
theorem dX11_isNamed_85 : decode cX11_isNamed 85 = .ok (.aload_n 0, 1) := by decide +kernel
theorem dX11_isNamed_86 : decode cX11_isNamed 86 = .ok (.getfield 152, 3) := by decide +kernel
theorem dX11_isNamed_89 : decode cX11_isNamed 89 = .ok (.iload 5, 2) := by decide +kernel
theorem dX11_isNamed_91 : decode cX11_isNamed 91 = .ok (.laload, 1) := by decide +kernel
theorem dX11_isNamed_92 : decode cX11_isNamed 92 = .ok (.lcmp, 1) := by decide +kernel
theorem dX11_isNamed_93 : decode cX11_isNamed 93 = .ok (.ifCond .ne 7, 3) := by decide +kernel
theorem dX11_isNamed_96 : decode cX11_isNamed 96 = .ok (.iconst 1, 1) := by decide +kernel
theorem dX11_isNamed_97 : decode cX11_isNamed 97 = .ok (.goto 4, 3) := by decide +kernel
theorem dX11_isNamed_100 : decode cX11_isNamed 100 = .ok (.iconst 0, 1) := by decide +kernel
theorem dX11_isNamed_101 : decode cX11_isNamed 101 = .ok (.istore_n 3, 1) := by decide +kernel
theorem dX11_isNamed_102 : decode cX11_isNamed 102 = .ok (.iinc 5 1, 3) := by decide +kernel
theorem dX11_isNamed_105 : decode cX11_isNamed 105 = .ok (.goto (-42), 3) := by decide +kernel
theorem dX11_isNamed_108 : decode cX11_isNamed 108 = .ok (.iinc 4 1, 3) := by decide +kernel
theorem dX11_isNamed_111 : decode cX11_isNamed 111 = .ok (.goto (-106), 3) := by decide +kernel
theorem dX11_isNamed_114 : decode cX11_isNamed 114 = .ok (.iload_n 3, 1) := by decide +kernel
theorem dX11_isNamed_115 : decode cX11_isNamed 115 = .ok (.ireturn, 1) := by decide +kernel
theorem dX11_found_0 : decode cX11_found 0 = .ok (.aload_n 0, 1) := by decide +kernel
theorem dX11_found_1 : decode cX11_found 1 = .ok (.iconst 0, 1) := by decide +kernel
theorem dX11_found_2 : decode cX11_found 2 = .ok (.putfield 158, 3) := by decide +kernel
theorem dX11_found_5 : decode cX11_found 5 = .ok (.iload_n 1, 1) := by decide +kernel
theorem dX11_found_6 : decode cX11_found 6 = .ok (.ifCond .lt 20, 3) := by decide +kernel
theorem dX11_found_9 : decode cX11_found 9 = .ok (.iload_n 1, 1) := by decide +kernel
theorem dX11_found_10 : decode cX11_found 10 = .ok (.aload_n 0, 1) := by decide +kernel
theorem dX11_found_11 : decode cX11_found 11 = .ok (.getfield 382, 3) := by decide +kernel
theorem dX11_found_14 : decode cX11_found 14 = .ok (.if_icmp .ge 12, 3) := by decide +kernel
theorem dX11_found_17 : decode cX11_found 17 = .ok (.aload_n 0, 1) := by decide +kernel
theorem dX11_found_18 : decode cX11_found 18 = .ok (.getfield 155, 3) := by decide +kernel
theorem dX11_found_21 : decode cX11_found 21 = .ok (.iload_n 1, 1) := by decide +kernel
theorem dX11_found_22 : decode cX11_found 22 = .ok (.iaload, 1) := by decide +kernel
theorem dX11_found_23 : decode cX11_found 23 = .ok (.goto 4, 3) := by decide +kernel
theorem dX11_found_26 : decode cX11_found 26 = .ok (.iconst (-1), 1) := by decide +kernel
theorem dX11_found_27 : decode cX11_found 27 = .ok (.ireturn, 1) := by decide +kernel
theorem dX11_struck_0 : decode cX11_struck 0 = .ok (.aload_n 0, 1) := by decide +kernel
theorem dX11_struck_1 : decode cX11_struck 1 = .ok (.iconst 0, 1) := by decide +kernel
theorem dX11_struck_2 : decode cX11_struck 2 = .ok (.putfield 158, 3) := by decide +kernel
theorem dX11_struck_5 : decode cX11_struck 5 = .ok (.lload_n 1, 1) := by decide +kernel
theorem dX11_struck_6 : decode cX11_struck 6 = .ok (.invokestatic 350, 3) := by decide +kernel
theorem dX11_struck_9 : decode cX11_struck 9 = .ok (.ifCond .eq 10, 3) := by decide +kernel
theorem dX11_struck_12 : decode cX11_struck 12 = .ok (.iload_n 3, 1) := by decide +kernel
theorem dX11_struck_13 : decode cX11_struck 13 = .ok (.invokestatic 176, 3) := by decide +kernel
theorem dX11_struck_16 : decode cX11_struck 16 = .ok (.ifCond .ne 5, 3) := by decide +kernel
theorem dX11_struck_19 : decode cX11_struck 19 = .ok (.iconst (-1), 1) := by decide +kernel
theorem dX11_struck_20 : decode cX11_struck 20 = .ok (.ireturn, 1) := by decide +kernel
theorem dX11_struck_21 : decode cX11_struck 21 = .ok (.iconst 0, 1) := by decide +kernel
theorem dX11_struck_22 : decode cX11_struck 22 = .ok (.istore 4, 2) := by decide +kernel
theorem dX11_struck_24 : decode cX11_struck 24 = .ok (.iconst 0, 1) := by decide +kernel
theorem dX11_struck_25 : decode cX11_struck 25 = .ok (.istore 5, 2) := by decide +kernel
theorem dX11_struck_27 : decode cX11_struck 27 = .ok (.iload 5, 2) := by decide +kernel
theorem dX11_struck_29 : decode cX11_struck 29 = .ok (.aload_n 0, 1) := by decide +kernel
theorem dX11_struck_30 : decode cX11_struck 30 = .ok (.getfield 173, 3) := by decide +kernel
theorem dX11_struck_33 : decode cX11_struck 33 = .ok (.if_icmp .ge 43, 3) := by decide +kernel
theorem dX11_struck_36 : decode cX11_struck 36 = .ok (.iload 4, 2) := by decide +kernel
theorem dX11_struck_38 : decode cX11_struck 38 = .ok (.ifCond .ne 25, 3) := by decide +kernel
theorem dX11_struck_41 : decode cX11_struck 41 = .ok (.aload_n 0, 1) := by decide +kernel
theorem dX11_struck_42 : decode cX11_struck 42 = .ok (.getfield 98, 3) := by decide +kernel
theorem dX11_struck_45 : decode cX11_struck 45 = .ok (.iload 5, 2) := by decide +kernel
theorem dX11_struck_47 : decode cX11_struck 47 = .ok (.laload, 1) := by decide +kernel
theorem dX11_struck_48 : decode cX11_struck 48 = .ok (.lload_n 1, 1) := by decide +kernel
theorem dX11_struck_49 : decode cX11_struck 49 = .ok (.lcmp, 1) := by decide +kernel
theorem dX11_struck_50 : decode cX11_struck 50 = .ok (.ifCond .ne 17, 3) := by decide +kernel
theorem dX11_struck_53 : decode cX11_struck 53 = .ok (.aload_n 0, 1) := by decide +kernel
theorem dX11_struck_54 : decode cX11_struck 54 = .ok (.iload 5, 2) := by decide +kernel
theorem dX11_struck_56 : decode cX11_struck 56 = .ok (.iload_n 3, 1) := by decide +kernel
theorem dX11_struck_57 : decode cX11_struck 57 = .ok (.invokevirtual 368, 3) := by decide +kernel
theorem dX11_struck_60 : decode cX11_struck 60 = .ok (.ifCond .eq 7, 3) := by decide +kernel
theorem dX11_struck_63 : decode cX11_struck 63 = .ok (.iconst 1, 1) := by decide +kernel
theorem dX11_struck_64 : decode cX11_struck 64 = .ok (.goto 4, 3) := by decide +kernel
theorem dX11_struck_67 : decode cX11_struck 67 = .ok (.iconst 0, 1) := by decide +kernel
theorem dX11_struck_68 : decode cX11_struck 68 = .ok (.istore 4, 2) := by decide +kernel
theorem dX11_struck_70 : decode cX11_struck 70 = .ok (.iinc 5 1, 3) := by decide +kernel
theorem dX11_struck_73 : decode cX11_struck 73 = .ok (.goto (-46), 3) := by decide +kernel
theorem dX11_struck_76 : decode cX11_struck 76 = .ok (.iload 4, 2) := by decide +kernel
theorem dX11_struck_78 : decode cX11_struck 78 = .ok (.ifCond .eq 7, 3) := by decide +kernel
theorem dX11_struck_81 : decode cX11_struck 81 = .ok (.iconst 1, 1) := by decide +kernel
theorem dX11_struck_82 : decode cX11_struck 82 = .ok (.goto 4, 3) := by decide +kernel
theorem dX11_struck_85 : decode cX11_struck 85 = .ok (.iconst 0, 1) := by decide +kernel
theorem dX11_struck_86 : decode cX11_struck 86 = .ok (.ireturn, 1) := by decide +kernel
theorem dX11_count_0 : decode cX11_count 0 = .ok (.aload_n 0, 1) := by decide +kernel
theorem dX11_count_1 : decode cX11_count 1 = .ok (.iconst 0, 1) := by decide +kernel
theorem dX11_count_2 : decode cX11_count 2 = .ok (.putfield 158, 3) := by decide +kernel
theorem dX11_count_5 : decode cX11_count 5 = .ok (.iload_n 1, 1) := by decide +kernel
theorem dX11_count_6 : decode cX11_count 6 = .ok (.tableswitch 77 0 6 #[42, 47, 52, 57, 62, 67, 72], 42) := by decide +kernel
theorem dX11_count_48 : decode cX11_count 48 = .ok (.aload_n 0, 1) := by decide +kernel
theorem dX11_count_49 : decode cX11_count 49 = .ok (.getfield 167, 3) := by decide +kernel
theorem dX11_count_52 : decode cX11_count 52 = .ok (.ireturn, 1) := by decide +kernel
theorem dX11_count_53 : decode cX11_count 53 = .ok (.aload_n 0, 1) := by decide +kernel
theorem dX11_count_54 : decode cX11_count 54 = .ok (.getfield 170, 3) := by decide +kernel
theorem dX11_count_57 : decode cX11_count 57 = .ok (.ireturn, 1) := by decide +kernel
theorem dX11_count_58 : decode cX11_count 58 = .ok (.aload_n 0, 1) := by decide +kernel
theorem dX11_count_59 : decode cX11_count 59 = .ok (.getfield 173, 3) := by decide +kernel
theorem dX11_count_62 : decode cX11_count 62 = .ok (.ireturn, 1) := by decide +kernel
theorem dX11_count_63 : decode cX11_count 63 = .ok (.aload_n 0, 1) := by decide +kernel
theorem dX11_count_64 : decode cX11_count 64 = .ok (.getfield 357, 3) := by decide +kernel
theorem dX11_count_67 : decode cX11_count 67 = .ok (.ireturn, 1) := by decide +kernel
theorem dX11_count_68 : decode cX11_count 68 = .ok (.aload_n 0, 1) := by decide +kernel
theorem dX11_count_69 : decode cX11_count 69 = .ok (.invokevirtual 362, 3) := by decide +kernel
theorem dX11_count_72 : decode cX11_count 72 = .ok (.ireturn, 1) := by decide +kernel
theorem dX11_count_73 : decode cX11_count 73 = .ok (.aload_n 0, 1) := by decide +kernel
theorem dX11_count_74 : decode cX11_count 74 = .ok (.getfield 164, 3) := by decide +kernel
theorem dX11_count_77 : decode cX11_count 77 = .ok (.ireturn, 1) := by decide +kernel
theorem dX11_count_78 : decode cX11_count 78 = .ok (.aload_n 0, 1) := by decide +kernel
theorem dX11_count_79 : decode cX11_count 79 = .ok (.getfield 264, 3) := by decide +kernel
theorem dX11_count_82 : decode cX11_count 82 = .ok (.ireturn, 1) := by decide +kernel
theorem dX11_count_83 : decode cX11_count 83 = .ok (.iconst (-1), 1) := by decide +kernel
theorem dX11_count_84 : decode cX11_count 84 = .ok (.ireturn, 1) := by decide +kernel
theorem dX11_trouble_0 : decode cX11_trouble 0 = .ok (.aload_n 0, 1) := by decide +kernel
theorem dX11_trouble_1 : decode cX11_trouble 1 = .ok (.iconst 0, 1) := by decide +kernel
theorem dX11_trouble_2 : decode cX11_trouble 2 = .ok (.putfield 158, 3) := by decide +kernel
theorem dX11_trouble_5 : decode cX11_trouble 5 = .ok (.aload_n 0, 1) := by decide +kernel
theorem dX11_trouble_6 : decode cX11_trouble 6 = .ok (.getfield 161, 3) := by decide +kernel
theorem dX11_trouble_9 : decode cX11_trouble 9 = .ok (.ireturn, 1) := by decide +kernel
theorem dJ9_max_7cf53_0 : decode cJ9_max_7cf53 0 = .ok (.iload_n 0, 1) := by decide +kernel
theorem dJ9_max_7cf53_1 : decode cJ9_max_7cf53 1 = .ok (.iload_n 1, 1) := by decide +kernel
theorem dJ9_max_7cf53_2 : decode cJ9_max_7cf53 2 = .ok (.if_icmp .lt 7, 3) := by decide +kernel
theorem dJ9_max_7cf53_5 : decode cJ9_max_7cf53 5 = .ok (.iload_n 0, 1) := by decide +kernel
theorem dJ9_max_7cf53_6 : decode cJ9_max_7cf53 6 = .ok (.goto 4, 3) := by decide +kernel
theorem dJ9_max_7cf53_9 : decode cJ9_max_7cf53 9 = .ok (.iload_n 1, 1) := by decide +kernel
theorem dJ9_max_7cf53_10 : decode cJ9_max_7cf53 10 = .ok (.ireturn, 1) := by decide +kernel
theorem dJ9_min_7cf53_0 : decode cJ9_min_7cf53 0 = .ok (.iload_n 0, 1) := by decide +kernel
theorem dJ9_min_7cf53_1 : decode cJ9_min_7cf53 1 = .ok (.iload_n 1, 1) := by decide +kernel
theorem dJ9_min_7cf53_2 : decode cJ9_min_7cf53 2 = .ok (.if_icmp .gt 7, 3) := by decide +kernel
theorem dJ9_min_7cf53_5 : decode cJ9_min_7cf53 5 = .ok (.iload_n 0, 1) := by decide +kernel
theorem dJ9_min_7cf53_6 : decode cJ9_min_7cf53 6 = .ok (.goto 4, 3) := by decide +kernel
theorem dJ9_min_7cf53_9 : decode cJ9_min_7cf53 9 = .ok (.iload_n 1, 1) := by decide +kernel
theorem dJ9_min_7cf53_10 : decode cJ9_min_7cf53 10 = .ok (.ireturn, 1) := by decide +kernel
theorem dJ0_length_8abf5_0 : decode cJ0_length_8abf5 0 = .ok (.aload_n 0, 1) := by decide +kernel
theorem dJ0_length_8abf5_1 : decode cJ0_length_8abf5 1 = .ok (.getfield 9, 3) := by decide +kernel
theorem dJ0_length_8abf5_4 : decode cJ0_length_8abf5 4 = .ok (.arraylength, 1) := by decide +kernel
theorem dJ0_length_8abf5_5 : decode cJ0_length_8abf5 5 = .ok (.aload_n 0, 1) := by decide +kernel
theorem dJ0_length_8abf5_6 : decode cJ0_length_8abf5 6 = .ok (.invokevirtual 335, 3) := by decide +kernel
theorem dJ0_length_8abf5_9 : decode cJ0_length_8abf5 9 = .ok (.ishr, 1) := by decide +kernel
theorem dJ0_length_8abf5_10 : decode cJ0_length_8abf5 10 = .ok (.ireturn, 1) := by decide +kernel
theorem dJ0_charAt_5068e_0 : decode cJ0_charAt_5068e 0 = .ok (.aload_n 0, 1) := by decide +kernel
theorem dJ0_charAt_5068e_1 : decode cJ0_charAt_5068e 1 = .ok (.invokevirtual 492, 3) := by decide +kernel
theorem dJ0_charAt_5068e_4 : decode cJ0_charAt_5068e 4 = .ok (.ifCond .eq 12, 3) := by decide +kernel
theorem dJ0_charAt_5068e_7 : decode cJ0_charAt_5068e 7 = .ok (.aload_n 0, 1) := by decide +kernel
theorem dJ0_charAt_5068e_8 : decode cJ0_charAt_5068e 8 = .ok (.getfield 9, 3) := by decide +kernel
theorem dJ0_charAt_5068e_11 : decode cJ0_charAt_5068e 11 = .ok (.iload_n 1, 1) := by decide +kernel
theorem dJ0_charAt_5068e_12 : decode cJ0_charAt_5068e 12 = .ok (.invokestatic 495, 3) := by decide +kernel
theorem dJ0_charAt_5068e_15 : decode cJ0_charAt_5068e 15 = .ok (.ireturn, 1) := by decide +kernel
theorem dJ0_charAt_5068e_16 : decode cJ0_charAt_5068e 16 = .ok (.aload_n 0, 1) := by decide +kernel
theorem dJ0_charAt_5068e_17 : decode cJ0_charAt_5068e 17 = .ok (.getfield 9, 3) := by decide +kernel
theorem dJ0_charAt_5068e_20 : decode cJ0_charAt_5068e 20 = .ok (.iload_n 1, 1) := by decide +kernel
theorem dJ0_charAt_5068e_21 : decode cJ0_charAt_5068e 21 = .ok (.invokestatic 498, 3) := by decide +kernel
theorem dJ0_charAt_5068e_24 : decode cJ0_charAt_5068e 24 = .ok (.ireturn, 1) := by decide +kernel
theorem dJ0_coder_7d493_0 : decode cJ0_coder_7d493 0 = .ok (.getstatic 38, 3) := by decide +kernel
theorem dJ0_coder_7d493_3 : decode cJ0_coder_7d493 3 = .ok (.ifCond .eq 10, 3) := by decide +kernel
theorem dJ0_coder_7d493_6 : decode cJ0_coder_7d493 6 = .ok (.aload_n 0, 1) := by decide +kernel
theorem dJ0_coder_7d493_7 : decode cJ0_coder_7d493 7 = .ok (.getfield 15, 3) := by decide +kernel
theorem dJ0_coder_7d493_10 : decode cJ0_coder_7d493 10 = .ok (.goto 4, 3) := by decide +kernel
theorem dJ0_coder_7d493_13 : decode cJ0_coder_7d493 13 = .ok (.iconst 1, 1) := by decide +kernel
theorem dJ0_coder_7d493_14 : decode cJ0_coder_7d493 14 = .ok (.ireturn, 1) := by decide +kernel
theorem dJ0_isLatin1_aae02_0 : decode cJ0_isLatin1_aae02 0 = .ok (.getstatic 38, 3) := by decide +kernel
theorem dJ0_isLatin1_aae02_3 : decode cJ0_isLatin1_aae02 3 = .ok (.ifCond .eq 14, 3) := by decide +kernel
theorem dJ0_isLatin1_aae02_6 : decode cJ0_isLatin1_aae02 6 = .ok (.aload_n 0, 1) := by decide +kernel
theorem dJ0_isLatin1_aae02_7 : decode cJ0_isLatin1_aae02 7 = .ok (.getfield 15, 3) := by decide +kernel
theorem dJ0_isLatin1_aae02_10 : decode cJ0_isLatin1_aae02 10 = .ok (.ifCond .ne 7, 3) := by decide +kernel
theorem dJ0_isLatin1_aae02_13 : decode cJ0_isLatin1_aae02 13 = .ok (.iconst 1, 1) := by decide +kernel
theorem dJ0_isLatin1_aae02_14 : decode cJ0_isLatin1_aae02 14 = .ok (.goto 4, 3) := by decide +kernel
theorem dJ0_isLatin1_aae02_17 : decode cJ0_isLatin1_aae02 17 = .ok (.iconst 0, 1) := by decide +kernel
theorem dJ0_isLatin1_aae02_18 : decode cJ0_isLatin1_aae02 18 = .ok (.ireturn, 1) := by decide +kernel
theorem dJ0_checkIndex_df160_0 : decode cJ0_checkIndex_df160 0 = .ok (.iload_n 0, 1) := by decide +kernel
theorem dJ0_checkIndex_df160_1 : decode cJ0_checkIndex_df160 1 = .ok (.iload_n 1, 1) := by decide +kernel
theorem dJ0_checkIndex_df160_2 : decode cJ0_checkIndex_df160 2 = .ok (.getstatic 1053, 3) := by decide +kernel
theorem dJ0_checkIndex_df160_5 : decode cJ0_checkIndex_df160 5 = .ok (.invokestatic 1059, 3) := by decide +kernel
theorem dJ0_checkIndex_df160_8 : decode cJ0_checkIndex_df160 8 = .ok (.pop, 1) := by decide +kernel
theorem dJ0_checkIndex_df160_9 : decode cJ0_checkIndex_df160 9 = .ok (.return_, 1) := by decide +kernel
theorem dJ1_charAt_3b067_0 : decode cJ1_charAt_3b067 0 = .ok (.iload_n 1, 1) := by decide +kernel
theorem dJ1_charAt_3b067_1 : decode cJ1_charAt_3b067 1 = .ok (.aload_n 0, 1) := by decide +kernel
theorem dJ1_charAt_3b067_2 : decode cJ1_charAt_3b067 2 = .ok (.arraylength, 1) := by decide +kernel
theorem dJ1_charAt_3b067_3 : decode cJ1_charAt_3b067 3 = .ok (.invokestatic 9, 3) := by decide +kernel
theorem dJ1_charAt_3b067_6 : decode cJ1_charAt_3b067 6 = .ok (.aload_n 0, 1) := by decide +kernel
theorem dJ1_charAt_3b067_7 : decode cJ1_charAt_3b067 7 = .ok (.iload_n 1, 1) := by decide +kernel
theorem dJ1_charAt_3b067_8 : decode cJ1_charAt_3b067 8 = .ok (.baload, 1) := by decide +kernel
theorem dJ1_charAt_3b067_9 : decode cJ1_charAt_3b067 9 = .ok (.sipush 255, 3) := by decide +kernel
theorem dJ1_charAt_3b067_12 : decode cJ1_charAt_3b067 12 = .ok (.iand, 1) := by decide +kernel
theorem dJ1_charAt_3b067_13 : decode cJ1_charAt_3b067 13 = .ok (.i2c, 1) := by decide +kernel
theorem dJ1_charAt_3b067_14 : decode cJ1_charAt_3b067 14 = .ok (.ireturn, 1) := by decide +kernel
theorem dJ2_getChar_3b067_0 : decode cJ2_getChar_3b067 0 = .ok (.getstatic 44, 3) := by decide +kernel
theorem dJ2_getChar_3b067_3 : decode cJ2_getChar_3b067 3 = .ok (.ifCond .ne 25, 3) := by decide +kernel
theorem dJ2_getChar_3b067_6 : decode cJ2_getChar_3b067 6 = .ok (.iload_n 1, 1) := by decide +kernel
theorem dJ2_getChar_3b067_7 : decode cJ2_getChar_3b067 7 = .ok (.ifCond .lt 11, 3) := by decide +kernel
theorem dJ2_getChar_3b067_10 : decode cJ2_getChar_3b067 10 = .ok (.iload_n 1, 1) := by decide +kernel
theorem dJ2_getChar_3b067_11 : decode cJ2_getChar_3b067 11 = .ok (.aload_n 0, 1) := by decide +kernel
theorem dJ2_getChar_3b067_12 : decode cJ2_getChar_3b067 12 = .ok (.invokestatic 48, 3) := by decide +kernel
theorem dJ2_getChar_3b067_15 : decode cJ2_getChar_3b067 15 = .ok (.if_icmp .lt 13, 3) := by decide +kernel
theorem dJ2_getChar_3b067_18 : decode cJ2_getChar_3b067 18 = .ok (.new 52, 3) := by decide +kernel
theorem dJ2_getChar_3b067_21 : decode cJ2_getChar_3b067 21 = .ok (.dup, 1) := by decide +kernel
theorem dJ2_getChar_3b067_22 : decode cJ2_getChar_3b067 22 = .ok (.ldc 54, 2) := by decide +kernel
theorem dJ2_getChar_3b067_24 : decode cJ2_getChar_3b067 24 = .ok (.invokespecial 56, 3) := by decide +kernel
theorem dJ2_getChar_3b067_27 : decode cJ2_getChar_3b067 27 = .ok (.athrow, 1) := by decide +kernel
theorem dJ2_getChar_3b067_28 : decode cJ2_getChar_3b067 28 = .ok (.iload_n 1, 1) := by decide +kernel
theorem dJ2_getChar_3b067_29 : decode cJ2_getChar_3b067 29 = .ok (.iconst 1, 1) := by decide +kernel
theorem dJ2_getChar_3b067_30 : decode cJ2_getChar_3b067 30 = .ok (.ishl, 1) := by decide +kernel
theorem dJ2_getChar_3b067_31 : decode cJ2_getChar_3b067 31 = .ok (.istore_n 1, 1) := by decide +kernel
theorem dJ2_getChar_3b067_32 : decode cJ2_getChar_3b067 32 = .ok (.aload_n 0, 1) := by decide +kernel
theorem dJ2_getChar_3b067_33 : decode cJ2_getChar_3b067 33 = .ok (.iload_n 1, 1) := by decide +kernel
theorem dJ2_getChar_3b067_34 : decode cJ2_getChar_3b067 34 = .ok (.iinc 1 1, 3) := by decide +kernel
theorem dJ2_getChar_3b067_37 : decode cJ2_getChar_3b067 37 = .ok (.baload, 1) := by decide +kernel
theorem dJ2_getChar_3b067_38 : decode cJ2_getChar_3b067 38 = .ok (.sipush 255, 3) := by decide +kernel
theorem dJ2_getChar_3b067_41 : decode cJ2_getChar_3b067 41 = .ok (.iand, 1) := by decide +kernel
theorem dJ2_getChar_3b067_42 : decode cJ2_getChar_3b067 42 = .ok (.getstatic 59, 3) := by decide +kernel
theorem dJ2_getChar_3b067_45 : decode cJ2_getChar_3b067 45 = .ok (.ishl, 1) := by decide +kernel
theorem dJ2_getChar_3b067_46 : decode cJ2_getChar_3b067 46 = .ok (.aload_n 0, 1) := by decide +kernel
theorem dJ2_getChar_3b067_47 : decode cJ2_getChar_3b067 47 = .ok (.iload_n 1, 1) := by decide +kernel
theorem dJ2_getChar_3b067_48 : decode cJ2_getChar_3b067 48 = .ok (.baload, 1) := by decide +kernel
theorem dJ2_getChar_3b067_49 : decode cJ2_getChar_3b067 49 = .ok (.sipush 255, 3) := by decide +kernel
theorem dJ2_getChar_3b067_52 : decode cJ2_getChar_3b067 52 = .ok (.iand, 1) := by decide +kernel
theorem dJ2_getChar_3b067_53 : decode cJ2_getChar_3b067 53 = .ok (.getstatic 63, 3) := by decide +kernel
theorem dJ2_getChar_3b067_56 : decode cJ2_getChar_3b067 56 = .ok (.ishl, 1) := by decide +kernel
theorem dJ2_getChar_3b067_57 : decode cJ2_getChar_3b067 57 = .ok (.ior, 1) := by decide +kernel
theorem dJ2_getChar_3b067_58 : decode cJ2_getChar_3b067 58 = .ok (.i2c, 1) := by decide +kernel
theorem dJ2_getChar_3b067_59 : decode cJ2_getChar_3b067 59 = .ok (.ireturn, 1) := by decide +kernel
theorem dJ2_length_9d52b_0 : decode cJ2_length_9d52b 0 = .ok (.aload_n 0, 1) := by decide +kernel
theorem dJ2_length_9d52b_1 : decode cJ2_length_9d52b 1 = .ok (.arraylength, 1) := by decide +kernel
theorem dJ2_length_9d52b_2 : decode cJ2_length_9d52b 2 = .ok (.iconst 1, 1) := by decide +kernel
theorem dJ2_length_9d52b_3 : decode cJ2_length_9d52b 3 = .ok (.ishr, 1) := by decide +kernel
theorem dJ2_length_9d52b_4 : decode cJ2_length_9d52b 4 = .ok (.ireturn, 1) := by decide +kernel
theorem dJ2_charAt_3b067_0 : decode cJ2_charAt_3b067 0 = .ok (.iload_n 1, 1) := by decide +kernel
theorem dJ2_charAt_3b067_1 : decode cJ2_charAt_3b067 1 = .ok (.aload_n 0, 1) := by decide +kernel
theorem dJ2_charAt_3b067_2 : decode cJ2_charAt_3b067 2 = .ok (.invokestatic 67, 3) := by decide +kernel
theorem dJ2_charAt_3b067_5 : decode cJ2_charAt_3b067 5 = .ok (.aload_n 0, 1) := by decide +kernel
theorem dJ2_charAt_3b067_6 : decode cJ2_charAt_3b067 6 = .ok (.iload_n 1, 1) := by decide +kernel
theorem dJ2_charAt_3b067_7 : decode cJ2_charAt_3b067 7 = .ok (.invokestatic 71, 3) := by decide +kernel
theorem dJ2_charAt_3b067_10 : decode cJ2_charAt_3b067 10 = .ok (.ireturn, 1) := by decide +kernel
theorem dJ2_checkIndex_2214a_0 : decode cJ2_checkIndex_2214a 0 = .ok (.iload_n 0, 1) := by decide +kernel
theorem dJ2_checkIndex_2214a_1 : decode cJ2_checkIndex_2214a 1 = .ok (.aload_n 1, 1) := by decide +kernel
theorem dJ2_checkIndex_2214a_2 : decode cJ2_checkIndex_2214a 2 = .ok (.invokestatic 48, 3) := by decide +kernel
theorem dJ2_checkIndex_2214a_5 : decode cJ2_checkIndex_2214a 5 = .ok (.invokestatic 414, 3) := by decide +kernel
theorem dJ2_checkIndex_2214a_8 : decode cJ2_checkIndex_2214a 8 = .ok (.return_, 1) := by decide +kernel
theorem dJ7_fill_d0a16_0 : decode cJ7_fill_d0a16 0 = .ok (.iconst 0, 1) := by decide +kernel
theorem dJ7_fill_d0a16_1 : decode cJ7_fill_d0a16 1 = .ok (.istore_n 3, 1) := by decide +kernel
theorem dJ7_fill_d0a16_2 : decode cJ7_fill_d0a16 2 = .ok (.aload_n 0, 1) := by decide +kernel
theorem dJ7_fill_d0a16_3 : decode cJ7_fill_d0a16 3 = .ok (.arraylength, 1) := by decide +kernel
theorem dJ7_fill_d0a16_4 : decode cJ7_fill_d0a16 4 = .ok (.istore 4, 2) := by decide +kernel
theorem dJ7_fill_d0a16_6 : decode cJ7_fill_d0a16 6 = .ok (.iload_n 3, 1) := by decide +kernel
theorem dJ7_fill_d0a16_7 : decode cJ7_fill_d0a16 7 = .ok (.iload 4, 2) := by decide +kernel
theorem dJ7_fill_d0a16_9 : decode cJ7_fill_d0a16 9 = .ok (.if_icmp .ge 13, 3) := by decide +kernel
theorem dJ7_fill_d0a16_12 : decode cJ7_fill_d0a16 12 = .ok (.aload_n 0, 1) := by decide +kernel
theorem dJ7_fill_d0a16_13 : decode cJ7_fill_d0a16 13 = .ok (.iload_n 3, 1) := by decide +kernel
theorem dJ7_fill_d0a16_14 : decode cJ7_fill_d0a16 14 = .ok (.lload_n 1, 1) := by decide +kernel
theorem dJ7_fill_d0a16_15 : decode cJ7_fill_d0a16 15 = .ok (.lastore, 1) := by decide +kernel
theorem dJ7_fill_d0a16_16 : decode cJ7_fill_d0a16 16 = .ok (.iinc 3 1, 3) := by decide +kernel
theorem dJ7_fill_d0a16_19 : decode cJ7_fill_d0a16 19 = .ok (.goto (-13), 3) := by decide +kernel
theorem dJ7_fill_d0a16_22 : decode cJ7_fill_d0a16 22 = .ok (.return_, 1) := by decide +kernel
theorem dJ3_checkIndex_8e157_0 : decode cJ3_checkIndex_8e157 0 = .ok (.iload_n 0, 1) := by decide +kernel
theorem dJ3_checkIndex_8e157_1 : decode cJ3_checkIndex_8e157 1 = .ok (.ifCond .lt 8, 3) := by decide +kernel
theorem dJ3_checkIndex_8e157_4 : decode cJ3_checkIndex_8e157 4 = .ok (.iload_n 0, 1) := by decide +kernel
theorem dJ3_checkIndex_8e157_5 : decode cJ3_checkIndex_8e157 5 = .ok (.iload_n 1, 1) := by decide +kernel
theorem dJ3_checkIndex_8e157_6 : decode cJ3_checkIndex_8e157 6 = .ok (.if_icmp .lt 10, 3) := by decide +kernel
theorem dJ3_checkIndex_8e157_9 : decode cJ3_checkIndex_8e157 9 = .ok (.aload_n 2, 1) := by decide +kernel
theorem dJ3_checkIndex_8e157_10 : decode cJ3_checkIndex_8e157 10 = .ok (.iload_n 0, 1) := by decide +kernel
theorem dJ3_checkIndex_8e157_11 : decode cJ3_checkIndex_8e157 11 = .ok (.iload_n 1, 1) := by decide +kernel
theorem dJ3_checkIndex_8e157_12 : decode cJ3_checkIndex_8e157 12 = .ok (.invokestatic 95, 3) := by decide +kernel
theorem dJ3_checkIndex_8e157_15 : decode cJ3_checkIndex_8e157 15 = .ok (.athrow, 1) := by decide +kernel
theorem dJ3_checkIndex_8e157_16 : decode cJ3_checkIndex_8e157 16 = .ok (.iload_n 0, 1) := by decide +kernel
theorem dJ3_checkIndex_8e157_17 : decode cJ3_checkIndex_8e157 17 = .ok (.ireturn, 1) := by decide +kernel
end
section
theorem dL_law_0 : decode cL_law 0 = .ok (.new 7, 3) := by decide +kernel
theorem dL_law_3 : decode cL_law 3 = .ok (.dup, 1) := by decide +kernel
theorem dL_law_4 : decode cL_law 4 = .ok (.invokespecial 9, 3) := by decide +kernel
theorem dL_law_7 : decode cL_law 7 = .ok (.astore_n 1, 1) := by decide +kernel
theorem dL_law_8 : decode cL_law 8 = .ok (.new 10, 3) := by decide +kernel
theorem dL_law_11 : decode cL_law 11 = .ok (.dup, 1) := by decide +kernel
theorem dL_law_12 : decode cL_law 12 = .ok (.invokespecial 12, 3) := by decide +kernel
theorem dL_law_15 : decode cL_law 15 = .ok (.astore_n 2, 1) := by decide +kernel
theorem dL_law_16 : decode cL_law 16 = .ok (.iconst 0, 1) := by decide +kernel
theorem dL_law_17 : decode cL_law 17 = .ok (.istore_n 3, 1) := by decide +kernel
theorem dL_law_18 : decode cL_law 18 = .ok (.iload_n 3, 1) := by decide +kernel
theorem dL_law_19 : decode cL_law 19 = .ok (.aload_n 0, 1) := by decide +kernel
theorem dL_law_20 : decode cL_law 20 = .ok (.arraylength, 1) := by decide +kernel
theorem dL_law_21 : decode cL_law 21 = .ok (.bipush 6, 2) := by decide +kernel
theorem dL_law_23 : decode cL_law 23 = .ok (.isub, 1) := by decide +kernel
theorem dL_law_24 : decode cL_law 24 = .ok (.if_icmp .gt 1313, 3) := by decide +kernel
theorem dL_law_27 : decode cL_law 27 = .ok (.aload_n 0, 1) := by decide +kernel
theorem dL_law_28 : decode cL_law 28 = .ok (.iload_n 3, 1) := by decide +kernel
theorem dL_law_29 : decode cL_law 29 = .ok (.iaload, 1) := by decide +kernel
theorem dL_law_30 : decode cL_law 30 = .ok (.bipush 31, 2) := by decide +kernel
theorem dL_law_32 : decode cL_law 32 = .ok (.iand, 1) := by decide +kernel
theorem dL_law_33 : decode cL_law 33 = .ok (.tableswitch 1298 0 29 #[135, 184, 207, 266, 329, 352, 405, 418, 431, 444, 487, 510, 544, 577, 630, 663, 766, 829, 882, 915, 948, 991, 1034, 1067, 1100, 1163, 1186, 1249, 1262, 1285], 135) := by decide +kernel
theorem dL_law_168 : decode cL_law 168 = .ok (.aload_n 1, 1) := by decide +kernel
theorem dL_law_169 : decode cL_law 169 = .ok (.aload_n 0, 1) := by decide +kernel
theorem dL_law_170 : decode cL_law 170 = .ok (.iload_n 3, 1) := by decide +kernel
theorem dL_law_171 : decode cL_law 171 = .ok (.iconst 1, 1) := by decide +kernel
theorem dL_law_172 : decode cL_law 172 = .ok (.iadd, 1) := by decide +kernel
theorem dL_law_173 : decode cL_law 173 = .ok (.iaload, 1) := by decide +kernel
theorem dL_law_174 : decode cL_law 174 = .ok (.aload_n 0, 1) := by decide +kernel
theorem dL_law_175 : decode cL_law 175 = .ok (.iload_n 3, 1) := by decide +kernel
theorem dL_law_176 : decode cL_law 176 = .ok (.iconst 2, 1) := by decide +kernel
theorem dL_law_177 : decode cL_law 177 = .ok (.iadd, 1) := by decide +kernel
theorem dL_law_178 : decode cL_law 178 = .ok (.iaload, 1) := by decide +kernel
theorem dL_law_179 : decode cL_law 179 = .ok (.ifCond .eq 7, 3) := by decide +kernel
theorem dL_law_182 : decode cL_law 182 = .ok (.iconst 1, 1) := by decide +kernel
theorem dL_law_183 : decode cL_law 183 = .ok (.goto 4, 3) := by decide +kernel
theorem dL_law_186 : decode cL_law 186 = .ok (.iconst 0, 1) := by decide +kernel
theorem dL_law_187 : decode cL_law 187 = .ok (.invokevirtual 13, 3) := by decide +kernel
theorem dL_law_190 : decode cL_law 190 = .ok (.aload_n 2, 1) := by decide +kernel
theorem dL_law_191 : decode cL_law 191 = .ok (.aload_n 0, 1) := by decide +kernel
theorem dL_law_192 : decode cL_law 192 = .ok (.iload_n 3, 1) := by decide +kernel
theorem dL_law_193 : decode cL_law 193 = .ok (.iconst 1, 1) := by decide +kernel
theorem dL_law_194 : decode cL_law 194 = .ok (.iadd, 1) := by decide +kernel
theorem dL_law_195 : decode cL_law 195 = .ok (.iaload, 1) := by decide +kernel
theorem dL_law_196 : decode cL_law 196 = .ok (.aload_n 0, 1) := by decide +kernel
theorem dL_law_197 : decode cL_law 197 = .ok (.iload_n 3, 1) := by decide +kernel
theorem dL_law_198 : decode cL_law 198 = .ok (.iconst 2, 1) := by decide +kernel
theorem dL_law_199 : decode cL_law 199 = .ok (.iadd, 1) := by decide +kernel
theorem dL_law_200 : decode cL_law 200 = .ok (.iaload, 1) := by decide +kernel
theorem dL_law_201 : decode cL_law 201 = .ok (.ifCond .eq 7, 3) := by decide +kernel
theorem dL_law_204 : decode cL_law 204 = .ok (.iconst 1, 1) := by decide +kernel
theorem dL_law_205 : decode cL_law 205 = .ok (.goto 4, 3) := by decide +kernel
theorem dL_law_208 : decode cL_law 208 = .ok (.iconst 0, 1) := by decide +kernel
theorem dL_law_209 : decode cL_law 209 = .ok (.invokevirtual 17, 3) := by decide +kernel
theorem dL_law_212 : decode cL_law 212 = .ok (.if_icmp .eq 1119, 3) := by decide +kernel
theorem dL_law_215 : decode cL_law 215 = .ok (.iconst 0, 1) := by decide +kernel
theorem dL_law_216 : decode cL_law 216 = .ok (.ireturn, 1) := by decide +kernel
theorem dL_law_217 : decode cL_law 217 = .ok (.aload_n 1, 1) := by decide +kernel
theorem dL_law_218 : decode cL_law 218 = .ok (.aload_n 0, 1) := by decide +kernel
theorem dL_law_219 : decode cL_law 219 = .ok (.iload_n 3, 1) := by decide +kernel
theorem dL_law_220 : decode cL_law 220 = .ok (.iconst 1, 1) := by decide +kernel
theorem dL_law_221 : decode cL_law 221 = .ok (.iadd, 1) := by decide +kernel
theorem dL_law_222 : decode cL_law 222 = .ok (.iaload, 1) := by decide +kernel
theorem dL_law_223 : decode cL_law 223 = .ok (.invokevirtual 18, 3) := by decide +kernel
theorem dL_law_226 : decode cL_law 226 = .ok (.aload_n 2, 1) := by decide +kernel
theorem dL_law_227 : decode cL_law 227 = .ok (.aload_n 0, 1) := by decide +kernel
theorem dL_law_228 : decode cL_law 228 = .ok (.iload_n 3, 1) := by decide +kernel
theorem dL_law_229 : decode cL_law 229 = .ok (.iconst 1, 1) := by decide +kernel
theorem dL_law_230 : decode cL_law 230 = .ok (.iadd, 1) := by decide +kernel
theorem dL_law_231 : decode cL_law 231 = .ok (.iaload, 1) := by decide +kernel
theorem dL_law_232 : decode cL_law 232 = .ok (.invokevirtual 22, 3) := by decide +kernel
theorem dL_law_235 : decode cL_law 235 = .ok (.if_icmp .eq 1096, 3) := by decide +kernel
theorem dL_law_238 : decode cL_law 238 = .ok (.iconst 0, 1) := by decide +kernel
theorem dL_law_239 : decode cL_law 239 = .ok (.ireturn, 1) := by decide +kernel
theorem dL_law_240 : decode cL_law 240 = .ok (.aload_n 1, 1) := by decide +kernel
theorem dL_law_241 : decode cL_law 241 = .ok (.aload_n 0, 1) := by decide +kernel
theorem dL_law_242 : decode cL_law 242 = .ok (.iload_n 3, 1) := by decide +kernel
theorem dL_law_243 : decode cL_law 243 = .ok (.iconst 1, 1) := by decide +kernel
theorem dL_law_244 : decode cL_law 244 = .ok (.iadd, 1) := by decide +kernel
theorem dL_law_245 : decode cL_law 245 = .ok (.iaload, 1) := by decide +kernel
theorem dL_law_246 : decode cL_law 246 = .ok (.aload_n 0, 1) := by decide +kernel
theorem dL_law_247 : decode cL_law 247 = .ok (.iload_n 3, 1) := by decide +kernel
theorem dL_law_248 : decode cL_law 248 = .ok (.iconst 2, 1) := by decide +kernel
theorem dL_law_249 : decode cL_law 249 = .ok (.iadd, 1) := by decide +kernel
theorem dL_law_250 : decode cL_law 250 = .ok (.iaload, 1) := by decide +kernel
theorem dL_law_251 : decode cL_law 251 = .ok (.aload_n 0, 1) := by decide +kernel
theorem dL_law_252 : decode cL_law 252 = .ok (.iload_n 3, 1) := by decide +kernel
theorem dL_law_253 : decode cL_law 253 = .ok (.iconst 3, 1) := by decide +kernel
theorem dL_law_254 : decode cL_law 254 = .ok (.iadd, 1) := by decide +kernel
theorem dL_law_255 : decode cL_law 255 = .ok (.iaload, 1) := by decide +kernel
theorem dL_law_256 : decode cL_law 256 = .ok (.ifCond .eq 7, 3) := by decide +kernel
theorem dL_law_259 : decode cL_law 259 = .ok (.iconst 1, 1) := by decide +kernel
theorem dL_law_260 : decode cL_law 260 = .ok (.goto 4, 3) := by decide +kernel
theorem dL_law_263 : decode cL_law 263 = .ok (.iconst 0, 1) := by decide +kernel
theorem dL_law_264 : decode cL_law 264 = .ok (.invokevirtual 23, 3) := by decide +kernel
theorem dL_law_267 : decode cL_law 267 = .ok (.aload_n 2, 1) := by decide +kernel
theorem dL_law_268 : decode cL_law 268 = .ok (.aload_n 0, 1) := by decide +kernel
theorem dL_law_269 : decode cL_law 269 = .ok (.iload_n 3, 1) := by decide +kernel
theorem dL_law_270 : decode cL_law 270 = .ok (.iconst 1, 1) := by decide +kernel
theorem dL_law_271 : decode cL_law 271 = .ok (.iadd, 1) := by decide +kernel
theorem dL_law_272 : decode cL_law 272 = .ok (.iaload, 1) := by decide +kernel
theorem dL_law_273 : decode cL_law 273 = .ok (.aload_n 0, 1) := by decide +kernel
theorem dL_law_274 : decode cL_law 274 = .ok (.iload_n 3, 1) := by decide +kernel
theorem dL_law_275 : decode cL_law 275 = .ok (.iconst 2, 1) := by decide +kernel
theorem dL_law_276 : decode cL_law 276 = .ok (.iadd, 1) := by decide +kernel
theorem dL_law_277 : decode cL_law 277 = .ok (.iaload, 1) := by decide +kernel
theorem dL_law_278 : decode cL_law 278 = .ok (.aload_n 0, 1) := by decide +kernel
theorem dL_law_279 : decode cL_law 279 = .ok (.iload_n 3, 1) := by decide +kernel
theorem dL_law_280 : decode cL_law 280 = .ok (.iconst 3, 1) := by decide +kernel
theorem dL_law_281 : decode cL_law 281 = .ok (.iadd, 1) := by decide +kernel
theorem dL_law_282 : decode cL_law 282 = .ok (.iaload, 1) := by decide +kernel
theorem dL_law_283 : decode cL_law 283 = .ok (.ifCond .eq 7, 3) := by decide +kernel
theorem dL_law_286 : decode cL_law 286 = .ok (.iconst 1, 1) := by decide +kernel
theorem dL_law_287 : decode cL_law 287 = .ok (.goto 4, 3) := by decide +kernel
theorem dL_law_290 : decode cL_law 290 = .ok (.iconst 0, 1) := by decide +kernel
theorem dL_law_291 : decode cL_law 291 = .ok (.invokevirtual 27, 3) := by decide +kernel
theorem dL_law_294 : decode cL_law 294 = .ok (.if_icmp .eq 1037, 3) := by decide +kernel
theorem dL_law_297 : decode cL_law 297 = .ok (.iconst 0, 1) := by decide +kernel
theorem dL_law_298 : decode cL_law 298 = .ok (.ireturn, 1) := by decide +kernel
theorem dL_law_299 : decode cL_law 299 = .ok (.aload_n 1, 1) := by decide +kernel
theorem dL_law_300 : decode cL_law 300 = .ok (.aload_n 0, 1) := by decide +kernel
theorem dL_law_301 : decode cL_law 301 = .ok (.iload_n 3, 1) := by decide +kernel
theorem dL_law_302 : decode cL_law 302 = .ok (.iconst 1, 1) := by decide +kernel
theorem dL_law_303 : decode cL_law 303 = .ok (.iadd, 1) := by decide +kernel
theorem dL_law_304 : decode cL_law 304 = .ok (.iaload, 1) := by decide +kernel
theorem dL_law_305 : decode cL_law 305 = .ok (.aload_n 0, 1) := by decide +kernel
theorem dL_law_306 : decode cL_law 306 = .ok (.iload_n 3, 1) := by decide +kernel
theorem dL_law_307 : decode cL_law 307 = .ok (.iconst 2, 1) := by decide +kernel
theorem dL_law_308 : decode cL_law 308 = .ok (.iadd, 1) := by decide +kernel
theorem dL_law_309 : decode cL_law 309 = .ok (.iaload, 1) := by decide +kernel
theorem dL_law_310 : decode cL_law 310 = .ok (.aload_n 0, 1) := by decide +kernel
theorem dL_law_311 : decode cL_law 311 = .ok (.iload_n 3, 1) := by decide +kernel
theorem dL_law_312 : decode cL_law 312 = .ok (.iconst 3, 1) := by decide +kernel
theorem dL_law_313 : decode cL_law 313 = .ok (.iadd, 1) := by decide +kernel
theorem dL_law_314 : decode cL_law 314 = .ok (.iaload, 1) := by decide +kernel
theorem dL_law_315 : decode cL_law 315 = .ok (.aload_n 0, 1) := by decide +kernel
theorem dL_law_316 : decode cL_law 316 = .ok (.iload_n 3, 1) := by decide +kernel
theorem dL_law_317 : decode cL_law 317 = .ok (.iconst 4, 1) := by decide +kernel
theorem dL_law_318 : decode cL_law 318 = .ok (.iadd, 1) := by decide +kernel
theorem dL_law_319 : decode cL_law 319 = .ok (.iaload, 1) := by decide +kernel
theorem dL_law_320 : decode cL_law 320 = .ok (.aload_n 0, 1) := by decide +kernel
theorem dL_law_321 : decode cL_law 321 = .ok (.iload_n 3, 1) := by decide +kernel
theorem dL_law_322 : decode cL_law 322 = .ok (.iconst 5, 1) := by decide +kernel
theorem dL_law_323 : decode cL_law 323 = .ok (.iadd, 1) := by decide +kernel
theorem dL_law_324 : decode cL_law 324 = .ok (.iaload, 1) := by decide +kernel
theorem dL_law_325 : decode cL_law 325 = .ok (.invokevirtual 28, 3) := by decide +kernel
theorem dL_law_328 : decode cL_law 328 = .ok (.aload_n 2, 1) := by decide +kernel
theorem dL_law_329 : decode cL_law 329 = .ok (.aload_n 0, 1) := by decide +kernel
theorem dL_law_330 : decode cL_law 330 = .ok (.iload_n 3, 1) := by decide +kernel
theorem dL_law_331 : decode cL_law 331 = .ok (.iconst 1, 1) := by decide +kernel
theorem dL_law_332 : decode cL_law 332 = .ok (.iadd, 1) := by decide +kernel
theorem dL_law_333 : decode cL_law 333 = .ok (.iaload, 1) := by decide +kernel
theorem dL_law_334 : decode cL_law 334 = .ok (.aload_n 0, 1) := by decide +kernel
theorem dL_law_335 : decode cL_law 335 = .ok (.iload_n 3, 1) := by decide +kernel
theorem dL_law_336 : decode cL_law 336 = .ok (.iconst 2, 1) := by decide +kernel
theorem dL_law_337 : decode cL_law 337 = .ok (.iadd, 1) := by decide +kernel
theorem dL_law_338 : decode cL_law 338 = .ok (.iaload, 1) := by decide +kernel
theorem dL_law_339 : decode cL_law 339 = .ok (.aload_n 0, 1) := by decide +kernel
theorem dL_law_340 : decode cL_law 340 = .ok (.iload_n 3, 1) := by decide +kernel
theorem dL_law_341 : decode cL_law 341 = .ok (.iconst 3, 1) := by decide +kernel
theorem dL_law_342 : decode cL_law 342 = .ok (.iadd, 1) := by decide +kernel
theorem dL_law_343 : decode cL_law 343 = .ok (.iaload, 1) := by decide +kernel
theorem dL_law_344 : decode cL_law 344 = .ok (.aload_n 0, 1) := by decide +kernel
theorem dL_law_345 : decode cL_law 345 = .ok (.iload_n 3, 1) := by decide +kernel
theorem dL_law_346 : decode cL_law 346 = .ok (.iconst 4, 1) := by decide +kernel
theorem dL_law_347 : decode cL_law 347 = .ok (.iadd, 1) := by decide +kernel
theorem dL_law_348 : decode cL_law 348 = .ok (.iaload, 1) := by decide +kernel
theorem dL_law_349 : decode cL_law 349 = .ok (.aload_n 0, 1) := by decide +kernel
theorem dL_law_350 : decode cL_law 350 = .ok (.iload_n 3, 1) := by decide +kernel
theorem dL_law_351 : decode cL_law 351 = .ok (.iconst 5, 1) := by decide +kernel
theorem dL_law_352 : decode cL_law 352 = .ok (.iadd, 1) := by decide +kernel
theorem dL_law_353 : decode cL_law 353 = .ok (.iaload, 1) := by decide +kernel
theorem dL_law_354 : decode cL_law 354 = .ok (.invokevirtual 32, 3) := by decide +kernel
theorem dL_law_357 : decode cL_law 357 = .ok (.if_icmp .eq 974, 3) := by decide +kernel
theorem dL_law_360 : decode cL_law 360 = .ok (.iconst 0, 1) := by decide +kernel
theorem dL_law_361 : decode cL_law 361 = .ok (.ireturn, 1) := by decide +kernel
theorem dL_law_362 : decode cL_law 362 = .ok (.aload_n 1, 1) := by decide +kernel
theorem dL_law_363 : decode cL_law 363 = .ok (.aload_n 0, 1) := by decide +kernel
theorem dL_law_364 : decode cL_law 364 = .ok (.iload_n 3, 1) := by decide +kernel
theorem dL_law_365 : decode cL_law 365 = .ok (.iconst 1, 1) := by decide +kernel
theorem dL_law_366 : decode cL_law 366 = .ok (.iadd, 1) := by decide +kernel
theorem dL_law_367 : decode cL_law 367 = .ok (.iaload, 1) := by decide +kernel
theorem dL_law_368 : decode cL_law 368 = .ok (.invokevirtual 33, 3) := by decide +kernel
theorem dL_law_371 : decode cL_law 371 = .ok (.aload_n 2, 1) := by decide +kernel
theorem dL_law_372 : decode cL_law 372 = .ok (.aload_n 0, 1) := by decide +kernel
theorem dL_law_373 : decode cL_law 373 = .ok (.iload_n 3, 1) := by decide +kernel
theorem dL_law_374 : decode cL_law 374 = .ok (.iconst 1, 1) := by decide +kernel
theorem dL_law_375 : decode cL_law 375 = .ok (.iadd, 1) := by decide +kernel
theorem dL_law_376 : decode cL_law 376 = .ok (.iaload, 1) := by decide +kernel
theorem dL_law_377 : decode cL_law 377 = .ok (.invokevirtual 36, 3) := by decide +kernel
theorem dL_law_380 : decode cL_law 380 = .ok (.if_icmp .eq 951, 3) := by decide +kernel
theorem dL_law_383 : decode cL_law 383 = .ok (.iconst 0, 1) := by decide +kernel
theorem dL_law_384 : decode cL_law 384 = .ok (.ireturn, 1) := by decide +kernel
theorem dL_law_385 : decode cL_law 385 = .ok (.aload_n 1, 1) := by decide +kernel
theorem dL_law_386 : decode cL_law 386 = .ok (.aload_n 0, 1) := by decide +kernel
theorem dL_law_387 : decode cL_law 387 = .ok (.iload_n 3, 1) := by decide +kernel
theorem dL_law_388 : decode cL_law 388 = .ok (.iconst 1, 1) := by decide +kernel
theorem dL_law_389 : decode cL_law 389 = .ok (.iadd, 1) := by decide +kernel
theorem dL_law_390 : decode cL_law 390 = .ok (.iaload, 1) := by decide +kernel
theorem dL_law_391 : decode cL_law 391 = .ok (.aload_n 0, 1) := by decide +kernel
theorem dL_law_392 : decode cL_law 392 = .ok (.iload_n 3, 1) := by decide +kernel
theorem dL_law_393 : decode cL_law 393 = .ok (.iconst 2, 1) := by decide +kernel
theorem dL_law_394 : decode cL_law 394 = .ok (.iadd, 1) := by decide +kernel
theorem dL_law_395 : decode cL_law 395 = .ok (.iaload, 1) := by decide +kernel
theorem dL_law_396 : decode cL_law 396 = .ok (.aload_n 0, 1) := by decide +kernel
theorem dL_law_397 : decode cL_law 397 = .ok (.iload_n 3, 1) := by decide +kernel
theorem dL_law_398 : decode cL_law 398 = .ok (.iconst 3, 1) := by decide +kernel
theorem dL_law_399 : decode cL_law 399 = .ok (.iadd, 1) := by decide +kernel
theorem dL_law_400 : decode cL_law 400 = .ok (.iaload, 1) := by decide +kernel
theorem dL_law_401 : decode cL_law 401 = .ok (.aload_n 0, 1) := by decide +kernel
theorem dL_law_402 : decode cL_law 402 = .ok (.iload_n 3, 1) := by decide +kernel
theorem dL_law_403 : decode cL_law 403 = .ok (.iconst 4, 1) := by decide +kernel
theorem dL_law_404 : decode cL_law 404 = .ok (.iadd, 1) := by decide +kernel
theorem dL_law_405 : decode cL_law 405 = .ok (.iaload, 1) := by decide +kernel
theorem dL_law_406 : decode cL_law 406 = .ok (.invokevirtual 37, 3) := by decide +kernel
theorem dL_law_409 : decode cL_law 409 = .ok (.aload_n 2, 1) := by decide +kernel
theorem dL_law_410 : decode cL_law 410 = .ok (.aload_n 0, 1) := by decide +kernel
theorem dL_law_411 : decode cL_law 411 = .ok (.iload_n 3, 1) := by decide +kernel
theorem dL_law_412 : decode cL_law 412 = .ok (.iconst 1, 1) := by decide +kernel
theorem dL_law_413 : decode cL_law 413 = .ok (.iadd, 1) := by decide +kernel
theorem dL_law_414 : decode cL_law 414 = .ok (.iaload, 1) := by decide +kernel
theorem dL_law_415 : decode cL_law 415 = .ok (.aload_n 0, 1) := by decide +kernel
theorem dL_law_416 : decode cL_law 416 = .ok (.iload_n 3, 1) := by decide +kernel
theorem dL_law_417 : decode cL_law 417 = .ok (.iconst 2, 1) := by decide +kernel
theorem dL_law_418 : decode cL_law 418 = .ok (.iadd, 1) := by decide +kernel
theorem dL_law_419 : decode cL_law 419 = .ok (.iaload, 1) := by decide +kernel
theorem dL_law_420 : decode cL_law 420 = .ok (.aload_n 0, 1) := by decide +kernel
theorem dL_law_421 : decode cL_law 421 = .ok (.iload_n 3, 1) := by decide +kernel
theorem dL_law_422 : decode cL_law 422 = .ok (.iconst 3, 1) := by decide +kernel
theorem dL_law_423 : decode cL_law 423 = .ok (.iadd, 1) := by decide +kernel
theorem dL_law_424 : decode cL_law 424 = .ok (.iaload, 1) := by decide +kernel
theorem dL_law_425 : decode cL_law 425 = .ok (.aload_n 0, 1) := by decide +kernel
theorem dL_law_426 : decode cL_law 426 = .ok (.iload_n 3, 1) := by decide +kernel
theorem dL_law_427 : decode cL_law 427 = .ok (.iconst 4, 1) := by decide +kernel
theorem dL_law_428 : decode cL_law 428 = .ok (.iadd, 1) := by decide +kernel
theorem dL_law_429 : decode cL_law 429 = .ok (.iaload, 1) := by decide +kernel
theorem dL_law_430 : decode cL_law 430 = .ok (.invokevirtual 41, 3) := by decide +kernel
theorem dL_law_433 : decode cL_law 433 = .ok (.if_icmp .eq 898, 3) := by decide +kernel
theorem dL_law_436 : decode cL_law 436 = .ok (.iconst 0, 1) := by decide +kernel
theorem dL_law_437 : decode cL_law 437 = .ok (.ireturn, 1) := by decide +kernel
theorem dL_law_438 : decode cL_law 438 = .ok (.aload_n 1, 1) := by decide +kernel
theorem dL_law_439 : decode cL_law 439 = .ok (.invokevirtual 42, 3) := by decide +kernel
theorem dL_law_442 : decode cL_law 442 = .ok (.aload_n 2, 1) := by decide +kernel
theorem dL_law_443 : decode cL_law 443 = .ok (.invokevirtual 46, 3) := by decide +kernel
theorem dL_law_446 : decode cL_law 446 = .ok (.if_icmp .eq 885, 3) := by decide +kernel
theorem dL_law_449 : decode cL_law 449 = .ok (.iconst 0, 1) := by decide +kernel
theorem dL_law_450 : decode cL_law 450 = .ok (.ireturn, 1) := by decide +kernel
theorem dL_law_451 : decode cL_law 451 = .ok (.aload_n 1, 1) := by decide +kernel
theorem dL_law_452 : decode cL_law 452 = .ok (.invokevirtual 47, 3) := by decide +kernel
theorem dL_law_455 : decode cL_law 455 = .ok (.aload_n 2, 1) := by decide +kernel
theorem dL_law_456 : decode cL_law 456 = .ok (.invokevirtual 50, 3) := by decide +kernel
theorem dL_law_459 : decode cL_law 459 = .ok (.if_icmp .eq 872, 3) := by decide +kernel
theorem dL_law_462 : decode cL_law 462 = .ok (.iconst 0, 1) := by decide +kernel
theorem dL_law_463 : decode cL_law 463 = .ok (.ireturn, 1) := by decide +kernel
theorem dL_law_464 : decode cL_law 464 = .ok (.aload_n 1, 1) := by decide +kernel
theorem dL_law_465 : decode cL_law 465 = .ok (.invokevirtual 51, 3) := by decide +kernel
theorem dL_law_468 : decode cL_law 468 = .ok (.aload_n 2, 1) := by decide +kernel
theorem dL_law_469 : decode cL_law 469 = .ok (.invokevirtual 54, 3) := by decide +kernel
theorem dL_law_472 : decode cL_law 472 = .ok (.if_icmp .eq 859, 3) := by decide +kernel
theorem dL_law_475 : decode cL_law 475 = .ok (.iconst 0, 1) := by decide +kernel
theorem dL_law_476 : decode cL_law 476 = .ok (.ireturn, 1) := by decide +kernel
theorem dL_law_477 : decode cL_law 477 = .ok (.aload_n 1, 1) := by decide +kernel
theorem dL_law_478 : decode cL_law 478 = .ok (.aload_n 0, 1) := by decide +kernel
theorem dL_law_479 : decode cL_law 479 = .ok (.iload_n 3, 1) := by decide +kernel
theorem dL_law_480 : decode cL_law 480 = .ok (.iconst 1, 1) := by decide +kernel
theorem dL_law_481 : decode cL_law 481 = .ok (.iadd, 1) := by decide +kernel
theorem dL_law_482 : decode cL_law 482 = .ok (.iaload, 1) := by decide +kernel
theorem dL_law_483 : decode cL_law 483 = .ok (.aload_n 0, 1) := by decide +kernel
theorem dL_law_484 : decode cL_law 484 = .ok (.iload_n 3, 1) := by decide +kernel
theorem dL_law_485 : decode cL_law 485 = .ok (.iconst 2, 1) := by decide +kernel
theorem dL_law_486 : decode cL_law 486 = .ok (.iadd, 1) := by decide +kernel
theorem dL_law_487 : decode cL_law 487 = .ok (.iaload, 1) := by decide +kernel
theorem dL_law_488 : decode cL_law 488 = .ok (.aload_n 0, 1) := by decide +kernel
theorem dL_law_489 : decode cL_law 489 = .ok (.iload_n 3, 1) := by decide +kernel
theorem dL_law_490 : decode cL_law 490 = .ok (.iconst 3, 1) := by decide +kernel
theorem dL_law_491 : decode cL_law 491 = .ok (.iadd, 1) := by decide +kernel
theorem dL_law_492 : decode cL_law 492 = .ok (.iaload, 1) := by decide +kernel
theorem dL_law_493 : decode cL_law 493 = .ok (.invokevirtual 55, 3) := by decide +kernel
theorem dL_law_496 : decode cL_law 496 = .ok (.aload_n 2, 1) := by decide +kernel
theorem dL_law_497 : decode cL_law 497 = .ok (.aload_n 0, 1) := by decide +kernel
theorem dL_law_498 : decode cL_law 498 = .ok (.iload_n 3, 1) := by decide +kernel
theorem dL_law_499 : decode cL_law 499 = .ok (.iconst 1, 1) := by decide +kernel
theorem dL_law_500 : decode cL_law 500 = .ok (.iadd, 1) := by decide +kernel
theorem dL_law_501 : decode cL_law 501 = .ok (.iaload, 1) := by decide +kernel
theorem dL_law_502 : decode cL_law 502 = .ok (.aload_n 0, 1) := by decide +kernel
theorem dL_law_503 : decode cL_law 503 = .ok (.iload_n 3, 1) := by decide +kernel
theorem dL_law_504 : decode cL_law 504 = .ok (.iconst 2, 1) := by decide +kernel
theorem dL_law_505 : decode cL_law 505 = .ok (.iadd, 1) := by decide +kernel
theorem dL_law_506 : decode cL_law 506 = .ok (.iaload, 1) := by decide +kernel
theorem dL_law_507 : decode cL_law 507 = .ok (.aload_n 0, 1) := by decide +kernel
theorem dL_law_508 : decode cL_law 508 = .ok (.iload_n 3, 1) := by decide +kernel
theorem dL_law_509 : decode cL_law 509 = .ok (.iconst 3, 1) := by decide +kernel
theorem dL_law_510 : decode cL_law 510 = .ok (.iadd, 1) := by decide +kernel
theorem dL_law_511 : decode cL_law 511 = .ok (.iaload, 1) := by decide +kernel
theorem dL_law_512 : decode cL_law 512 = .ok (.invokevirtual 59, 3) := by decide +kernel
theorem dL_law_515 : decode cL_law 515 = .ok (.if_icmp .eq 816, 3) := by decide +kernel
theorem dL_law_518 : decode cL_law 518 = .ok (.iconst 0, 1) := by decide +kernel
theorem dL_law_519 : decode cL_law 519 = .ok (.ireturn, 1) := by decide +kernel
theorem dL_law_520 : decode cL_law 520 = .ok (.aload_n 1, 1) := by decide +kernel
theorem dL_law_521 : decode cL_law 521 = .ok (.aload_n 0, 1) := by decide +kernel
theorem dL_law_522 : decode cL_law 522 = .ok (.iload_n 3, 1) := by decide +kernel
theorem dL_law_523 : decode cL_law 523 = .ok (.iconst 1, 1) := by decide +kernel
theorem dL_law_524 : decode cL_law 524 = .ok (.iadd, 1) := by decide +kernel
theorem dL_law_525 : decode cL_law 525 = .ok (.iaload, 1) := by decide +kernel
theorem dL_law_526 : decode cL_law 526 = .ok (.invokevirtual 60, 3) := by decide +kernel
theorem dL_law_529 : decode cL_law 529 = .ok (.aload_n 2, 1) := by decide +kernel
theorem dL_law_530 : decode cL_law 530 = .ok (.aload_n 0, 1) := by decide +kernel
theorem dL_law_531 : decode cL_law 531 = .ok (.iload_n 3, 1) := by decide +kernel
theorem dL_law_532 : decode cL_law 532 = .ok (.iconst 1, 1) := by decide +kernel
theorem dL_law_533 : decode cL_law 533 = .ok (.iadd, 1) := by decide +kernel
theorem dL_law_534 : decode cL_law 534 = .ok (.iaload, 1) := by decide +kernel
theorem dL_law_535 : decode cL_law 535 = .ok (.invokevirtual 63, 3) := by decide +kernel
theorem dL_law_538 : decode cL_law 538 = .ok (.if_icmp .eq 793, 3) := by decide +kernel
theorem dL_law_541 : decode cL_law 541 = .ok (.iconst 0, 1) := by decide +kernel
theorem dL_law_542 : decode cL_law 542 = .ok (.ireturn, 1) := by decide +kernel
theorem dL_law_543 : decode cL_law 543 = .ok (.aload_n 1, 1) := by decide +kernel
theorem dL_law_544 : decode cL_law 544 = .ok (.aload_n 0, 1) := by decide +kernel
theorem dL_law_545 : decode cL_law 545 = .ok (.iload_n 3, 1) := by decide +kernel
theorem dL_law_546 : decode cL_law 546 = .ok (.iconst 1, 1) := by decide +kernel
theorem dL_law_547 : decode cL_law 547 = .ok (.iadd, 1) := by decide +kernel
theorem dL_law_548 : decode cL_law 548 = .ok (.iaload, 1) := by decide +kernel
theorem dL_law_549 : decode cL_law 549 = .ok (.aload_n 0, 1) := by decide +kernel
theorem dL_law_550 : decode cL_law 550 = .ok (.iload_n 3, 1) := by decide +kernel
theorem dL_law_551 : decode cL_law 551 = .ok (.iconst 2, 1) := by decide +kernel
theorem dL_law_552 : decode cL_law 552 = .ok (.iadd, 1) := by decide +kernel
theorem dL_law_553 : decode cL_law 553 = .ok (.iaload, 1) := by decide +kernel
theorem dL_law_554 : decode cL_law 554 = .ok (.invokevirtual 64, 3) := by decide +kernel
theorem dL_law_557 : decode cL_law 557 = .ok (.aload_n 2, 1) := by decide +kernel
theorem dL_law_558 : decode cL_law 558 = .ok (.aload_n 0, 1) := by decide +kernel
theorem dL_law_559 : decode cL_law 559 = .ok (.iload_n 3, 1) := by decide +kernel
theorem dL_law_560 : decode cL_law 560 = .ok (.iconst 1, 1) := by decide +kernel
theorem dL_law_561 : decode cL_law 561 = .ok (.iadd, 1) := by decide +kernel
theorem dL_law_562 : decode cL_law 562 = .ok (.iaload, 1) := by decide +kernel
theorem dL_law_563 : decode cL_law 563 = .ok (.aload_n 0, 1) := by decide +kernel
theorem dL_law_564 : decode cL_law 564 = .ok (.iload_n 3, 1) := by decide +kernel
theorem dL_law_565 : decode cL_law 565 = .ok (.iconst 2, 1) := by decide +kernel
theorem dL_law_566 : decode cL_law 566 = .ok (.iadd, 1) := by decide +kernel
theorem dL_law_567 : decode cL_law 567 = .ok (.iaload, 1) := by decide +kernel
theorem dL_law_568 : decode cL_law 568 = .ok (.invokevirtual 68, 3) := by decide +kernel
theorem dL_law_571 : decode cL_law 571 = .ok (.lcmp, 1) := by decide +kernel
theorem dL_law_572 : decode cL_law 572 = .ok (.ifCond .eq 759, 3) := by decide +kernel
theorem dL_law_575 : decode cL_law 575 = .ok (.iconst 0, 1) := by decide +kernel
theorem dL_law_576 : decode cL_law 576 = .ok (.ireturn, 1) := by decide +kernel
theorem dL_law_577 : decode cL_law 577 = .ok (.aload_n 1, 1) := by decide +kernel
theorem dL_law_578 : decode cL_law 578 = .ok (.aload_n 0, 1) := by decide +kernel
theorem dL_law_579 : decode cL_law 579 = .ok (.iload_n 3, 1) := by decide +kernel
theorem dL_law_580 : decode cL_law 580 = .ok (.iconst 1, 1) := by decide +kernel
theorem dL_law_581 : decode cL_law 581 = .ok (.iadd, 1) := by decide +kernel
theorem dL_law_582 : decode cL_law 582 = .ok (.iaload, 1) := by decide +kernel
theorem dL_law_583 : decode cL_law 583 = .ok (.aload_n 0, 1) := by decide +kernel
theorem dL_law_584 : decode cL_law 584 = .ok (.iload_n 3, 1) := by decide +kernel
theorem dL_law_585 : decode cL_law 585 = .ok (.iconst 2, 1) := by decide +kernel
theorem dL_law_586 : decode cL_law 586 = .ok (.iadd, 1) := by decide +kernel
theorem dL_law_587 : decode cL_law 587 = .ok (.iaload, 1) := by decide +kernel
theorem dL_law_588 : decode cL_law 588 = .ok (.invokevirtual 69, 3) := by decide +kernel
theorem dL_law_591 : decode cL_law 591 = .ok (.aload_n 2, 1) := by decide +kernel
theorem dL_law_592 : decode cL_law 592 = .ok (.aload_n 0, 1) := by decide +kernel
theorem dL_law_593 : decode cL_law 593 = .ok (.iload_n 3, 1) := by decide +kernel
theorem dL_law_594 : decode cL_law 594 = .ok (.iconst 1, 1) := by decide +kernel
theorem dL_law_595 : decode cL_law 595 = .ok (.iadd, 1) := by decide +kernel
theorem dL_law_596 : decode cL_law 596 = .ok (.iaload, 1) := by decide +kernel
theorem dL_law_597 : decode cL_law 597 = .ok (.aload_n 0, 1) := by decide +kernel
theorem dL_law_598 : decode cL_law 598 = .ok (.iload_n 3, 1) := by decide +kernel
theorem dL_law_599 : decode cL_law 599 = .ok (.iconst 2, 1) := by decide +kernel
theorem dL_law_600 : decode cL_law 600 = .ok (.iadd, 1) := by decide +kernel
theorem dL_law_601 : decode cL_law 601 = .ok (.iaload, 1) := by decide +kernel
theorem dL_law_602 : decode cL_law 602 = .ok (.invokevirtual 73, 3) := by decide +kernel
theorem dL_law_605 : decode cL_law 605 = .ok (.if_icmp .eq 726, 3) := by decide +kernel
theorem dL_law_608 : decode cL_law 608 = .ok (.iconst 0, 1) := by decide +kernel
theorem dL_law_609 : decode cL_law 609 = .ok (.ireturn, 1) := by decide +kernel
theorem dL_law_610 : decode cL_law 610 = .ok (.aload_n 1, 1) := by decide +kernel
theorem dL_law_611 : decode cL_law 611 = .ok (.aload_n 0, 1) := by decide +kernel
theorem dL_law_612 : decode cL_law 612 = .ok (.iload_n 3, 1) := by decide +kernel
theorem dL_law_613 : decode cL_law 613 = .ok (.iconst 1, 1) := by decide +kernel
theorem dL_law_614 : decode cL_law 614 = .ok (.iadd, 1) := by decide +kernel
theorem dL_law_615 : decode cL_law 615 = .ok (.iaload, 1) := by decide +kernel
theorem dL_law_616 : decode cL_law 616 = .ok (.aload_n 0, 1) := by decide +kernel
theorem dL_law_617 : decode cL_law 617 = .ok (.iload_n 3, 1) := by decide +kernel
theorem dL_law_618 : decode cL_law 618 = .ok (.iconst 2, 1) := by decide +kernel
theorem dL_law_619 : decode cL_law 619 = .ok (.iadd, 1) := by decide +kernel
theorem dL_law_620 : decode cL_law 620 = .ok (.iaload, 1) := by decide +kernel
theorem dL_law_621 : decode cL_law 621 = .ok (.aload_n 0, 1) := by decide +kernel
theorem dL_law_622 : decode cL_law 622 = .ok (.iload_n 3, 1) := by decide +kernel
theorem dL_law_623 : decode cL_law 623 = .ok (.iconst 3, 1) := by decide +kernel
theorem dL_law_624 : decode cL_law 624 = .ok (.iadd, 1) := by decide +kernel
theorem dL_law_625 : decode cL_law 625 = .ok (.iaload, 1) := by decide +kernel
theorem dL_law_626 : decode cL_law 626 = .ok (.aload_n 0, 1) := by decide +kernel
theorem dL_law_627 : decode cL_law 627 = .ok (.iload_n 3, 1) := by decide +kernel
theorem dL_law_628 : decode cL_law 628 = .ok (.iconst 4, 1) := by decide +kernel
theorem dL_law_629 : decode cL_law 629 = .ok (.iadd, 1) := by decide +kernel
theorem dL_law_630 : decode cL_law 630 = .ok (.iaload, 1) := by decide +kernel
theorem dL_law_631 : decode cL_law 631 = .ok (.invokevirtual 74, 3) := by decide +kernel
theorem dL_law_634 : decode cL_law 634 = .ok (.aload_n 2, 1) := by decide +kernel
theorem dL_law_635 : decode cL_law 635 = .ok (.aload_n 0, 1) := by decide +kernel
theorem dL_law_636 : decode cL_law 636 = .ok (.iload_n 3, 1) := by decide +kernel
theorem dL_law_637 : decode cL_law 637 = .ok (.iconst 1, 1) := by decide +kernel
theorem dL_law_638 : decode cL_law 638 = .ok (.iadd, 1) := by decide +kernel
theorem dL_law_639 : decode cL_law 639 = .ok (.iaload, 1) := by decide +kernel
theorem dL_law_640 : decode cL_law 640 = .ok (.aload_n 0, 1) := by decide +kernel
theorem dL_law_641 : decode cL_law 641 = .ok (.iload_n 3, 1) := by decide +kernel
theorem dL_law_642 : decode cL_law 642 = .ok (.iconst 2, 1) := by decide +kernel
theorem dL_law_643 : decode cL_law 643 = .ok (.iadd, 1) := by decide +kernel
theorem dL_law_644 : decode cL_law 644 = .ok (.iaload, 1) := by decide +kernel
theorem dL_law_645 : decode cL_law 645 = .ok (.aload_n 0, 1) := by decide +kernel
theorem dL_law_646 : decode cL_law 646 = .ok (.iload_n 3, 1) := by decide +kernel
theorem dL_law_647 : decode cL_law 647 = .ok (.iconst 3, 1) := by decide +kernel
theorem dL_law_648 : decode cL_law 648 = .ok (.iadd, 1) := by decide +kernel
theorem dL_law_649 : decode cL_law 649 = .ok (.iaload, 1) := by decide +kernel
theorem dL_law_650 : decode cL_law 650 = .ok (.aload_n 0, 1) := by decide +kernel
theorem dL_law_651 : decode cL_law 651 = .ok (.iload_n 3, 1) := by decide +kernel
theorem dL_law_652 : decode cL_law 652 = .ok (.iconst 4, 1) := by decide +kernel
theorem dL_law_653 : decode cL_law 653 = .ok (.iadd, 1) := by decide +kernel
theorem dL_law_654 : decode cL_law 654 = .ok (.iaload, 1) := by decide +kernel
theorem dL_law_655 : decode cL_law 655 = .ok (.invokevirtual 77, 3) := by decide +kernel
theorem dL_law_658 : decode cL_law 658 = .ok (.if_icmp .eq 673, 3) := by decide +kernel
theorem dL_law_661 : decode cL_law 661 = .ok (.iconst 0, 1) := by decide +kernel
theorem dL_law_662 : decode cL_law 662 = .ok (.ireturn, 1) := by decide +kernel
theorem dL_law_663 : decode cL_law 663 = .ok (.aload_n 1, 1) := by decide +kernel
theorem dL_law_664 : decode cL_law 664 = .ok (.aload_n 0, 1) := by decide +kernel
theorem dL_law_665 : decode cL_law 665 = .ok (.iload_n 3, 1) := by decide +kernel
theorem dL_law_666 : decode cL_law 666 = .ok (.iconst 1, 1) := by decide +kernel
theorem dL_law_667 : decode cL_law 667 = .ok (.iadd, 1) := by decide +kernel
theorem dL_law_668 : decode cL_law 668 = .ok (.iaload, 1) := by decide +kernel
theorem dL_law_669 : decode cL_law 669 = .ok (.aload_n 0, 1) := by decide +kernel
theorem dL_law_670 : decode cL_law 670 = .ok (.iload_n 3, 1) := by decide +kernel
theorem dL_law_671 : decode cL_law 671 = .ok (.iconst 2, 1) := by decide +kernel
theorem dL_law_672 : decode cL_law 672 = .ok (.iadd, 1) := by decide +kernel
theorem dL_law_673 : decode cL_law 673 = .ok (.iaload, 1) := by decide +kernel
theorem dL_law_674 : decode cL_law 674 = .ok (.invokevirtual 78, 3) := by decide +kernel
theorem dL_law_677 : decode cL_law 677 = .ok (.aload_n 2, 1) := by decide +kernel
theorem dL_law_678 : decode cL_law 678 = .ok (.aload_n 0, 1) := by decide +kernel
theorem dL_law_679 : decode cL_law 679 = .ok (.iload_n 3, 1) := by decide +kernel
theorem dL_law_680 : decode cL_law 680 = .ok (.iconst 1, 1) := by decide +kernel
theorem dL_law_681 : decode cL_law 681 = .ok (.iadd, 1) := by decide +kernel
theorem dL_law_682 : decode cL_law 682 = .ok (.iaload, 1) := by decide +kernel
theorem dL_law_683 : decode cL_law 683 = .ok (.aload_n 0, 1) := by decide +kernel
theorem dL_law_684 : decode cL_law 684 = .ok (.iload_n 3, 1) := by decide +kernel
theorem dL_law_685 : decode cL_law 685 = .ok (.iconst 2, 1) := by decide +kernel
theorem dL_law_686 : decode cL_law 686 = .ok (.iadd, 1) := by decide +kernel
theorem dL_law_687 : decode cL_law 687 = .ok (.iaload, 1) := by decide +kernel
theorem dL_law_688 : decode cL_law 688 = .ok (.invokevirtual 82, 3) := by decide +kernel
theorem dL_law_691 : decode cL_law 691 = .ok (.if_icmp .eq 640, 3) := by decide +kernel
theorem dL_law_694 : decode cL_law 694 = .ok (.iconst 0, 1) := by decide +kernel
theorem dL_law_695 : decode cL_law 695 = .ok (.ireturn, 1) := by decide +kernel
theorem dL_law_696 : decode cL_law 696 = .ok (.aload_n 1, 1) := by decide +kernel
theorem dL_law_697 : decode cL_law 697 = .ok (.aload_n 0, 1) := by decide +kernel
theorem dL_law_698 : decode cL_law 698 = .ok (.iload_n 3, 1) := by decide +kernel
theorem dL_law_699 : decode cL_law 699 = .ok (.iconst 1, 1) := by decide +kernel
theorem dL_law_700 : decode cL_law 700 = .ok (.iadd, 1) := by decide +kernel
theorem dL_law_701 : decode cL_law 701 = .ok (.iaload, 1) := by decide +kernel
theorem dL_law_702 : decode cL_law 702 = .ok (.aload_n 0, 1) := by decide +kernel
theorem dL_law_703 : decode cL_law 703 = .ok (.iload_n 3, 1) := by decide +kernel
theorem dL_law_704 : decode cL_law 704 = .ok (.iconst 2, 1) := by decide +kernel
theorem dL_law_705 : decode cL_law 705 = .ok (.iadd, 1) := by decide +kernel
theorem dL_law_706 : decode cL_law 706 = .ok (.iaload, 1) := by decide +kernel
theorem dL_law_707 : decode cL_law 707 = .ok (.i2l, 1) := by decide +kernel
theorem dL_law_708 : decode cL_law 708 = .ok (.bipush 32, 2) := by decide +kernel
theorem dL_law_710 : decode cL_law 710 = .ok (.lshl, 1) := by decide +kernel
theorem dL_law_711 : decode cL_law 711 = .ok (.aload_n 0, 1) := by decide +kernel
theorem dL_law_712 : decode cL_law 712 = .ok (.iload_n 3, 1) := by decide +kernel
theorem dL_law_713 : decode cL_law 713 = .ok (.iconst 3, 1) := by decide +kernel
theorem dL_law_714 : decode cL_law 714 = .ok (.iadd, 1) := by decide +kernel
theorem dL_law_715 : decode cL_law 715 = .ok (.iaload, 1) := by decide +kernel
theorem dL_law_716 : decode cL_law 716 = .ok (.i2l, 1) := by decide +kernel
theorem dL_law_717 : decode cL_law 717 = .ok (.ldc2_w 83, 3) := by decide +kernel
theorem dL_law_720 : decode cL_law 720 = .ok (.land, 1) := by decide +kernel
theorem dL_law_721 : decode cL_law 721 = .ok (.lor, 1) := by decide +kernel
theorem dL_law_722 : decode cL_law 722 = .ok (.aload_n 0, 1) := by decide +kernel
theorem dL_law_723 : decode cL_law 723 = .ok (.iload_n 3, 1) := by decide +kernel
theorem dL_law_724 : decode cL_law 724 = .ok (.iconst 4, 1) := by decide +kernel
theorem dL_law_725 : decode cL_law 725 = .ok (.iadd, 1) := by decide +kernel
theorem dL_law_726 : decode cL_law 726 = .ok (.iaload, 1) := by decide +kernel
theorem dL_law_727 : decode cL_law 727 = .ok (.i2l, 1) := by decide +kernel
theorem dL_law_728 : decode cL_law 728 = .ok (.bipush 32, 2) := by decide +kernel
theorem dL_law_730 : decode cL_law 730 = .ok (.lshl, 1) := by decide +kernel
theorem dL_law_731 : decode cL_law 731 = .ok (.aload_n 0, 1) := by decide +kernel
theorem dL_law_732 : decode cL_law 732 = .ok (.iload_n 3, 1) := by decide +kernel
theorem dL_law_733 : decode cL_law 733 = .ok (.iconst 5, 1) := by decide +kernel
theorem dL_law_734 : decode cL_law 734 = .ok (.iadd, 1) := by decide +kernel
theorem dL_law_735 : decode cL_law 735 = .ok (.iaload, 1) := by decide +kernel
theorem dL_law_736 : decode cL_law 736 = .ok (.i2l, 1) := by decide +kernel
theorem dL_law_737 : decode cL_law 737 = .ok (.ldc2_w 83, 3) := by decide +kernel
theorem dL_law_740 : decode cL_law 740 = .ok (.land, 1) := by decide +kernel
theorem dL_law_741 : decode cL_law 741 = .ok (.lor, 1) := by decide +kernel
theorem dL_law_742 : decode cL_law 742 = .ok (.invokevirtual 85, 3) := by decide +kernel
theorem dL_law_745 : decode cL_law 745 = .ok (.aload_n 2, 1) := by decide +kernel
theorem dL_law_746 : decode cL_law 746 = .ok (.aload_n 0, 1) := by decide +kernel
theorem dL_law_747 : decode cL_law 747 = .ok (.iload_n 3, 1) := by decide +kernel
theorem dL_law_748 : decode cL_law 748 = .ok (.iconst 1, 1) := by decide +kernel
theorem dL_law_749 : decode cL_law 749 = .ok (.iadd, 1) := by decide +kernel
theorem dL_law_750 : decode cL_law 750 = .ok (.iaload, 1) := by decide +kernel
theorem dL_law_751 : decode cL_law 751 = .ok (.aload_n 0, 1) := by decide +kernel
theorem dL_law_752 : decode cL_law 752 = .ok (.iload_n 3, 1) := by decide +kernel
theorem dL_law_753 : decode cL_law 753 = .ok (.iconst 2, 1) := by decide +kernel
theorem dL_law_754 : decode cL_law 754 = .ok (.iadd, 1) := by decide +kernel
theorem dL_law_755 : decode cL_law 755 = .ok (.iaload, 1) := by decide +kernel
theorem dL_law_756 : decode cL_law 756 = .ok (.i2l, 1) := by decide +kernel
theorem dL_law_757 : decode cL_law 757 = .ok (.bipush 32, 2) := by decide +kernel
theorem dL_law_759 : decode cL_law 759 = .ok (.lshl, 1) := by decide +kernel
theorem dL_law_760 : decode cL_law 760 = .ok (.aload_n 0, 1) := by decide +kernel
theorem dL_law_761 : decode cL_law 761 = .ok (.iload_n 3, 1) := by decide +kernel
theorem dL_law_762 : decode cL_law 762 = .ok (.iconst 3, 1) := by decide +kernel
theorem dL_law_763 : decode cL_law 763 = .ok (.iadd, 1) := by decide +kernel
theorem dL_law_764 : decode cL_law 764 = .ok (.iaload, 1) := by decide +kernel
theorem dL_law_765 : decode cL_law 765 = .ok (.i2l, 1) := by decide +kernel
theorem dL_law_766 : decode cL_law 766 = .ok (.ldc2_w 83, 3) := by decide +kernel
theorem dL_law_769 : decode cL_law 769 = .ok (.land, 1) := by decide +kernel
theorem dL_law_770 : decode cL_law 770 = .ok (.lor, 1) := by decide +kernel
theorem dL_law_771 : decode cL_law 771 = .ok (.aload_n 0, 1) := by decide +kernel
theorem dL_law_772 : decode cL_law 772 = .ok (.iload_n 3, 1) := by decide +kernel
theorem dL_law_773 : decode cL_law 773 = .ok (.iconst 4, 1) := by decide +kernel
theorem dL_law_774 : decode cL_law 774 = .ok (.iadd, 1) := by decide +kernel
theorem dL_law_775 : decode cL_law 775 = .ok (.iaload, 1) := by decide +kernel
theorem dL_law_776 : decode cL_law 776 = .ok (.i2l, 1) := by decide +kernel
theorem dL_law_777 : decode cL_law 777 = .ok (.bipush 32, 2) := by decide +kernel
theorem dL_law_779 : decode cL_law 779 = .ok (.lshl, 1) := by decide +kernel
theorem dL_law_780 : decode cL_law 780 = .ok (.aload_n 0, 1) := by decide +kernel
theorem dL_law_781 : decode cL_law 781 = .ok (.iload_n 3, 1) := by decide +kernel
theorem dL_law_782 : decode cL_law 782 = .ok (.iconst 5, 1) := by decide +kernel
theorem dL_law_783 : decode cL_law 783 = .ok (.iadd, 1) := by decide +kernel
theorem dL_law_784 : decode cL_law 784 = .ok (.iaload, 1) := by decide +kernel
theorem dL_law_785 : decode cL_law 785 = .ok (.i2l, 1) := by decide +kernel
theorem dL_law_786 : decode cL_law 786 = .ok (.ldc2_w 83, 3) := by decide +kernel
theorem dL_law_789 : decode cL_law 789 = .ok (.land, 1) := by decide +kernel
theorem dL_law_790 : decode cL_law 790 = .ok (.lor, 1) := by decide +kernel
theorem dL_law_791 : decode cL_law 791 = .ok (.invokevirtual 89, 3) := by decide +kernel
theorem dL_law_794 : decode cL_law 794 = .ok (.if_icmp .eq 537, 3) := by decide +kernel
theorem dL_law_797 : decode cL_law 797 = .ok (.iconst 0, 1) := by decide +kernel
theorem dL_law_798 : decode cL_law 798 = .ok (.ireturn, 1) := by decide +kernel
theorem dL_law_799 : decode cL_law 799 = .ok (.aload_n 1, 1) := by decide +kernel
theorem dL_law_800 : decode cL_law 800 = .ok (.aload_n 0, 1) := by decide +kernel
theorem dL_law_801 : decode cL_law 801 = .ok (.iload_n 3, 1) := by decide +kernel
theorem dL_law_802 : decode cL_law 802 = .ok (.iconst 1, 1) := by decide +kernel
theorem dL_law_803 : decode cL_law 803 = .ok (.iadd, 1) := by decide +kernel
theorem dL_law_804 : decode cL_law 804 = .ok (.iaload, 1) := by decide +kernel
theorem dL_law_805 : decode cL_law 805 = .ok (.aload_n 0, 1) := by decide +kernel
theorem dL_law_806 : decode cL_law 806 = .ok (.iload_n 3, 1) := by decide +kernel
theorem dL_law_807 : decode cL_law 807 = .ok (.iconst 2, 1) := by decide +kernel
theorem dL_law_808 : decode cL_law 808 = .ok (.iadd, 1) := by decide +kernel
theorem dL_law_809 : decode cL_law 809 = .ok (.iaload, 1) := by decide +kernel
theorem dL_law_810 : decode cL_law 810 = .ok (.i2l, 1) := by decide +kernel
theorem dL_law_811 : decode cL_law 811 = .ok (.bipush 32, 2) := by decide +kernel
theorem dL_law_813 : decode cL_law 813 = .ok (.lshl, 1) := by decide +kernel
theorem dL_law_814 : decode cL_law 814 = .ok (.aload_n 0, 1) := by decide +kernel
theorem dL_law_815 : decode cL_law 815 = .ok (.iload_n 3, 1) := by decide +kernel
theorem dL_law_816 : decode cL_law 816 = .ok (.iconst 3, 1) := by decide +kernel
theorem dL_law_817 : decode cL_law 817 = .ok (.iadd, 1) := by decide +kernel
theorem dL_law_818 : decode cL_law 818 = .ok (.iaload, 1) := by decide +kernel
theorem dL_law_819 : decode cL_law 819 = .ok (.i2l, 1) := by decide +kernel
theorem dL_law_820 : decode cL_law 820 = .ok (.ldc2_w 83, 3) := by decide +kernel
theorem dL_law_823 : decode cL_law 823 = .ok (.land, 1) := by decide +kernel
theorem dL_law_824 : decode cL_law 824 = .ok (.lor, 1) := by decide +kernel
theorem dL_law_825 : decode cL_law 825 = .ok (.invokevirtual 90, 3) := by decide +kernel
theorem dL_law_828 : decode cL_law 828 = .ok (.aload_n 2, 1) := by decide +kernel
theorem dL_law_829 : decode cL_law 829 = .ok (.aload_n 0, 1) := by decide +kernel
theorem dL_law_830 : decode cL_law 830 = .ok (.iload_n 3, 1) := by decide +kernel
theorem dL_law_831 : decode cL_law 831 = .ok (.iconst 1, 1) := by decide +kernel
theorem dL_law_832 : decode cL_law 832 = .ok (.iadd, 1) := by decide +kernel
theorem dL_law_833 : decode cL_law 833 = .ok (.iaload, 1) := by decide +kernel
theorem dL_law_834 : decode cL_law 834 = .ok (.aload_n 0, 1) := by decide +kernel
theorem dL_law_835 : decode cL_law 835 = .ok (.iload_n 3, 1) := by decide +kernel
theorem dL_law_836 : decode cL_law 836 = .ok (.iconst 2, 1) := by decide +kernel
theorem dL_law_837 : decode cL_law 837 = .ok (.iadd, 1) := by decide +kernel
theorem dL_law_838 : decode cL_law 838 = .ok (.iaload, 1) := by decide +kernel
theorem dL_law_839 : decode cL_law 839 = .ok (.i2l, 1) := by decide +kernel
theorem dL_law_840 : decode cL_law 840 = .ok (.bipush 32, 2) := by decide +kernel
theorem dL_law_842 : decode cL_law 842 = .ok (.lshl, 1) := by decide +kernel
theorem dL_law_843 : decode cL_law 843 = .ok (.aload_n 0, 1) := by decide +kernel
theorem dL_law_844 : decode cL_law 844 = .ok (.iload_n 3, 1) := by decide +kernel
theorem dL_law_845 : decode cL_law 845 = .ok (.iconst 3, 1) := by decide +kernel
theorem dL_law_846 : decode cL_law 846 = .ok (.iadd, 1) := by decide +kernel
theorem dL_law_847 : decode cL_law 847 = .ok (.iaload, 1) := by decide +kernel
theorem dL_law_848 : decode cL_law 848 = .ok (.i2l, 1) := by decide +kernel
theorem dL_law_849 : decode cL_law 849 = .ok (.ldc2_w 83, 3) := by decide +kernel
theorem dL_law_852 : decode cL_law 852 = .ok (.land, 1) := by decide +kernel
theorem dL_law_853 : decode cL_law 853 = .ok (.lor, 1) := by decide +kernel
theorem dL_law_854 : decode cL_law 854 = .ok (.invokevirtual 94, 3) := by decide +kernel
theorem dL_law_857 : decode cL_law 857 = .ok (.if_icmp .eq 474, 3) := by decide +kernel
theorem dL_law_860 : decode cL_law 860 = .ok (.iconst 0, 1) := by decide +kernel
theorem dL_law_861 : decode cL_law 861 = .ok (.ireturn, 1) := by decide +kernel
theorem dL_law_862 : decode cL_law 862 = .ok (.aload_n 1, 1) := by decide +kernel
theorem dL_law_863 : decode cL_law 863 = .ok (.aload_n 0, 1) := by decide +kernel
theorem dL_law_864 : decode cL_law 864 = .ok (.iload_n 3, 1) := by decide +kernel
theorem dL_law_865 : decode cL_law 865 = .ok (.iconst 1, 1) := by decide +kernel
theorem dL_law_866 : decode cL_law 866 = .ok (.iadd, 1) := by decide +kernel
theorem dL_law_867 : decode cL_law 867 = .ok (.iaload, 1) := by decide +kernel
theorem dL_law_868 : decode cL_law 868 = .ok (.aload_n 0, 1) := by decide +kernel
theorem dL_law_869 : decode cL_law 869 = .ok (.iload_n 3, 1) := by decide +kernel
theorem dL_law_870 : decode cL_law 870 = .ok (.iconst 2, 1) := by decide +kernel
theorem dL_law_871 : decode cL_law 871 = .ok (.iadd, 1) := by decide +kernel
theorem dL_law_872 : decode cL_law 872 = .ok (.iaload, 1) := by decide +kernel
theorem dL_law_873 : decode cL_law 873 = .ok (.aload_n 0, 1) := by decide +kernel
theorem dL_law_874 : decode cL_law 874 = .ok (.iload_n 3, 1) := by decide +kernel
theorem dL_law_875 : decode cL_law 875 = .ok (.iconst 3, 1) := by decide +kernel
theorem dL_law_876 : decode cL_law 876 = .ok (.iadd, 1) := by decide +kernel
theorem dL_law_877 : decode cL_law 877 = .ok (.iaload, 1) := by decide +kernel
theorem dL_law_878 : decode cL_law 878 = .ok (.aload_n 0, 1) := by decide +kernel
theorem dL_law_879 : decode cL_law 879 = .ok (.iload_n 3, 1) := by decide +kernel
theorem dL_law_880 : decode cL_law 880 = .ok (.iconst 4, 1) := by decide +kernel
theorem dL_law_881 : decode cL_law 881 = .ok (.iadd, 1) := by decide +kernel
theorem dL_law_882 : decode cL_law 882 = .ok (.iaload, 1) := by decide +kernel
theorem dL_law_883 : decode cL_law 883 = .ok (.invokevirtual 95, 3) := by decide +kernel
theorem dL_law_886 : decode cL_law 886 = .ok (.aload_n 2, 1) := by decide +kernel
theorem dL_law_887 : decode cL_law 887 = .ok (.aload_n 0, 1) := by decide +kernel
theorem dL_law_888 : decode cL_law 888 = .ok (.iload_n 3, 1) := by decide +kernel
theorem dL_law_889 : decode cL_law 889 = .ok (.iconst 1, 1) := by decide +kernel
theorem dL_law_890 : decode cL_law 890 = .ok (.iadd, 1) := by decide +kernel
theorem dL_law_891 : decode cL_law 891 = .ok (.iaload, 1) := by decide +kernel
theorem dL_law_892 : decode cL_law 892 = .ok (.aload_n 0, 1) := by decide +kernel
theorem dL_law_893 : decode cL_law 893 = .ok (.iload_n 3, 1) := by decide +kernel
theorem dL_law_894 : decode cL_law 894 = .ok (.iconst 2, 1) := by decide +kernel
theorem dL_law_895 : decode cL_law 895 = .ok (.iadd, 1) := by decide +kernel
theorem dL_law_896 : decode cL_law 896 = .ok (.iaload, 1) := by decide +kernel
theorem dL_law_897 : decode cL_law 897 = .ok (.aload_n 0, 1) := by decide +kernel
theorem dL_law_898 : decode cL_law 898 = .ok (.iload_n 3, 1) := by decide +kernel
theorem dL_law_899 : decode cL_law 899 = .ok (.iconst 3, 1) := by decide +kernel
theorem dL_law_900 : decode cL_law 900 = .ok (.iadd, 1) := by decide +kernel
theorem dL_law_901 : decode cL_law 901 = .ok (.iaload, 1) := by decide +kernel
theorem dL_law_902 : decode cL_law 902 = .ok (.aload_n 0, 1) := by decide +kernel
theorem dL_law_903 : decode cL_law 903 = .ok (.iload_n 3, 1) := by decide +kernel
theorem dL_law_904 : decode cL_law 904 = .ok (.iconst 4, 1) := by decide +kernel
theorem dL_law_905 : decode cL_law 905 = .ok (.iadd, 1) := by decide +kernel
theorem dL_law_906 : decode cL_law 906 = .ok (.iaload, 1) := by decide +kernel
theorem dL_law_907 : decode cL_law 907 = .ok (.invokevirtual 98, 3) := by decide +kernel
theorem dL_law_910 : decode cL_law 910 = .ok (.if_icmp .eq 421, 3) := by decide +kernel
theorem dL_law_913 : decode cL_law 913 = .ok (.iconst 0, 1) := by decide +kernel
theorem dL_law_914 : decode cL_law 914 = .ok (.ireturn, 1) := by decide +kernel
theorem dL_law_915 : decode cL_law 915 = .ok (.aload_n 1, 1) := by decide +kernel
theorem dL_law_916 : decode cL_law 916 = .ok (.aload_n 0, 1) := by decide +kernel
theorem dL_law_917 : decode cL_law 917 = .ok (.iload_n 3, 1) := by decide +kernel
theorem dL_law_918 : decode cL_law 918 = .ok (.iconst 1, 1) := by decide +kernel
theorem dL_law_919 : decode cL_law 919 = .ok (.iadd, 1) := by decide +kernel
theorem dL_law_920 : decode cL_law 920 = .ok (.iaload, 1) := by decide +kernel
theorem dL_law_921 : decode cL_law 921 = .ok (.aload_n 0, 1) := by decide +kernel
theorem dL_law_922 : decode cL_law 922 = .ok (.iload_n 3, 1) := by decide +kernel
theorem dL_law_923 : decode cL_law 923 = .ok (.iconst 2, 1) := by decide +kernel
theorem dL_law_924 : decode cL_law 924 = .ok (.iadd, 1) := by decide +kernel
theorem dL_law_925 : decode cL_law 925 = .ok (.iaload, 1) := by decide +kernel
theorem dL_law_926 : decode cL_law 926 = .ok (.invokevirtual 99, 3) := by decide +kernel
theorem dL_law_929 : decode cL_law 929 = .ok (.aload_n 2, 1) := by decide +kernel
theorem dL_law_930 : decode cL_law 930 = .ok (.aload_n 0, 1) := by decide +kernel
theorem dL_law_931 : decode cL_law 931 = .ok (.iload_n 3, 1) := by decide +kernel
theorem dL_law_932 : decode cL_law 932 = .ok (.iconst 1, 1) := by decide +kernel
theorem dL_law_933 : decode cL_law 933 = .ok (.iadd, 1) := by decide +kernel
theorem dL_law_934 : decode cL_law 934 = .ok (.iaload, 1) := by decide +kernel
theorem dL_law_935 : decode cL_law 935 = .ok (.aload_n 0, 1) := by decide +kernel
theorem dL_law_936 : decode cL_law 936 = .ok (.iload_n 3, 1) := by decide +kernel
theorem dL_law_937 : decode cL_law 937 = .ok (.iconst 2, 1) := by decide +kernel
theorem dL_law_938 : decode cL_law 938 = .ok (.iadd, 1) := by decide +kernel
theorem dL_law_939 : decode cL_law 939 = .ok (.iaload, 1) := by decide +kernel
theorem dL_law_940 : decode cL_law 940 = .ok (.invokevirtual 102, 3) := by decide +kernel
theorem dL_law_943 : decode cL_law 943 = .ok (.if_icmp .eq 388, 3) := by decide +kernel
theorem dL_law_946 : decode cL_law 946 = .ok (.iconst 0, 1) := by decide +kernel
theorem dL_law_947 : decode cL_law 947 = .ok (.ireturn, 1) := by decide +kernel
theorem dL_law_948 : decode cL_law 948 = .ok (.aload_n 1, 1) := by decide +kernel
theorem dL_law_949 : decode cL_law 949 = .ok (.aload_n 0, 1) := by decide +kernel
theorem dL_law_950 : decode cL_law 950 = .ok (.iload_n 3, 1) := by decide +kernel
theorem dL_law_951 : decode cL_law 951 = .ok (.iconst 1, 1) := by decide +kernel
theorem dL_law_952 : decode cL_law 952 = .ok (.iadd, 1) := by decide +kernel
theorem dL_law_953 : decode cL_law 953 = .ok (.iaload, 1) := by decide +kernel
theorem dL_law_954 : decode cL_law 954 = .ok (.aload_n 0, 1) := by decide +kernel
theorem dL_law_955 : decode cL_law 955 = .ok (.iload_n 3, 1) := by decide +kernel
theorem dL_law_956 : decode cL_law 956 = .ok (.iconst 2, 1) := by decide +kernel
theorem dL_law_957 : decode cL_law 957 = .ok (.iadd, 1) := by decide +kernel
theorem dL_law_958 : decode cL_law 958 = .ok (.iaload, 1) := by decide +kernel
theorem dL_law_959 : decode cL_law 959 = .ok (.invokevirtual 103, 3) := by decide +kernel
theorem dL_law_962 : decode cL_law 962 = .ok (.aload_n 2, 1) := by decide +kernel
theorem dL_law_963 : decode cL_law 963 = .ok (.aload_n 0, 1) := by decide +kernel
theorem dL_law_964 : decode cL_law 964 = .ok (.iload_n 3, 1) := by decide +kernel
theorem dL_law_965 : decode cL_law 965 = .ok (.iconst 1, 1) := by decide +kernel
theorem dL_law_966 : decode cL_law 966 = .ok (.iadd, 1) := by decide +kernel
theorem dL_law_967 : decode cL_law 967 = .ok (.iaload, 1) := by decide +kernel
theorem dL_law_968 : decode cL_law 968 = .ok (.aload_n 0, 1) := by decide +kernel
theorem dL_law_969 : decode cL_law 969 = .ok (.iload_n 3, 1) := by decide +kernel
theorem dL_law_970 : decode cL_law 970 = .ok (.iconst 2, 1) := by decide +kernel
theorem dL_law_971 : decode cL_law 971 = .ok (.iadd, 1) := by decide +kernel
theorem dL_law_972 : decode cL_law 972 = .ok (.iaload, 1) := by decide +kernel
theorem dL_law_973 : decode cL_law 973 = .ok (.invokevirtual 106, 3) := by decide +kernel
theorem dL_law_976 : decode cL_law 976 = .ok (.if_icmp .eq 355, 3) := by decide +kernel
theorem dL_law_979 : decode cL_law 979 = .ok (.iconst 0, 1) := by decide +kernel
theorem dL_law_980 : decode cL_law 980 = .ok (.ireturn, 1) := by decide +kernel
theorem dL_law_981 : decode cL_law 981 = .ok (.aload_n 1, 1) := by decide +kernel
theorem dL_law_982 : decode cL_law 982 = .ok (.aload_n 0, 1) := by decide +kernel
theorem dL_law_983 : decode cL_law 983 = .ok (.iload_n 3, 1) := by decide +kernel
theorem dL_law_984 : decode cL_law 984 = .ok (.iconst 1, 1) := by decide +kernel
theorem dL_law_985 : decode cL_law 985 = .ok (.iadd, 1) := by decide +kernel
theorem dL_law_986 : decode cL_law 986 = .ok (.iaload, 1) := by decide +kernel
theorem dL_law_987 : decode cL_law 987 = .ok (.aload_n 0, 1) := by decide +kernel
theorem dL_law_988 : decode cL_law 988 = .ok (.iload_n 3, 1) := by decide +kernel
theorem dL_law_989 : decode cL_law 989 = .ok (.iconst 2, 1) := by decide +kernel
theorem dL_law_990 : decode cL_law 990 = .ok (.iadd, 1) := by decide +kernel
theorem dL_law_991 : decode cL_law 991 = .ok (.iaload, 1) := by decide +kernel
theorem dL_law_992 : decode cL_law 992 = .ok (.aload_n 0, 1) := by decide +kernel
theorem dL_law_993 : decode cL_law 993 = .ok (.iload_n 3, 1) := by decide +kernel
theorem dL_law_994 : decode cL_law 994 = .ok (.iconst 3, 1) := by decide +kernel
theorem dL_law_995 : decode cL_law 995 = .ok (.iadd, 1) := by decide +kernel
theorem dL_law_996 : decode cL_law 996 = .ok (.iaload, 1) := by decide +kernel
theorem dL_law_997 : decode cL_law 997 = .ok (.invokevirtual 107, 3) := by decide +kernel
theorem dL_law_1000 : decode cL_law 1000 = .ok (.aload_n 2, 1) := by decide +kernel
theorem dL_law_1001 : decode cL_law 1001 = .ok (.aload_n 0, 1) := by decide +kernel
theorem dL_law_1002 : decode cL_law 1002 = .ok (.iload_n 3, 1) := by decide +kernel
theorem dL_law_1003 : decode cL_law 1003 = .ok (.iconst 1, 1) := by decide +kernel
theorem dL_law_1004 : decode cL_law 1004 = .ok (.iadd, 1) := by decide +kernel
theorem dL_law_1005 : decode cL_law 1005 = .ok (.iaload, 1) := by decide +kernel
theorem dL_law_1006 : decode cL_law 1006 = .ok (.aload_n 0, 1) := by decide +kernel
theorem dL_law_1007 : decode cL_law 1007 = .ok (.iload_n 3, 1) := by decide +kernel
theorem dL_law_1008 : decode cL_law 1008 = .ok (.iconst 2, 1) := by decide +kernel
theorem dL_law_1009 : decode cL_law 1009 = .ok (.iadd, 1) := by decide +kernel
theorem dL_law_1010 : decode cL_law 1010 = .ok (.iaload, 1) := by decide +kernel
theorem dL_law_1011 : decode cL_law 1011 = .ok (.aload_n 0, 1) := by decide +kernel
theorem dL_law_1012 : decode cL_law 1012 = .ok (.iload_n 3, 1) := by decide +kernel
theorem dL_law_1013 : decode cL_law 1013 = .ok (.iconst 3, 1) := by decide +kernel
theorem dL_law_1014 : decode cL_law 1014 = .ok (.iadd, 1) := by decide +kernel
theorem dL_law_1015 : decode cL_law 1015 = .ok (.iaload, 1) := by decide +kernel
theorem dL_law_1016 : decode cL_law 1016 = .ok (.invokevirtual 110, 3) := by decide +kernel
theorem dL_law_1019 : decode cL_law 1019 = .ok (.if_icmp .eq 312, 3) := by decide +kernel
theorem dL_law_1022 : decode cL_law 1022 = .ok (.iconst 0, 1) := by decide +kernel
theorem dL_law_1023 : decode cL_law 1023 = .ok (.ireturn, 1) := by decide +kernel
theorem dL_law_1024 : decode cL_law 1024 = .ok (.aload_n 1, 1) := by decide +kernel
theorem dL_law_1025 : decode cL_law 1025 = .ok (.aload_n 0, 1) := by decide +kernel
theorem dL_law_1026 : decode cL_law 1026 = .ok (.iload_n 3, 1) := by decide +kernel
theorem dL_law_1027 : decode cL_law 1027 = .ok (.iconst 1, 1) := by decide +kernel
theorem dL_law_1028 : decode cL_law 1028 = .ok (.iadd, 1) := by decide +kernel
theorem dL_law_1029 : decode cL_law 1029 = .ok (.iaload, 1) := by decide +kernel
theorem dL_law_1030 : decode cL_law 1030 = .ok (.aload_n 0, 1) := by decide +kernel
theorem dL_law_1031 : decode cL_law 1031 = .ok (.iload_n 3, 1) := by decide +kernel
theorem dL_law_1032 : decode cL_law 1032 = .ok (.iconst 2, 1) := by decide +kernel
theorem dL_law_1033 : decode cL_law 1033 = .ok (.iadd, 1) := by decide +kernel
theorem dL_law_1034 : decode cL_law 1034 = .ok (.iaload, 1) := by decide +kernel
theorem dL_law_1035 : decode cL_law 1035 = .ok (.aload_n 0, 1) := by decide +kernel
theorem dL_law_1036 : decode cL_law 1036 = .ok (.iload_n 3, 1) := by decide +kernel
theorem dL_law_1037 : decode cL_law 1037 = .ok (.iconst 3, 1) := by decide +kernel
theorem dL_law_1038 : decode cL_law 1038 = .ok (.iadd, 1) := by decide +kernel
theorem dL_law_1039 : decode cL_law 1039 = .ok (.iaload, 1) := by decide +kernel
theorem dL_law_1040 : decode cL_law 1040 = .ok (.invokevirtual 111, 3) := by decide +kernel
theorem dL_law_1043 : decode cL_law 1043 = .ok (.aload_n 2, 1) := by decide +kernel
theorem dL_law_1044 : decode cL_law 1044 = .ok (.aload_n 0, 1) := by decide +kernel
theorem dL_law_1045 : decode cL_law 1045 = .ok (.iload_n 3, 1) := by decide +kernel
theorem dL_law_1046 : decode cL_law 1046 = .ok (.iconst 1, 1) := by decide +kernel
theorem dL_law_1047 : decode cL_law 1047 = .ok (.iadd, 1) := by decide +kernel
theorem dL_law_1048 : decode cL_law 1048 = .ok (.iaload, 1) := by decide +kernel
theorem dL_law_1049 : decode cL_law 1049 = .ok (.aload_n 0, 1) := by decide +kernel
theorem dL_law_1050 : decode cL_law 1050 = .ok (.iload_n 3, 1) := by decide +kernel
theorem dL_law_1051 : decode cL_law 1051 = .ok (.iconst 2, 1) := by decide +kernel
theorem dL_law_1052 : decode cL_law 1052 = .ok (.iadd, 1) := by decide +kernel
theorem dL_law_1053 : decode cL_law 1053 = .ok (.iaload, 1) := by decide +kernel
theorem dL_law_1054 : decode cL_law 1054 = .ok (.aload_n 0, 1) := by decide +kernel
theorem dL_law_1055 : decode cL_law 1055 = .ok (.iload_n 3, 1) := by decide +kernel
theorem dL_law_1056 : decode cL_law 1056 = .ok (.iconst 3, 1) := by decide +kernel
theorem dL_law_1057 : decode cL_law 1057 = .ok (.iadd, 1) := by decide +kernel
theorem dL_law_1058 : decode cL_law 1058 = .ok (.iaload, 1) := by decide +kernel
theorem dL_law_1059 : decode cL_law 1059 = .ok (.invokevirtual 114, 3) := by decide +kernel
theorem dL_law_1062 : decode cL_law 1062 = .ok (.if_icmp .eq 269, 3) := by decide +kernel
theorem dL_law_1065 : decode cL_law 1065 = .ok (.iconst 0, 1) := by decide +kernel
theorem dL_law_1066 : decode cL_law 1066 = .ok (.ireturn, 1) := by decide +kernel
theorem dL_law_1067 : decode cL_law 1067 = .ok (.aload_n 1, 1) := by decide +kernel
theorem dL_law_1068 : decode cL_law 1068 = .ok (.aload_n 0, 1) := by decide +kernel
theorem dL_law_1069 : decode cL_law 1069 = .ok (.iload_n 3, 1) := by decide +kernel
theorem dL_law_1070 : decode cL_law 1070 = .ok (.iconst 1, 1) := by decide +kernel
theorem dL_law_1071 : decode cL_law 1071 = .ok (.iadd, 1) := by decide +kernel
theorem dL_law_1072 : decode cL_law 1072 = .ok (.iaload, 1) := by decide +kernel
theorem dL_law_1073 : decode cL_law 1073 = .ok (.aload_n 0, 1) := by decide +kernel
theorem dL_law_1074 : decode cL_law 1074 = .ok (.iload_n 3, 1) := by decide +kernel
theorem dL_law_1075 : decode cL_law 1075 = .ok (.iconst 2, 1) := by decide +kernel
theorem dL_law_1076 : decode cL_law 1076 = .ok (.iadd, 1) := by decide +kernel
theorem dL_law_1077 : decode cL_law 1077 = .ok (.iaload, 1) := by decide +kernel
theorem dL_law_1078 : decode cL_law 1078 = .ok (.invokevirtual 115, 3) := by decide +kernel
theorem dL_law_1081 : decode cL_law 1081 = .ok (.aload_n 2, 1) := by decide +kernel
theorem dL_law_1082 : decode cL_law 1082 = .ok (.aload_n 0, 1) := by decide +kernel
theorem dL_law_1083 : decode cL_law 1083 = .ok (.iload_n 3, 1) := by decide +kernel
theorem dL_law_1084 : decode cL_law 1084 = .ok (.iconst 1, 1) := by decide +kernel
theorem dL_law_1085 : decode cL_law 1085 = .ok (.iadd, 1) := by decide +kernel
theorem dL_law_1086 : decode cL_law 1086 = .ok (.iaload, 1) := by decide +kernel
theorem dL_law_1087 : decode cL_law 1087 = .ok (.aload_n 0, 1) := by decide +kernel
theorem dL_law_1088 : decode cL_law 1088 = .ok (.iload_n 3, 1) := by decide +kernel
theorem dL_law_1089 : decode cL_law 1089 = .ok (.iconst 2, 1) := by decide +kernel
theorem dL_law_1090 : decode cL_law 1090 = .ok (.iadd, 1) := by decide +kernel
theorem dL_law_1091 : decode cL_law 1091 = .ok (.iaload, 1) := by decide +kernel
theorem dL_law_1092 : decode cL_law 1092 = .ok (.invokevirtual 118, 3) := by decide +kernel
theorem dL_law_1095 : decode cL_law 1095 = .ok (.if_icmp .eq 236, 3) := by decide +kernel
theorem dL_law_1098 : decode cL_law 1098 = .ok (.iconst 0, 1) := by decide +kernel
theorem dL_law_1099 : decode cL_law 1099 = .ok (.ireturn, 1) := by decide +kernel
theorem dL_law_1100 : decode cL_law 1100 = .ok (.aload_n 1, 1) := by decide +kernel
theorem dL_law_1101 : decode cL_law 1101 = .ok (.aload_n 0, 1) := by decide +kernel
theorem dL_law_1102 : decode cL_law 1102 = .ok (.iload_n 3, 1) := by decide +kernel
theorem dL_law_1103 : decode cL_law 1103 = .ok (.iconst 1, 1) := by decide +kernel
theorem dL_law_1104 : decode cL_law 1104 = .ok (.iadd, 1) := by decide +kernel
theorem dL_law_1105 : decode cL_law 1105 = .ok (.iaload, 1) := by decide +kernel
theorem dL_law_1106 : decode cL_law 1106 = .ok (.aload_n 0, 1) := by decide +kernel
theorem dL_law_1107 : decode cL_law 1107 = .ok (.iload_n 3, 1) := by decide +kernel
theorem dL_law_1108 : decode cL_law 1108 = .ok (.iconst 2, 1) := by decide +kernel
theorem dL_law_1109 : decode cL_law 1109 = .ok (.iadd, 1) := by decide +kernel
theorem dL_law_1110 : decode cL_law 1110 = .ok (.iaload, 1) := by decide +kernel
theorem dL_law_1111 : decode cL_law 1111 = .ok (.invokevirtual 119, 3) := by decide +kernel
theorem dL_law_1114 : decode cL_law 1114 = .ok (.aload_n 2, 1) := by decide +kernel
theorem dL_law_1115 : decode cL_law 1115 = .ok (.aload_n 0, 1) := by decide +kernel
theorem dL_law_1116 : decode cL_law 1116 = .ok (.iload_n 3, 1) := by decide +kernel
theorem dL_law_1117 : decode cL_law 1117 = .ok (.iconst 1, 1) := by decide +kernel
theorem dL_law_1118 : decode cL_law 1118 = .ok (.iadd, 1) := by decide +kernel
theorem dL_law_1119 : decode cL_law 1119 = .ok (.iaload, 1) := by decide +kernel
theorem dL_law_1120 : decode cL_law 1120 = .ok (.aload_n 0, 1) := by decide +kernel
theorem dL_law_1121 : decode cL_law 1121 = .ok (.iload_n 3, 1) := by decide +kernel
theorem dL_law_1122 : decode cL_law 1122 = .ok (.iconst 2, 1) := by decide +kernel
theorem dL_law_1123 : decode cL_law 1123 = .ok (.iadd, 1) := by decide +kernel
theorem dL_law_1124 : decode cL_law 1124 = .ok (.iaload, 1) := by decide +kernel
theorem dL_law_1125 : decode cL_law 1125 = .ok (.invokevirtual 122, 3) := by decide +kernel
theorem dL_law_1128 : decode cL_law 1128 = .ok (.if_icmp .eq 203, 3) := by decide +kernel
theorem dL_law_1131 : decode cL_law 1131 = .ok (.iconst 0, 1) := by decide +kernel
theorem dL_law_1132 : decode cL_law 1132 = .ok (.ireturn, 1) := by decide +kernel
theorem dL_law_1133 : decode cL_law 1133 = .ok (.aload_n 1, 1) := by decide +kernel
theorem dL_law_1134 : decode cL_law 1134 = .ok (.aload_n 0, 1) := by decide +kernel
theorem dL_law_1135 : decode cL_law 1135 = .ok (.iload_n 3, 1) := by decide +kernel
theorem dL_law_1136 : decode cL_law 1136 = .ok (.iconst 1, 1) := by decide +kernel
theorem dL_law_1137 : decode cL_law 1137 = .ok (.iadd, 1) := by decide +kernel
theorem dL_law_1138 : decode cL_law 1138 = .ok (.iaload, 1) := by decide +kernel
theorem dL_law_1139 : decode cL_law 1139 = .ok (.i2l, 1) := by decide +kernel
theorem dL_law_1140 : decode cL_law 1140 = .ok (.bipush 32, 2) := by decide +kernel
theorem dL_law_1142 : decode cL_law 1142 = .ok (.lshl, 1) := by decide +kernel
theorem dL_law_1143 : decode cL_law 1143 = .ok (.aload_n 0, 1) := by decide +kernel
theorem dL_law_1144 : decode cL_law 1144 = .ok (.iload_n 3, 1) := by decide +kernel
theorem dL_law_1145 : decode cL_law 1145 = .ok (.iconst 2, 1) := by decide +kernel
theorem dL_law_1146 : decode cL_law 1146 = .ok (.iadd, 1) := by decide +kernel
theorem dL_law_1147 : decode cL_law 1147 = .ok (.iaload, 1) := by decide +kernel
theorem dL_law_1148 : decode cL_law 1148 = .ok (.i2l, 1) := by decide +kernel
theorem dL_law_1149 : decode cL_law 1149 = .ok (.ldc2_w 83, 3) := by decide +kernel
theorem dL_law_1152 : decode cL_law 1152 = .ok (.land, 1) := by decide +kernel
theorem dL_law_1153 : decode cL_law 1153 = .ok (.lor, 1) := by decide +kernel
theorem dL_law_1154 : decode cL_law 1154 = .ok (.aload_n 0, 1) := by decide +kernel
theorem dL_law_1155 : decode cL_law 1155 = .ok (.iload_n 3, 1) := by decide +kernel
theorem dL_law_1156 : decode cL_law 1156 = .ok (.iconst 3, 1) := by decide +kernel
theorem dL_law_1157 : decode cL_law 1157 = .ok (.iadd, 1) := by decide +kernel
theorem dL_law_1158 : decode cL_law 1158 = .ok (.iaload, 1) := by decide +kernel
theorem dL_law_1159 : decode cL_law 1159 = .ok (.invokevirtual 123, 3) := by decide +kernel
theorem dL_law_1162 : decode cL_law 1162 = .ok (.aload_n 2, 1) := by decide +kernel
theorem dL_law_1163 : decode cL_law 1163 = .ok (.aload_n 0, 1) := by decide +kernel
theorem dL_law_1164 : decode cL_law 1164 = .ok (.iload_n 3, 1) := by decide +kernel
theorem dL_law_1165 : decode cL_law 1165 = .ok (.iconst 1, 1) := by decide +kernel
theorem dL_law_1166 : decode cL_law 1166 = .ok (.iadd, 1) := by decide +kernel
theorem dL_law_1167 : decode cL_law 1167 = .ok (.iaload, 1) := by decide +kernel
theorem dL_law_1168 : decode cL_law 1168 = .ok (.i2l, 1) := by decide +kernel
theorem dL_law_1169 : decode cL_law 1169 = .ok (.bipush 32, 2) := by decide +kernel
theorem dL_law_1171 : decode cL_law 1171 = .ok (.lshl, 1) := by decide +kernel
theorem dL_law_1172 : decode cL_law 1172 = .ok (.aload_n 0, 1) := by decide +kernel
theorem dL_law_1173 : decode cL_law 1173 = .ok (.iload_n 3, 1) := by decide +kernel
theorem dL_law_1174 : decode cL_law 1174 = .ok (.iconst 2, 1) := by decide +kernel
theorem dL_law_1175 : decode cL_law 1175 = .ok (.iadd, 1) := by decide +kernel
theorem dL_law_1176 : decode cL_law 1176 = .ok (.iaload, 1) := by decide +kernel
theorem dL_law_1177 : decode cL_law 1177 = .ok (.i2l, 1) := by decide +kernel
theorem dL_law_1178 : decode cL_law 1178 = .ok (.ldc2_w 83, 3) := by decide +kernel
theorem dL_law_1181 : decode cL_law 1181 = .ok (.land, 1) := by decide +kernel
theorem dL_law_1182 : decode cL_law 1182 = .ok (.lor, 1) := by decide +kernel
theorem dL_law_1183 : decode cL_law 1183 = .ok (.aload_n 0, 1) := by decide +kernel
theorem dL_law_1184 : decode cL_law 1184 = .ok (.iload_n 3, 1) := by decide +kernel
theorem dL_law_1185 : decode cL_law 1185 = .ok (.iconst 3, 1) := by decide +kernel
theorem dL_law_1186 : decode cL_law 1186 = .ok (.iadd, 1) := by decide +kernel
theorem dL_law_1187 : decode cL_law 1187 = .ok (.iaload, 1) := by decide +kernel
theorem dL_law_1188 : decode cL_law 1188 = .ok (.invokevirtual 127, 3) := by decide +kernel
theorem dL_law_1191 : decode cL_law 1191 = .ok (.if_icmp .eq 140, 3) := by decide +kernel
theorem dL_law_1194 : decode cL_law 1194 = .ok (.iconst 0, 1) := by decide +kernel
theorem dL_law_1195 : decode cL_law 1195 = .ok (.ireturn, 1) := by decide +kernel
theorem dL_law_1196 : decode cL_law 1196 = .ok (.aload_n 1, 1) := by decide +kernel
theorem dL_law_1197 : decode cL_law 1197 = .ok (.aload_n 0, 1) := by decide +kernel
theorem dL_law_1198 : decode cL_law 1198 = .ok (.iload_n 3, 1) := by decide +kernel
theorem dL_law_1199 : decode cL_law 1199 = .ok (.iconst 1, 1) := by decide +kernel
theorem dL_law_1200 : decode cL_law 1200 = .ok (.iadd, 1) := by decide +kernel
theorem dL_law_1201 : decode cL_law 1201 = .ok (.iaload, 1) := by decide +kernel
theorem dL_law_1202 : decode cL_law 1202 = .ok (.invokevirtual 128, 3) := by decide +kernel
theorem dL_law_1205 : decode cL_law 1205 = .ok (.aload_n 2, 1) := by decide +kernel
theorem dL_law_1206 : decode cL_law 1206 = .ok (.aload_n 0, 1) := by decide +kernel
theorem dL_law_1207 : decode cL_law 1207 = .ok (.iload_n 3, 1) := by decide +kernel
theorem dL_law_1208 : decode cL_law 1208 = .ok (.iconst 1, 1) := by decide +kernel
theorem dL_law_1209 : decode cL_law 1209 = .ok (.iadd, 1) := by decide +kernel
theorem dL_law_1210 : decode cL_law 1210 = .ok (.iaload, 1) := by decide +kernel
theorem dL_law_1211 : decode cL_law 1211 = .ok (.invokevirtual 131, 3) := by decide +kernel
theorem dL_law_1214 : decode cL_law 1214 = .ok (.if_icmp .eq 117, 3) := by decide +kernel
theorem dL_law_1217 : decode cL_law 1217 = .ok (.iconst 0, 1) := by decide +kernel
theorem dL_law_1218 : decode cL_law 1218 = .ok (.ireturn, 1) := by decide +kernel
theorem dL_law_1219 : decode cL_law 1219 = .ok (.aload_n 1, 1) := by decide +kernel
theorem dL_law_1220 : decode cL_law 1220 = .ok (.aload_n 0, 1) := by decide +kernel
theorem dL_law_1221 : decode cL_law 1221 = .ok (.iload_n 3, 1) := by decide +kernel
theorem dL_law_1222 : decode cL_law 1222 = .ok (.iconst 1, 1) := by decide +kernel
theorem dL_law_1223 : decode cL_law 1223 = .ok (.iadd, 1) := by decide +kernel
theorem dL_law_1224 : decode cL_law 1224 = .ok (.iaload, 1) := by decide +kernel
theorem dL_law_1225 : decode cL_law 1225 = .ok (.i2l, 1) := by decide +kernel
theorem dL_law_1226 : decode cL_law 1226 = .ok (.bipush 32, 2) := by decide +kernel
theorem dL_law_1228 : decode cL_law 1228 = .ok (.lshl, 1) := by decide +kernel
theorem dL_law_1229 : decode cL_law 1229 = .ok (.aload_n 0, 1) := by decide +kernel
theorem dL_law_1230 : decode cL_law 1230 = .ok (.iload_n 3, 1) := by decide +kernel
theorem dL_law_1231 : decode cL_law 1231 = .ok (.iconst 2, 1) := by decide +kernel
theorem dL_law_1232 : decode cL_law 1232 = .ok (.iadd, 1) := by decide +kernel
theorem dL_law_1233 : decode cL_law 1233 = .ok (.iaload, 1) := by decide +kernel
theorem dL_law_1234 : decode cL_law 1234 = .ok (.i2l, 1) := by decide +kernel
theorem dL_law_1235 : decode cL_law 1235 = .ok (.ldc2_w 83, 3) := by decide +kernel
theorem dL_law_1238 : decode cL_law 1238 = .ok (.land, 1) := by decide +kernel
theorem dL_law_1239 : decode cL_law 1239 = .ok (.lor, 1) := by decide +kernel
theorem dL_law_1240 : decode cL_law 1240 = .ok (.aload_n 0, 1) := by decide +kernel
theorem dL_law_1241 : decode cL_law 1241 = .ok (.iload_n 3, 1) := by decide +kernel
theorem dL_law_1242 : decode cL_law 1242 = .ok (.iconst 3, 1) := by decide +kernel
theorem dL_law_1243 : decode cL_law 1243 = .ok (.iadd, 1) := by decide +kernel
theorem dL_law_1244 : decode cL_law 1244 = .ok (.iaload, 1) := by decide +kernel
theorem dL_law_1245 : decode cL_law 1245 = .ok (.invokevirtual 132, 3) := by decide +kernel
theorem dL_law_1248 : decode cL_law 1248 = .ok (.aload_n 2, 1) := by decide +kernel
theorem dL_law_1249 : decode cL_law 1249 = .ok (.aload_n 0, 1) := by decide +kernel
theorem dL_law_1250 : decode cL_law 1250 = .ok (.iload_n 3, 1) := by decide +kernel
theorem dL_law_1251 : decode cL_law 1251 = .ok (.iconst 1, 1) := by decide +kernel
theorem dL_law_1252 : decode cL_law 1252 = .ok (.iadd, 1) := by decide +kernel
theorem dL_law_1253 : decode cL_law 1253 = .ok (.iaload, 1) := by decide +kernel
theorem dL_law_1254 : decode cL_law 1254 = .ok (.i2l, 1) := by decide +kernel
theorem dL_law_1255 : decode cL_law 1255 = .ok (.bipush 32, 2) := by decide +kernel
theorem dL_law_1257 : decode cL_law 1257 = .ok (.lshl, 1) := by decide +kernel
theorem dL_law_1258 : decode cL_law 1258 = .ok (.aload_n 0, 1) := by decide +kernel
theorem dL_law_1259 : decode cL_law 1259 = .ok (.iload_n 3, 1) := by decide +kernel
theorem dL_law_1260 : decode cL_law 1260 = .ok (.iconst 2, 1) := by decide +kernel
theorem dL_law_1261 : decode cL_law 1261 = .ok (.iadd, 1) := by decide +kernel
theorem dL_law_1262 : decode cL_law 1262 = .ok (.iaload, 1) := by decide +kernel
theorem dL_law_1263 : decode cL_law 1263 = .ok (.i2l, 1) := by decide +kernel
theorem dL_law_1264 : decode cL_law 1264 = .ok (.ldc2_w 83, 3) := by decide +kernel
theorem dL_law_1267 : decode cL_law 1267 = .ok (.land, 1) := by decide +kernel
theorem dL_law_1268 : decode cL_law 1268 = .ok (.lor, 1) := by decide +kernel
theorem dL_law_1269 : decode cL_law 1269 = .ok (.aload_n 0, 1) := by decide +kernel
theorem dL_law_1270 : decode cL_law 1270 = .ok (.iload_n 3, 1) := by decide +kernel
theorem dL_law_1271 : decode cL_law 1271 = .ok (.iconst 3, 1) := by decide +kernel
theorem dL_law_1272 : decode cL_law 1272 = .ok (.iadd, 1) := by decide +kernel
theorem dL_law_1273 : decode cL_law 1273 = .ok (.iaload, 1) := by decide +kernel
theorem dL_law_1274 : decode cL_law 1274 = .ok (.invokevirtual 135, 3) := by decide +kernel
theorem dL_law_1277 : decode cL_law 1277 = .ok (.if_icmp .eq 54, 3) := by decide +kernel
theorem dL_law_1280 : decode cL_law 1280 = .ok (.iconst 0, 1) := by decide +kernel
theorem dL_law_1281 : decode cL_law 1281 = .ok (.ireturn, 1) := by decide +kernel
theorem dL_law_1282 : decode cL_law 1282 = .ok (.aload_n 1, 1) := by decide +kernel
theorem dL_law_1283 : decode cL_law 1283 = .ok (.invokevirtual 136, 3) := by decide +kernel
theorem dL_law_1286 : decode cL_law 1286 = .ok (.aload_n 2, 1) := by decide +kernel
theorem dL_law_1287 : decode cL_law 1287 = .ok (.invokevirtual 139, 3) := by decide +kernel
theorem dL_law_1290 : decode cL_law 1290 = .ok (.if_icmp .eq 41, 3) := by decide +kernel
theorem dL_law_1293 : decode cL_law 1293 = .ok (.iconst 0, 1) := by decide +kernel
theorem dL_law_1294 : decode cL_law 1294 = .ok (.ireturn, 1) := by decide +kernel
theorem dL_law_1295 : decode cL_law 1295 = .ok (.aload_n 1, 1) := by decide +kernel
theorem dL_law_1296 : decode cL_law 1296 = .ok (.aload_n 0, 1) := by decide +kernel
theorem dL_law_1297 : decode cL_law 1297 = .ok (.iload_n 3, 1) := by decide +kernel
theorem dL_law_1298 : decode cL_law 1298 = .ok (.iconst 1, 1) := by decide +kernel
theorem dL_law_1299 : decode cL_law 1299 = .ok (.iadd, 1) := by decide +kernel
theorem dL_law_1300 : decode cL_law 1300 = .ok (.iaload, 1) := by decide +kernel
theorem dL_law_1301 : decode cL_law 1301 = .ok (.invokevirtual 140, 3) := by decide +kernel
theorem dL_law_1304 : decode cL_law 1304 = .ok (.aload_n 2, 1) := by decide +kernel
theorem dL_law_1305 : decode cL_law 1305 = .ok (.aload_n 0, 1) := by decide +kernel
theorem dL_law_1306 : decode cL_law 1306 = .ok (.iload_n 3, 1) := by decide +kernel
theorem dL_law_1307 : decode cL_law 1307 = .ok (.iconst 1, 1) := by decide +kernel
theorem dL_law_1308 : decode cL_law 1308 = .ok (.iadd, 1) := by decide +kernel
theorem dL_law_1309 : decode cL_law 1309 = .ok (.iaload, 1) := by decide +kernel
theorem dL_law_1310 : decode cL_law 1310 = .ok (.invokevirtual 143, 3) := by decide +kernel
theorem dL_law_1313 : decode cL_law 1313 = .ok (.if_icmp .eq 18, 3) := by decide +kernel
theorem dL_law_1316 : decode cL_law 1316 = .ok (.iconst 0, 1) := by decide +kernel
theorem dL_law_1317 : decode cL_law 1317 = .ok (.ireturn, 1) := by decide +kernel
theorem dL_law_1318 : decode cL_law 1318 = .ok (.aload_n 1, 1) := by decide +kernel
theorem dL_law_1319 : decode cL_law 1319 = .ok (.invokevirtual 144, 3) := by decide +kernel
theorem dL_law_1322 : decode cL_law 1322 = .ok (.aload_n 2, 1) := by decide +kernel
theorem dL_law_1323 : decode cL_law 1323 = .ok (.invokevirtual 147, 3) := by decide +kernel
theorem dL_law_1326 : decode cL_law 1326 = .ok (.if_icmp .eq 5, 3) := by decide +kernel
theorem dL_law_1329 : decode cL_law 1329 = .ok (.iconst 0, 1) := by decide +kernel
theorem dL_law_1330 : decode cL_law 1330 = .ok (.ireturn, 1) := by decide +kernel
theorem dL_law_1331 : decode cL_law 1331 = .ok (.iinc 3 6, 3) := by decide +kernel
theorem dL_law_1334 : decode cL_law 1334 = .ok (.goto (-1316), 3) := by decide +kernel
theorem dL_law_1337 : decode cL_law 1337 = .ok (.iconst 1, 1) := by decide +kernel
theorem dL_law_1338 : decode cL_law 1338 = .ok (.ireturn, 1) := by decide +kernel
end
section
def gz_kdx : List ((Nat × Nat) ⊕ (Nat × Nat)) := [.inl (9, 11), .inl (2, 2), .inr (1, 157), .inl (8, 11), .inr (2, 400), .inr (5, 13), .inl (4, 2), .inr (4, 8), .inl (3, 7), .inr (1, 4), .inl (1, 6), .inr (7, 61), .inr (1, 61), .inr (0, 60), .inl (6, 15), .inr (1, 8), .inr (0, 4), .inr (0, 4), .inr (0, 4), .inr (6, 40), .inl (5, 6), .inr (0, 12), .inl (7, 7), .inr (0, 4096), .inr (0, 12), .inr (0, 12), .inl (0, 10), .inr (0, 100), .inr (0, 100), .inr (1, 100), .inr (1, 100)]
def gz_fkx : List (List Nat) := [[4, 6, 8, 0, 13, 22, 0, 0, 25, 29, 0], [5, 0], [], [7, 0, 0, 0, 0, 0, 0, 1, 0, 0, 0], [], [], [10, 0], [], [1, 0, 0, 0, 0, 12, 0], [], [14, 0, 15, 0, 16, 0], [], [], [], [0, 0, 0, 0, 0, 18, 0, 19, 20, 21, 0, 1, 1, 1, 0], [], [], [], [], [], [0, 0, 0, 0, 0, 24], [], [26, 27, 28, 0, 0, 0, 0], [], [], [], [30, 31, 32, 33, 0, 0, 0, 0, 1, 1], [], [], [], []]
def gz_ctx : List Nat := [1, 1, 1, 1, 1, 1, 13, 13, 104, 104, 1, 1, 1, 1, 61, 61, 61, 61, 61, 1, 40, 40, 1, 1, 1, 1, 1, 1, 1, 1, 1]
def gz_ofx : List (Nat × Nat) := [(0, 0), (1, 0), (2, 0), (3, 0), (4, 0), (5, 0), (6, 18), (7, 18), (8, 0), (9, 0), (240, 0), (241, 0), (242, 0), (243, 0), (244, 5), (245, 5), (246, 5), (247, 5), (248, 5), (549, 0), (550, 2), (551, 2), (630, 0), (631, 0), (632, 0), (633, 0), (634, 0), (635, 0), (636, 0), (637, 0), (638, 0)]
def gz_kdm : List ((Nat × Nat) ⊕ (Nat × Nat)) := [.inl (11, 63), .inr (0, 100), .inr (0, 100), .inr (1, 100), .inr (1, 100), .inr (3, 10000), .inl (10, 8), .inr (2, 400), .inr (0, 13), .inr (0, 104), .inr (0, 104), .inr (0, 104), .inr (3, 104), .inr (1, 104), .inr (1, 416), .inr (0, 61), .inr (0, 61), .inr (0, 61), .inr (0, 61), .inr (0, 61), .inr (0, 61), .inr (1, 488), .inr (1, 61), .inr (1, 61), .inr (1, 61), .inr (3, 488), .inr (0, 240), .inr (0, 240), .inr (0, 240), .inr (0, 40), .inr (0, 40), .inr (0, 40), .inr (0, 40), .inr (0, 40), .inr (0, 480), .inr (0, 12), .inr (0, 4096), .inr (0, 4096), .inr (3, 60), .inr (0, 10000), .inr (0, 10000), .inr (3, 10000), .inr (1, 61), .inr (0, 60), .inr (3, 60)]
def gz_fkm : List (List Nat) := [[0, 0, 0, 0, 0, 4, 5, 6, 7, 0, 8, 0, 9, 10, 0, 0, 0, 0, 0, 0, 1, 0, 11, 12, 13, 14, 15, 16, 17, 0, 0, 0, 18, 19, 20, 21, 22, 23, 24, 25, 26, 27, 28, 29, 30, 31, 32, 33, 34, 35, 36, 37, 38, 39, 40, 0, 41, 42, 43, 44, 45, 46, 0], [], [], [], [], [], [2, 2, 2, 2, 2, 0, 0, 0], [], [], [], [], [], [], [], [], [], [], [], [], [], [], [], [], [], [], [], [], [], [], [], [], [], [], [], [], [], [], [], [], [], [], [], [], []]
def gz_ctm : List Nat := [1, 1, 1, 1, 1, 1, 1, 1, 1, 1, 1, 1, 1, 1, 1, 1, 1, 1, 1, 1, 1, 1, 1, 1, 1, 1, 1, 1, 1, 1, 1, 1, 1, 1, 1, 1, 1, 1, 1, 1, 1, 1, 1, 1]
def gz_ofm : List (Nat × Nat) := [(639, 0), (640, 0), (641, 0), (642, 0), (643, 0), (644, 0), (645, 0), (646, 0), (647, 0), (648, 0), (649, 0), (650, 0), (651, 0), (652, 0), (653, 0), (654, 0), (655, 0), (656, 0), (657, 0), (658, 0), (659, 0), (660, 0), (661, 0), (662, 0), (663, 0), (664, 0), (665, 0), (666, 0), (667, 0), (668, 0), (669, 0), (670, 0), (671, 0), (672, 0), (673, 0), (674, 0), (675, 0), (676, 0), (677, 0), (678, 0), (679, 0), (680, 0), (681, 0), (682, 0)]
def gz_inv : List (Nat × Nat) := [(0, 0), (1, 0), (2, 0), (3, 0), (4, 0), (5, 0), (6, 0), (7, 0), (8, 0), (9, 0), (8, 1), (9, 1), (8, 2), (9, 2), (8, 3), (9, 3), (8, 4), (9, 4), (8, 5), (9, 5), (8, 6), (9, 6), (8, 7), (9, 7), (6, 1), (7, 1), (8, 8), (9, 8), (8, 9), (9, 9), (8, 10), (9, 10), (8, 11), (9, 11), (8, 12), (9, 12), (8, 13), (9, 13), (8, 14), (9, 14), (8, 15), (9, 15), (6, 2), (7, 2), (8, 16), (9, 16), (8, 17), (9, 17), (8, 18), (9, 18), (8, 19), (9, 19), (8, 20), (9, 20), (8, 21), (9, 21), (8, 22), (9, 22), (8, 23), (9, 23), (6, 3), (7, 3), (8, 24), (9, 24), (8, 25), (9, 25), (8, 26), (9, 26), (8, 27), (9, 27), (8, 28), (9, 28), (8, 29), (9, 29), (8, 30), (9, 30), (8, 31), (9, 31), (6, 4), (7, 4), (8, 32), (9, 32), (8, 33), (9, 33), (8, 34), (9, 34), (8, 35), (9, 35), (8, 36), (9, 36), (8, 37), (9, 37), (8, 38), (9, 38), (8, 39), (9, 39), (6, 5), (7, 5), (8, 40), (9, 40), (8, 41), (9, 41), (8, 42), (9, 42), (8, 43), (9, 43), (8, 44), (9, 44), (8, 45), (9, 45), (8, 46), (9, 46), (8, 47), (9, 47), (6, 6), (7, 6), (8, 48), (9, 48), (8, 49), (9, 49), (8, 50), (9, 50), (8, 51), (9, 51), (8, 52), (9, 52), (8, 53), (9, 53), (8, 54), (9, 54), (8, 55), (9, 55), (6, 7), (7, 7), (8, 56), (9, 56), (8, 57), (9, 57), (8, 58), (9, 58), (8, 59), (9, 59), (8, 60), (9, 60), (8, 61), (9, 61), (8, 62), (9, 62), (8, 63), (9, 63), (6, 8), (7, 8), (8, 64), (9, 64), (8, 65), (9, 65), (8, 66), (9, 66), (8, 67), (9, 67), (8, 68), (9, 68), (8, 69), (9, 69), (8, 70), (9, 70), (8, 71), (9, 71), (6, 9), (7, 9), (8, 72), (9, 72), (8, 73), (9, 73), (8, 74), (9, 74), (8, 75), (9, 75), (8, 76), (9, 76), (8, 77), (9, 77), (8, 78), (9, 78), (8, 79), (9, 79), (6, 10), (7, 10), (8, 80), (9, 80), (8, 81), (9, 81), (8, 82), (9, 82), (8, 83), (9, 83), (8, 84), (9, 84), (8, 85), (9, 85), (8, 86), (9, 86), (8, 87), (9, 87), (6, 11), (7, 11), (8, 88), (9, 88), (8, 89), (9, 89), (8, 90), (9, 90), (8, 91), (9, 91), (8, 92), (9, 92), (8, 93), (9, 93), (8, 94), (9, 94), (8, 95), (9, 95), (6, 12), (7, 12), (8, 96), (9, 96), (8, 97), (9, 97), (8, 98), (9, 98), (8, 99), (9, 99), (8, 100), (9, 100), (8, 101), (9, 101), (8, 102), (9, 102), (8, 103), (9, 103), (10, 0), (11, 0), (12, 0), (13, 0), (14, 0), (15, 0), (16, 0), (17, 0), (18, 0), (14, 1), (15, 1), (16, 1), (17, 1), (18, 1), (14, 2), (15, 2), (16, 2), (17, 2), (18, 2), (14, 3), (15, 3), (16, 3), (17, 3), (18, 3), (14, 4), (15, 4), (16, 4), (17, 4), (18, 4), (14, 5), (15, 5), (16, 5), (17, 5), (18, 5), (14, 6), (15, 6), (16, 6), (17, 6), (18, 6), (14, 7), (15, 7), (16, 7), (17, 7), (18, 7), (14, 8), (15, 8), (16, 8), (17, 8), (18, 8), (14, 9), (15, 9), (16, 9), (17, 9), (18, 9), (14, 10), (15, 10), (16, 10), (17, 10), (18, 10), (14, 11), (15, 11), (16, 11), (17, 11), (18, 11), (14, 12), (15, 12), (16, 12), (17, 12), (18, 12), (14, 13), (15, 13), (16, 13), (17, 13), (18, 13), (14, 14), (15, 14), (16, 14), (17, 14), (18, 14), (14, 15), (15, 15), (16, 15), (17, 15), (18, 15), (14, 16), (15, 16), (16, 16), (17, 16), (18, 16), (14, 17), (15, 17), (16, 17), (17, 17), (18, 17), (14, 18), (15, 18), (16, 18), (17, 18), (18, 18), (14, 19), (15, 19), (16, 19), (17, 19), (18, 19), (14, 20), (15, 20), (16, 20), (17, 20), (18, 20), (14, 21), (15, 21), (16, 21), (17, 21), (18, 21), (14, 22), (15, 22), (16, 22), (17, 22), (18, 22), (14, 23), (15, 23), (16, 23), (17, 23), (18, 23), (14, 24), (15, 24), (16, 24), (17, 24), (18, 24), (14, 25), (15, 25), (16, 25), (17, 25), (18, 25), (14, 26), (15, 26), (16, 26), (17, 26), (18, 26), (14, 27), (15, 27), (16, 27), (17, 27), (18, 27), (14, 28), (15, 28), (16, 28), (17, 28), (18, 28), (14, 29), (15, 29), (16, 29), (17, 29), (18, 29), (14, 30), (15, 30), (16, 30), (17, 30), (18, 30), (14, 31), (15, 31), (16, 31), (17, 31), (18, 31), (14, 32), (15, 32), (16, 32), (17, 32), (18, 32), (14, 33), (15, 33), (16, 33), (17, 33), (18, 33), (14, 34), (15, 34), (16, 34), (17, 34), (18, 34), (14, 35), (15, 35), (16, 35), (17, 35), (18, 35), (14, 36), (15, 36), (16, 36), (17, 36), (18, 36), (14, 37), (15, 37), (16, 37), (17, 37), (18, 37), (14, 38), (15, 38), (16, 38), (17, 38), (18, 38), (14, 39), (15, 39), (16, 39), (17, 39), (18, 39), (14, 40), (15, 40), (16, 40), (17, 40), (18, 40), (14, 41), (15, 41), (16, 41), (17, 41), (18, 41), (14, 42), (15, 42), (16, 42), (17, 42), (18, 42), (14, 43), (15, 43), (16, 43), (17, 43), (18, 43), (14, 44), (15, 44), (16, 44), (17, 44), (18, 44), (14, 45), (15, 45), (16, 45), (17, 45), (18, 45), (14, 46), (15, 46), (16, 46), (17, 46), (18, 46), (14, 47), (15, 47), (16, 47), (17, 47), (18, 47), (14, 48), (15, 48), (16, 48), (17, 48), (18, 48), (14, 49), (15, 49), (16, 49), (17, 49), (18, 49), (14, 50), (15, 50), (16, 50), (17, 50), (18, 50), (14, 51), (15, 51), (16, 51), (17, 51), (18, 51), (14, 52), (15, 52), (16, 52), (17, 52), (18, 52), (14, 53), (15, 53), (16, 53), (17, 53), (18, 53), (14, 54), (15, 54), (16, 54), (17, 54), (18, 54), (14, 55), (15, 55), (16, 55), (17, 55), (18, 55), (14, 56), (15, 56), (16, 56), (17, 56), (18, 56), (14, 57), (15, 57), (16, 57), (17, 57), (18, 57), (14, 58), (15, 58), (16, 58), (17, 58), (18, 58), (14, 59), (15, 59), (16, 59), (17, 59), (18, 59), (14, 60), (15, 60), (16, 60), (17, 60), (18, 60), (19, 0), (20, 0), (21, 0), (20, 1), (21, 1), (20, 2), (21, 2), (20, 3), (21, 3), (20, 4), (21, 4), (20, 5), (21, 5), (20, 6), (21, 6), (20, 7), (21, 7), (20, 8), (21, 8), (20, 9), (21, 9), (20, 10), (21, 10), (20, 11), (21, 11), (20, 12), (21, 12), (20, 13), (21, 13), (20, 14), (21, 14), (20, 15), (21, 15), (20, 16), (21, 16), (20, 17), (21, 17), (20, 18), (21, 18), (20, 19), (21, 19), (20, 20), (21, 20), (20, 21), (21, 21), (20, 22), (21, 22), (20, 23), (21, 23), (20, 24), (21, 24), (20, 25), (21, 25), (20, 26), (21, 26), (20, 27), (21, 27), (20, 28), (21, 28), (20, 29), (21, 29), (20, 30), (21, 30), (20, 31), (21, 31), (20, 32), (21, 32), (20, 33), (21, 33), (20, 34), (21, 34), (20, 35), (21, 35), (20, 36), (21, 36), (20, 37), (21, 37), (20, 38), (21, 38), (20, 39), (21, 39), (22, 0), (23, 0), (24, 0), (25, 0), (26, 0), (27, 0), (28, 0), (29, 0), (30, 0)]

/-! THE WORLD: the cells of the house (side false) and of the reference (side true), by tag and number; what each holds is a pure state -/
abbrev gz_G : Type := Nat × (Nat → ClassId) × (Nat → Nat → Nat) × (Nat → ClassId)
abbrev gz_S : Type := (Nat → Nat → Nat → Int32) × (Nat → Nat → Nat → Int64) × Nat
def gz_kd (b : Bool) (t : Nat) : (Nat × Nat) ⊕ (Nat × Nat) := (cond b gz_kdm gz_kdx).getD t (.inr (0, 0))
def gz_fk (b : Bool) (t k : Nat) : Nat := ((cond b gz_fkm gz_fkx).getD t []).getD k 2
def gz_ct (b : Bool) (n t : Nat) : Nat := cond b (if t = 44 then n else gz_ctm.getD t 0) (gz_ctx.getD t 0)
def gz_ao (b : Bool) (t i : Nat) : Nat := cond b (if t = 44 then 683 + i else 639 + t) (if t = 8 ∨ t = 9 then t + 18 * (i / 8) + 2 * (i % 8) else (gz_ofx.getD t (0, 0)).1 + (gz_ofx.getD t (0, 0)).2 * i)
def gz_ad (b : Bool) (G : gz_G) (t i : Nat) : Nat := G.1 + gz_ao b t i
def gz_A (b : Bool) (G : gz_G) (q : Nat) : Prop := match b with
  | true => G.1 + 639 ≤ q
  | false => G.1 ≤ q ∧ q < G.1 + 639
theorem gz_inv_x : ∀ t, t < 31 → ∀ i, i < gz_ctx.getD t 0 → gz_inv[gz_ao false t i]? = some (t, i) := by decide +kernel
theorem gz_inv_len : gz_inv.length = 639 := by decide +kernel
theorem gz_ctx_lt {t i : Nat} (h : i < gz_ctx.getD t 0) : t < 31 := by
  rcases Nat.lt_or_ge t 31 with q | q
  · exact q
  · have e : gz_ctx[t]? = none := List.getElem?_eq_none (show gz_ctx.length ≤ t from q)
    simp [List.getD, e] at h
theorem gz_ctm_1 : ∀ t, t < 44 → gz_ctm.getD t 0 = 1 := by decide +kernel
theorem gz_ctm_lt {t i : Nat} (h : i < gz_ctm.getD t 0) : t < 44 ∧ i = 0 := by
  rcases Nat.lt_or_ge t 44 with q | q
  · rw [gz_ctm_1 t q] at h
    exact ⟨q, by omega⟩
  · have e : gz_ctm[t]? = none := List.getElem?_eq_none (show gz_ctm.length ≤ t from q)
    simp [List.getD, e] at h
theorem gz_inj {b : Bool} {n t i t' i' : Nat} (h : i < gz_ct b n t) (h' : i' < gz_ct b n t') (e : gz_ao b t i = gz_ao b t' i') : t = t' ∧ i = i' := by
  cases b with
  | false =>
    have h1 : i < gz_ctx.getD t 0 := h
    have h2 : i' < gz_ctx.getD t' 0 := h'
    have e1 := gz_inv_x t (gz_ctx_lt h1) i h1
    have e2 := gz_inv_x t' (gz_ctx_lt h2) i' h2
    rw [e, e2] at e1
    exact ⟨(Prod.mk.inj (Option.some.inj e1)).1.symm, (Prod.mk.inj (Option.some.inj e1)).2.symm⟩
  | true =>
    simp only [gz_ct, gz_ao, cond_true] at h h' e
    by_cases ht : t = 44
    · by_cases ht' : t' = 44
      · subst ht; subst ht'
        simp at e
        exact ⟨rfl, e⟩
      · rw [if_neg ht'] at h'
        have := gz_ctm_lt h'
        rw [if_pos ht, if_neg ht'] at e
        omega
    · rw [if_neg ht] at h
      have q := gz_ctm_lt h
      by_cases ht' : t' = 44
      · rw [if_neg ht, if_pos ht'] at e
        omega
      · rw [if_neg ht'] at h'
        have q' := gz_ctm_lt h'
        rw [if_neg ht, if_neg ht'] at e
        omega
theorem gz_inA {b : Bool} {G : gz_G} {n t i : Nat} (h : i < gz_ct b n t) : gz_A b G (gz_ad b G t i) := by
  cases b with
  | false =>
    have h1 : i < gz_ctx.getD t 0 := h
    have e1 := gz_inv_x t (gz_ctx_lt h1) i h1
    have q : gz_ao false t i < gz_inv.length := (List.getElem?_eq_some_iff.mp e1).1
    rw [gz_inv_len] at q
    exact ⟨Nat.le_add_right _ _, Nat.add_lt_add_left q _⟩
  | true =>
    show G.1 + 639 ≤ G.1 + gz_ao true t i
    simp only [gz_ao, cond_true]
    split <;> omega
def gz_si (σ : gz_S) (t i k : Nat) (v : Int32) : gz_S := (fun t' i' k' => if t' = t ∧ i' = i ∧ k' = k then v else σ.1 t' i' k', σ.2)
def gz_sj (σ : gz_S) (t i k : Nat) (v : Int64) : gz_S := (σ.1, fun t' i' k' => if t' = t ∧ i' = i ∧ k' = k then v else σ.2.1 t' i' k', σ.2.2)
def gz_fv (b : Bool) (G : gz_G) (σ : gz_S) (t i k : Nat) : Value := match gz_fk b t k with
  | 0 => .int (σ.1 t i k)
  | 1 => .long (σ.2.1 t i k)
  | 2 => .null
  | n + 3 => .ref (gz_ad b G n i)
def gz_ev (b : Bool) (G : gz_G) (σ : gz_S) (t i ek j : Nat) : Value := match ek with
  | 1 => .long (σ.2.1 t i j)
  | 4 => .ref (gz_ad b G 8 (8 * i + j))
  | 5 => .ref (gz_ad b G 6 j)
  | 6 => .ref (gz_ad b G 20 j)
  | 7 => .ref (gz_ad b G 14 j)
  | _ => .int (σ.1 t i j)
def gz_cl (b : Bool) (G : gz_G) (σ : gz_S) (t i : Nat) (H : Heap) (z : (Nat × Nat) ⊕ (Nat × Nat)) : Prop := match z with
  | .inl q => t_OB (gz_ad b G t i) (G.2.1 q.1) q.2 (G.2.2.1 q.1) H (gz_fv b G σ t i)
  | .inr q => H[gz_ad b G t i]? = some (arrV (G.2.2.2 q.1) q.2 (gz_ev b G σ t i q.1))
def gz_H (b : Bool) (G : gz_G) (σ : gz_S) (H : Heap) : Prop := (∀ t i, i < gz_ct b σ.2.2 t → gz_cl b G σ t i H (gz_kd b t)) ∧ (b = true → H.size = G.1 + 683 + σ.2.2)
theorem gz_cl.keep {b : Bool} {G : gz_G} {σ σ' : gz_S} {t i : Nat} {H H' : Heap} {z : (Nat × Nat) ⊕ (Nat × Nat)} (h : gz_cl b G σ t i H z) (hq : H'[gz_ad b G t i]? = H[gz_ad b G t i]?) (hs : ∀ k, σ'.1 t i k = σ.1 t i k ∧ σ'.2.1 t i k = σ.2.1 t i k) : gz_cl b G σ' t i H' z := by
  have e1 : gz_fv b G σ' t i = gz_fv b G σ t i := by funext k; unfold gz_fv; rw [(hs k).1, (hs k).2]
  have e2 : ∀ ek, gz_ev b G σ' t i ek = gz_ev b G σ t i ek := by intro ek; funext k; unfold gz_ev; rw [(hs k).1, (hs k).2]
  cases z with
  | inl q =>
    show t_OB _ _ _ _ _ _
    rw [e1]
    exact t_OB.kept h hq
  | inr q =>
    show H'[gz_ad b G t i]? = _
    rw [hq, e2]
    exact h
theorem gz_H.put {b : Bool} {G : gz_G} {σ σ' : gz_S} {H H' : Heap} {t i : Nat} (h : gz_H b G σ H) (hi : i < gz_ct b σ.2.2 t) (hn : σ'.2.2 = σ.2.2) (hσ : ∀ t' i', ¬ (t' = t ∧ i' = i) → ∀ k, σ'.1 t' i' k = σ.1 t' i' k ∧ σ'.2.1 t' i' k = σ.2.1 t' i' k)
    (hc : gz_cl b G σ' t i H' (gz_kd b t)) (hz : H'.size = H.size) (ho : ∀ q, q ≠ gz_ad b G t i → H'[q]? = H[q]?) : gz_H b G σ' H' := by
  refine ⟨fun t' i' hi' => ?_, fun hb => by rw [hz, hn]; exact h.2 hb⟩
  rw [hn] at hi'
  by_cases e : t' = t ∧ i' = i
  · obtain ⟨rfl, rfl⟩ := e
    exact hc
  · have hne : gz_ad b G t' i' ≠ gz_ad b G t i := fun q => e (gz_inj hi' hi (Nat.add_left_cancel q))
    exact (h.1 t' i' hi').keep (ho _ hne) (hσ t' i' e)
theorem gz_si_ne {σ : gz_S} {t i k : Nat} {v : Int32} (t' i' : Nat) (h : ¬ (t' = t ∧ i' = i)) (k' : Nat) : (gz_si σ t i k v).1 t' i' k' = σ.1 t' i' k' ∧ (gz_si σ t i k v).2.1 t' i' k' = σ.2.1 t' i' k' :=
  ⟨if_neg fun q => h ⟨q.1, q.2.1⟩, rfl⟩
theorem gz_sj_ne {σ : gz_S} {t i k : Nat} {v : Int64} (t' i' : Nat) (h : ¬ (t' = t ∧ i' = i)) (k' : Nat) : (gz_sj σ t i k v).1 t' i' k' = σ.1 t' i' k' ∧ (gz_sj σ t i k v).2.1 t' i' k' = σ.2.1 t' i' k' :=
  ⟨rfl, if_neg fun q => h ⟨q.1, q.2.1⟩⟩
/-! what the tables say -/
def gz_aty (k : Nat) : FieldType := match k with
  | 0 => .int
  | 1 => .long
  | 2 => .byte
  | 3 => .boolean
  | 4 => .object "GazetteHouse$Field"
  | 5 => .object "GazetteHouse$Form"
  | 6 => .object "GazetteHouse$Issue"
  | _ => .object "GazetteHouse$Notice"
def gz_okw (w : Cond) : Bool := match w with
  | .fieldLinkNest .. => true
  | .methodLinkNest .. => true
  | .castable .. => true
  | .declares .. => true
  | w => goodWord w
theorem gz_warm {w : Cond} (h : gz_okw w = true) {args a' : Array Value} {s U : State} (hW : s.WarmedH U.vm) (hZ : w.before args s = true) : w.before a' U = true := by
  cases w <;> first
    | exact va_Nw.use rfl (va_Nw.warmF hW (va_Nw.of rfl hZ))
    | exact va_Nw.use rfl (va_Nw.warmM hW (va_Nw.of rfl hZ))
    | exact va_Nw.use rfl (va_Nw.warmC hW (va_Nw.of rfl hZ))
    | exact va_Nw.use rfl (va_Nw.warmD hW (va_Nw.of rfl hZ))
    | exact word_at hW (good_of_word h) hZ
def gz_K (G : gz_G) (U : State) : Prop := (∀ (c : Nat) (q : vw_C), vwCl[c]? = some q → u_Kn U q.1 q.2.1 q.2.2 (G.2.1 c) (G.2.2.1 c)) ∧ (∀ k, k < 8 → ArrOfT U (G.2.2.2 k) (gz_aty k) ∧ va_RA U (G.2.2.2 k) (gz_aty k)) ∧ ∀ w ∈ lw_tbl, gz_okw w = true → ∀ a : Array Value, w.before a U = true
theorem gz_K.moved {G : gz_G} {s U : State} (hW : s.WarmedH U.vm) (h : gz_K G s) : gz_K G U :=
  ⟨fun c q hq => u_Kn_moved hW.alike (h.1 c q hq), fun k hk => ⟨arrOfT_moved hW.alike (h.2.1 k hk).1, (h.2.1 k hk).2.moved hW.alike⟩, fun w hw ho a => gz_warm ho hW (h.2.2 w hw ho #[])⟩
theorem gz_K.word {G : gz_G} {U : State} (h : gz_K G U) {w : Cond} (hw : w ∈ lw_tbl ∧ gz_okw w = true) (a : Array Value) : w.before a U = true := h.2.2 w hw.1 hw.2 a
def gz_tyc (c k : Nat) : FieldType := (([tyX0, tyX1, tyX2, tyX3, tyX4, tyX5, tyX6, tyX7, tyX8, tyX9, tyX10, tyX11] : List (Nat → FieldType)).getD c tyX0) k
theorem gz_t_app {w : Cond} {a b : List Cond} (h : w ∈ a ++ b) : w ∈ a ++ b := h
theorem gz_in {w : Cond} (i : Nat) (h : tables_1[i]? = some w) : w ∈ lw_tbl := List.mem_append_right _ (List.mem_of_getElem? h)
theorem gz_inP {w : Cond} (i : Nat) (h : (k2_sels lw_privs)[i]? = some w) : w ∈ lw_tbl := List.mem_append_left _ (List.mem_of_getElem? h)
end
section
theorem gz_uws {ws : List Cond} {ps : List Nat} (h : ws = ps.filterMap (fun i => tables_1[i]?)) (ha : ws.all gz_okw = true) : ∀ w ∈ ws, w ∈ lw_tbl ∧ gz_okw w = true := by
  intro w hw
  refine ⟨?_, List.all_eq_true.mp ha w hw⟩
  rw [h] at hw
  obtain ⟨i, -, hi⟩ := List.mem_filterMap.mp hw
  exact gz_in i hi
theorem gz_u0 : u_ws RX0 TX0 10 = ([344, 346, 348, 350, 352, 354, 356, 358, 360, 362] : List Nat).filterMap (fun i => tables_1[i]?) := by decide +kernel
theorem gz_u1 : u_ws RX1 TX1 6 = ([248, 250, 252, 254, 256, 258] : List Nat).filterMap (fun i => tables_1[i]?) := by decide +kernel
theorem gz_u2 : u_ws RX2 TX2 2 = ([39, 41] : List Nat).filterMap (fun i => tables_1[i]?) := by decide +kernel
theorem gz_u3 : u_ws RX3 TX3 7 = ([128, 130, 132, 134, 136, 138, 140] : List Nat).filterMap (fun i => tables_1[i]?) := by decide +kernel
theorem gz_u4 : u_ws RX4 TX4 2 = ([149, 151] : List Nat).filterMap (fun i => tables_1[i]?) := by decide +kernel
theorem gz_u5 : u_ws RX5 TX5 6 = ([280, 282, 284, 286, 288, 290] : List Nat).filterMap (fun i => tables_1[i]?) := by decide +kernel
theorem gz_u6 : u_ws RX6 TX6 15 = ([207, 209, 211, 213, 215, 217, 219, 221, 223, 225, 227, 229, 231, 233, 235] : List Nat).filterMap (fun i => tables_1[i]?) := by decide +kernel
theorem gz_u7 : u_ws RX7 TX7 7 = ([308, 310, 312, 314, 316, 318, 320] : List Nat).filterMap (fun i => tables_1[i]?) := by decide +kernel
theorem gz_u8 : u_ws RX8 TX8 11 = ([72, 74, 76, 78, 80, 82, 84, 86, 88, 90, 92] : List Nat).filterMap (fun i => tables_1[i]?) := by decide +kernel
theorem gz_u9 : u_ws RX9 TX9 11 = ([376, 378, 380, 382, 384, 386, 388, 390, 392, 394, 396] : List Nat).filterMap (fun i => tables_1[i]?) := by decide +kernel
theorem gz_u10 : u_ws RX10 TX10 8 = ([877, 879, 881, 883, 885, 932, 924, 926] : List Nat).filterMap (fun i => tables_1[i]?) := by decide +kernel
theorem gz_u11 : u_ws RX11 TX11 63 = ([1000, 1002, 1004, 1006, 1008, 1010, 1012, 1014, 1016, 1018, 1020, 1022, 1024, 1026, 1028, 1030, 1032, 1034, 1036, 1038, 1040, 1042, 1044, 1046, 1048, 1050, 1052, 1054, 1056, 1058, 1060, 1062, 1064, 1066, 1068, 1070, 1072, 1074, 1076, 1078, 1080, 1082, 1084, 1086, 1088, 1090, 1092, 1094, 1096, 1098, 1100, 1102, 1104, 1106, 1108, 1110, 1112, 1114, 1116, 1118, 1120, 1122, 1124] : List Nat).filterMap (fun i => tables_1[i]?) := by decide +kernel
theorem gz_cls : ∀ (ci : Nat) (q : vw_C), vwCl[ci]? = some q → (∀ w ∈ u_ws q.1 q.2.1 q.2.2, w ∈ lw_tbl ∧ gz_okw w = true) ∧ (∀ k, k < q.2.2 → parseFieldDescriptor (q.2.1 k).2.2.1 = some (gz_tyc ci k)) ∧ (∀ a, a < q.2.2 → ∀ b, b < q.2.2 → a ≠ b → (q.2.1 a).2.1 ≠ (q.2.1 b).2.1) := by
  intro ci q hq
  match ci, hq with
  | 0, hq => cases hq; exact ⟨gz_uws gz_u0 (by decide +kernel), tyX0_ok, nmX0⟩
  | 1, hq => cases hq; exact ⟨gz_uws gz_u1 (by decide +kernel), tyX1_ok, nmX1⟩
  | 2, hq => cases hq; exact ⟨gz_uws gz_u2 (by decide +kernel), tyX2_ok, nmX2⟩
  | 3, hq => cases hq; exact ⟨gz_uws gz_u3 (by decide +kernel), tyX3_ok, nmX3⟩
  | 4, hq => cases hq; exact ⟨gz_uws gz_u4 (by decide +kernel), tyX4_ok, nmX4⟩
  | 5, hq => cases hq; exact ⟨gz_uws gz_u5 (by decide +kernel), tyX5_ok, nmX5⟩
  | 6, hq => cases hq; exact ⟨gz_uws gz_u6 (by decide +kernel), tyX6_ok, nmX6⟩
  | 7, hq => cases hq; exact ⟨gz_uws gz_u7 (by decide +kernel), tyX7_ok, nmX7⟩
  | 8, hq => cases hq; exact ⟨gz_uws gz_u8 (by decide +kernel), tyX8_ok, nmX8⟩
  | 9, hq => cases hq; exact ⟨gz_uws gz_u9 (by decide +kernel), tyX9_ok, nmX9⟩
  | 10, hq => cases hq; exact ⟨gz_uws gz_u10 (by decide +kernel), tyX10_ok, nmX10⟩
  | 11, hq => cases hq; exact ⟨gz_uws gz_u11 (by decide +kernel), tyX11_ok, nmX11⟩
  | k + 12, hq => simp [vwCl] at hq
end
section
/-! THE JUDGEMENT: from this frame on the machine comes to what the pure computation z says, if it says something -/
def gz_X (p : Program) (s : State) (m : MethodId) (meth : Method) (c : Code) (G : gz_G) (cc : ByteArray) (own : String) (nL : Nat) (ret : Option FieldType) : Prop :=
  p.tables.exec = Jvm.exec ∧ c.code = cc ∧ c.maxLocals = nL ∧ s.vm.findClass own = some m.cls ∧ meth.sig.returnType = ret ∧ meth.locks = false ∧ gz_K G s
def gz_F (b : Bool) (G : gz_G) (H0 H : Heap) (locs : List Loc) : Prop := va_S (gz_A b G) H0 H locs ∧ (b = false → H.size = H0.size)
def gz_W (b : Bool) (p : Program) (l : Launch) (e : Env) (R : Room) (s : State) (m : MethodId) (args : Array Value) (below : List Frame) (meth : Method) (c : Code) (G : gz_G) (nL : Nat) {α : Type} (QQ : α → State → Prop) (ce sl : Nat) (σ : gz_S) (pc : Nat) (lv : List (Nat × Value)) (st : List Value) (z : Option α) : Prop :=
  ∀ o, z = some o → ∀ (H : Heap) (locs : List Loc) (ls : Array Slot), gz_H b G σ H → gz_F b G s.heap H locs → lv_has ls nL lv → W p l e R s m args below meth c H locs ce sl (QQ o) (F0 m pc ls st)
def gz_Qc (b : Bool) (G : gz_G) (q : Option Value × gz_S) : Array Value → State → Outcome → State → Prop := fun _ st oc t => oc = .returned q.1 ∧ gz_H b G q.2 t.heap ∧ va_F (gz_A b G) st t ∧ (b = false → t.heap.size = st.heap.size)
def gz_Q (b : Bool) (G : gz_G) (below : List Frame) (args : Array Value) (s : State) (mc ms : Nat) {α : Type} (en : α → Option Value × gz_S) (o : α) : State → Prop := MQ below (gz_Qc b G (en o)) args s mc ms (gz_A b G)
abbrev gz_rv (b : Bool) (G : gz_G) (t : Nat) (r : Option Nat) : Value := va_rf (r.map (gz_ad b G t))
def gz_ei (o : Int32 × gz_S) : Option Value × gz_S := (some (.int o.1), o.2)
def gz_el (o : Int64 × gz_S) : Option Value × gz_S := (some (.long o.1), o.2)
def gz_eu (o : gz_S) : Option Value × gz_S := (none, o)
def gz_er (b : Bool) (G : gz_G) (t : Nat) (o : Option Nat × gz_S) : Option Value × gz_S := (some (gz_rv b G t o.1), o.2)
/-! the words of pure computations -/
def gz_ix {α : Type} (j : Int32) (n : Nat) (f : Nat → Option α) : Option α := if 0 ≤ j.toInt ∧ j.toInt < (n : Int) then f j.toInt.toNat else none
def gz_nl {α : Type} (r : Option Nat) (n : Nat) (a : Option α) (f : Nat → Option α) : Option α := match r with
  | none => a
  | some i => if i < n then f i else none
def gz_call {α β γ : Type} (x : Option (α × β)) (f : α → β → Option γ) : Option γ := match x with
  | none => none
  | some o => f o.1 o.2
def gz_then {β γ : Type} (x : Option β) (f : β → Option γ) : Option γ := match x with
  | none => none
  | some o => f o
def gz_nz {α : Type} (y : Int32) (z : Option α) : Option α := if y = 0 then none else z
def gz_fu : Nat := 20000
def gz_w {α : Type} (u : gz_S) (f : gz_S → Option α) : Option α := f u
def gz_v {α β : Type} (x : β) (f : β → Option α) : Option α := f x

def gz_rem (x y : Int32) : Int32 := x - x / y * y

def gz_j0 {α : Type} (k : gz_S → Option α) (f : (gz_S → Option α) → Option α) : Option α := f k
def gz_l0 {α : Type} (f : (gz_S → Option α) → gz_S → Option α) : Nat → gz_S → Option α
  | 0 => fun _ => none
  | n + 1 => f (gz_l0 f n)
theorem gz_l0_ind {α : Type} {P : gz_S → Option α → Prop} {f : (gz_S → Option α) → gz_S → Option α} (h0 : ∀ (u : gz_S), P u none) (hs : ∀ r, (∀ (u : gz_S), P u (r u)) → ∀ (u : gz_S), P u (f r u)) : ∀ (n : Nat) (u : gz_S), P u (gz_l0 f n u)
  | 0 => h0
  | n + 1 => hs _ (gz_l0_ind h0 hs n)
def gz_j1 {A1 α : Type} (k : A1 → gz_S → Option α) (f : (A1 → gz_S → Option α) → Option α) : Option α := f k
def gz_l1 {A1 α : Type} (f : (A1 → gz_S → Option α) → A1 → gz_S → Option α) : Nat → A1 → gz_S → Option α
  | 0 => fun _ _ => none
  | n + 1 => f (gz_l1 f n)
theorem gz_l1_ind {A1 α : Type} {P : A1 → gz_S → Option α → Prop} {f : (A1 → gz_S → Option α) → A1 → gz_S → Option α} (h0 : ∀ (a1 : A1) (u : gz_S), P a1 u none) (hs : ∀ r, (∀ (a1 : A1) (u : gz_S), P a1 u (r a1 u)) → ∀ (a1 : A1) (u : gz_S), P a1 u (f r a1 u)) : ∀ (n : Nat) (a1 : A1) (u : gz_S), P a1 u (gz_l1 f n a1 u)
  | 0 => h0
  | n + 1 => hs _ (gz_l1_ind h0 hs n)
def gz_j2 {A1 A2 α : Type} (k : A1 → A2 → gz_S → Option α) (f : (A1 → A2 → gz_S → Option α) → Option α) : Option α := f k
def gz_l2 {A1 A2 α : Type} (f : (A1 → A2 → gz_S → Option α) → A1 → A2 → gz_S → Option α) : Nat → A1 → A2 → gz_S → Option α
  | 0 => fun _ _ _ => none
  | n + 1 => f (gz_l2 f n)
theorem gz_l2_ind {A1 A2 α : Type} {P : A1 → A2 → gz_S → Option α → Prop} {f : (A1 → A2 → gz_S → Option α) → A1 → A2 → gz_S → Option α} (h0 : ∀ (a1 : A1) (a2 : A2) (u : gz_S), P a1 a2 u none) (hs : ∀ r, (∀ (a1 : A1) (a2 : A2) (u : gz_S), P a1 a2 u (r a1 a2 u)) → ∀ (a1 : A1) (a2 : A2) (u : gz_S), P a1 a2 u (f r a1 a2 u)) : ∀ (n : Nat) (a1 : A1) (a2 : A2) (u : gz_S), P a1 a2 u (gz_l2 f n a1 a2 u)
  | 0 => h0
  | n + 1 => hs _ (gz_l2_ind h0 hs n)
def gz_j3 {A1 A2 A3 α : Type} (k : A1 → A2 → A3 → gz_S → Option α) (f : (A1 → A2 → A3 → gz_S → Option α) → Option α) : Option α := f k
def gz_l3 {A1 A2 A3 α : Type} (f : (A1 → A2 → A3 → gz_S → Option α) → A1 → A2 → A3 → gz_S → Option α) : Nat → A1 → A2 → A3 → gz_S → Option α
  | 0 => fun _ _ _ _ => none
  | n + 1 => f (gz_l3 f n)
theorem gz_l3_ind {A1 A2 A3 α : Type} {P : A1 → A2 → A3 → gz_S → Option α → Prop} {f : (A1 → A2 → A3 → gz_S → Option α) → A1 → A2 → A3 → gz_S → Option α} (h0 : ∀ (a1 : A1) (a2 : A2) (a3 : A3) (u : gz_S), P a1 a2 a3 u none) (hs : ∀ r, (∀ (a1 : A1) (a2 : A2) (a3 : A3) (u : gz_S), P a1 a2 a3 u (r a1 a2 a3 u)) → ∀ (a1 : A1) (a2 : A2) (a3 : A3) (u : gz_S), P a1 a2 a3 u (f r a1 a2 a3 u)) : ∀ (n : Nat) (a1 : A1) (a2 : A2) (a3 : A3) (u : gz_S), P a1 a2 a3 u (gz_l3 f n a1 a2 a3 u)
  | 0 => h0
  | n + 1 => hs _ (gz_l3_ind h0 hs n)
def gz_j4 {A1 A2 A3 A4 α : Type} (k : A1 → A2 → A3 → A4 → gz_S → Option α) (f : (A1 → A2 → A3 → A4 → gz_S → Option α) → Option α) : Option α := f k
def gz_l4 {A1 A2 A3 A4 α : Type} (f : (A1 → A2 → A3 → A4 → gz_S → Option α) → A1 → A2 → A3 → A4 → gz_S → Option α) : Nat → A1 → A2 → A3 → A4 → gz_S → Option α
  | 0 => fun _ _ _ _ _ => none
  | n + 1 => f (gz_l4 f n)
theorem gz_l4_ind {A1 A2 A3 A4 α : Type} {P : A1 → A2 → A3 → A4 → gz_S → Option α → Prop} {f : (A1 → A2 → A3 → A4 → gz_S → Option α) → A1 → A2 → A3 → A4 → gz_S → Option α} (h0 : ∀ (a1 : A1) (a2 : A2) (a3 : A3) (a4 : A4) (u : gz_S), P a1 a2 a3 a4 u none) (hs : ∀ r, (∀ (a1 : A1) (a2 : A2) (a3 : A3) (a4 : A4) (u : gz_S), P a1 a2 a3 a4 u (r a1 a2 a3 a4 u)) → ∀ (a1 : A1) (a2 : A2) (a3 : A3) (a4 : A4) (u : gz_S), P a1 a2 a3 a4 u (f r a1 a2 a3 a4 u)) : ∀ (n : Nat) (a1 : A1) (a2 : A2) (a3 : A3) (a4 : A4) (u : gz_S), P a1 a2 a3 a4 u (gz_l4 f n a1 a2 a3 a4 u)
  | 0 => h0
  | n + 1 => hs _ (gz_l4_ind h0 hs n)
def gz_j5 {A1 A2 A3 A4 A5 α : Type} (k : A1 → A2 → A3 → A4 → A5 → gz_S → Option α) (f : (A1 → A2 → A3 → A4 → A5 → gz_S → Option α) → Option α) : Option α := f k
def gz_l5 {A1 A2 A3 A4 A5 α : Type} (f : (A1 → A2 → A3 → A4 → A5 → gz_S → Option α) → A1 → A2 → A3 → A4 → A5 → gz_S → Option α) : Nat → A1 → A2 → A3 → A4 → A5 → gz_S → Option α
  | 0 => fun _ _ _ _ _ _ => none
  | n + 1 => f (gz_l5 f n)
theorem gz_l5_ind {A1 A2 A3 A4 A5 α : Type} {P : A1 → A2 → A3 → A4 → A5 → gz_S → Option α → Prop} {f : (A1 → A2 → A3 → A4 → A5 → gz_S → Option α) → A1 → A2 → A3 → A4 → A5 → gz_S → Option α} (h0 : ∀ (a1 : A1) (a2 : A2) (a3 : A3) (a4 : A4) (a5 : A5) (u : gz_S), P a1 a2 a3 a4 a5 u none) (hs : ∀ r, (∀ (a1 : A1) (a2 : A2) (a3 : A3) (a4 : A4) (a5 : A5) (u : gz_S), P a1 a2 a3 a4 a5 u (r a1 a2 a3 a4 a5 u)) → ∀ (a1 : A1) (a2 : A2) (a3 : A3) (a4 : A4) (a5 : A5) (u : gz_S), P a1 a2 a3 a4 a5 u (f r a1 a2 a3 a4 a5 u)) : ∀ (n : Nat) (a1 : A1) (a2 : A2) (a3 : A3) (a4 : A4) (a5 : A5) (u : gz_S), P a1 a2 a3 a4 a5 u (gz_l5 f n a1 a2 a3 a4 a5 u)
  | 0 => h0
  | n + 1 => hs _ (gz_l5_ind h0 hs n)
def gz_j6 {A1 A2 A3 A4 A5 A6 α : Type} (k : A1 → A2 → A3 → A4 → A5 → A6 → gz_S → Option α) (f : (A1 → A2 → A3 → A4 → A5 → A6 → gz_S → Option α) → Option α) : Option α := f k
def gz_l6 {A1 A2 A3 A4 A5 A6 α : Type} (f : (A1 → A2 → A3 → A4 → A5 → A6 → gz_S → Option α) → A1 → A2 → A3 → A4 → A5 → A6 → gz_S → Option α) : Nat → A1 → A2 → A3 → A4 → A5 → A6 → gz_S → Option α
  | 0 => fun _ _ _ _ _ _ _ => none
  | n + 1 => f (gz_l6 f n)
theorem gz_l6_ind {A1 A2 A3 A4 A5 A6 α : Type} {P : A1 → A2 → A3 → A4 → A5 → A6 → gz_S → Option α → Prop} {f : (A1 → A2 → A3 → A4 → A5 → A6 → gz_S → Option α) → A1 → A2 → A3 → A4 → A5 → A6 → gz_S → Option α} (h0 : ∀ (a1 : A1) (a2 : A2) (a3 : A3) (a4 : A4) (a5 : A5) (a6 : A6) (u : gz_S), P a1 a2 a3 a4 a5 a6 u none) (hs : ∀ r, (∀ (a1 : A1) (a2 : A2) (a3 : A3) (a4 : A4) (a5 : A5) (a6 : A6) (u : gz_S), P a1 a2 a3 a4 a5 a6 u (r a1 a2 a3 a4 a5 a6 u)) → ∀ (a1 : A1) (a2 : A2) (a3 : A3) (a4 : A4) (a5 : A5) (a6 : A6) (u : gz_S), P a1 a2 a3 a4 a5 a6 u (f r a1 a2 a3 a4 a5 a6 u)) : ∀ (n : Nat) (a1 : A1) (a2 : A2) (a3 : A3) (a4 : A4) (a5 : A5) (a6 : A6) (u : gz_S), P a1 a2 a3 a4 a5 a6 u (gz_l6 f n a1 a2 a3 a4 a5 a6 u)
  | 0 => h0
  | n + 1 => hs _ (gz_l6_ind h0 hs n)
def gz_j7 {A1 A2 A3 A4 A5 A6 A7 α : Type} (k : A1 → A2 → A3 → A4 → A5 → A6 → A7 → gz_S → Option α) (f : (A1 → A2 → A3 → A4 → A5 → A6 → A7 → gz_S → Option α) → Option α) : Option α := f k
def gz_l7 {A1 A2 A3 A4 A5 A6 A7 α : Type} (f : (A1 → A2 → A3 → A4 → A5 → A6 → A7 → gz_S → Option α) → A1 → A2 → A3 → A4 → A5 → A6 → A7 → gz_S → Option α) : Nat → A1 → A2 → A3 → A4 → A5 → A6 → A7 → gz_S → Option α
  | 0 => fun _ _ _ _ _ _ _ _ => none
  | n + 1 => f (gz_l7 f n)
theorem gz_l7_ind {A1 A2 A3 A4 A5 A6 A7 α : Type} {P : A1 → A2 → A3 → A4 → A5 → A6 → A7 → gz_S → Option α → Prop} {f : (A1 → A2 → A3 → A4 → A5 → A6 → A7 → gz_S → Option α) → A1 → A2 → A3 → A4 → A5 → A6 → A7 → gz_S → Option α} (h0 : ∀ (a1 : A1) (a2 : A2) (a3 : A3) (a4 : A4) (a5 : A5) (a6 : A6) (a7 : A7) (u : gz_S), P a1 a2 a3 a4 a5 a6 a7 u none) (hs : ∀ r, (∀ (a1 : A1) (a2 : A2) (a3 : A3) (a4 : A4) (a5 : A5) (a6 : A6) (a7 : A7) (u : gz_S), P a1 a2 a3 a4 a5 a6 a7 u (r a1 a2 a3 a4 a5 a6 a7 u)) → ∀ (a1 : A1) (a2 : A2) (a3 : A3) (a4 : A4) (a5 : A5) (a6 : A6) (a7 : A7) (u : gz_S), P a1 a2 a3 a4 a5 a6 a7 u (f r a1 a2 a3 a4 a5 a6 a7 u)) : ∀ (n : Nat) (a1 : A1) (a2 : A2) (a3 : A3) (a4 : A4) (a5 : A5) (a6 : A6) (a7 : A7) (u : gz_S), P a1 a2 a3 a4 a5 a6 a7 u (gz_l7 f n a1 a2 a3 a4 a5 a6 a7 u)
  | 0 => h0
  | n + 1 => hs _ (gz_l7_ind h0 hs n)
def gz_j8 {A1 A2 A3 A4 A5 A6 A7 A8 α : Type} (k : A1 → A2 → A3 → A4 → A5 → A6 → A7 → A8 → gz_S → Option α) (f : (A1 → A2 → A3 → A4 → A5 → A6 → A7 → A8 → gz_S → Option α) → Option α) : Option α := f k
def gz_l8 {A1 A2 A3 A4 A5 A6 A7 A8 α : Type} (f : (A1 → A2 → A3 → A4 → A5 → A6 → A7 → A8 → gz_S → Option α) → A1 → A2 → A3 → A4 → A5 → A6 → A7 → A8 → gz_S → Option α) : Nat → A1 → A2 → A3 → A4 → A5 → A6 → A7 → A8 → gz_S → Option α
  | 0 => fun _ _ _ _ _ _ _ _ _ => none
  | n + 1 => f (gz_l8 f n)
theorem gz_l8_ind {A1 A2 A3 A4 A5 A6 A7 A8 α : Type} {P : A1 → A2 → A3 → A4 → A5 → A6 → A7 → A8 → gz_S → Option α → Prop} {f : (A1 → A2 → A3 → A4 → A5 → A6 → A7 → A8 → gz_S → Option α) → A1 → A2 → A3 → A4 → A5 → A6 → A7 → A8 → gz_S → Option α} (h0 : ∀ (a1 : A1) (a2 : A2) (a3 : A3) (a4 : A4) (a5 : A5) (a6 : A6) (a7 : A7) (a8 : A8) (u : gz_S), P a1 a2 a3 a4 a5 a6 a7 a8 u none) (hs : ∀ r, (∀ (a1 : A1) (a2 : A2) (a3 : A3) (a4 : A4) (a5 : A5) (a6 : A6) (a7 : A7) (a8 : A8) (u : gz_S), P a1 a2 a3 a4 a5 a6 a7 a8 u (r a1 a2 a3 a4 a5 a6 a7 a8 u)) → ∀ (a1 : A1) (a2 : A2) (a3 : A3) (a4 : A4) (a5 : A5) (a6 : A6) (a7 : A7) (a8 : A8) (u : gz_S), P a1 a2 a3 a4 a5 a6 a7 a8 u (f r a1 a2 a3 a4 a5 a6 a7 a8 u)) : ∀ (n : Nat) (a1 : A1) (a2 : A2) (a3 : A3) (a4 : A4) (a5 : A5) (a6 : A6) (a7 : A7) (a8 : A8) (u : gz_S), P a1 a2 a3 a4 a5 a6 a7 a8 u (gz_l8 f n a1 a2 a3 a4 a5 a6 a7 a8 u)
  | 0 => h0
  | n + 1 => hs _ (gz_l8_ind h0 hs n)
def gz_j9 {A1 A2 A3 A4 A5 A6 A7 A8 A9 α : Type} (k : A1 → A2 → A3 → A4 → A5 → A6 → A7 → A8 → A9 → gz_S → Option α) (f : (A1 → A2 → A3 → A4 → A5 → A6 → A7 → A8 → A9 → gz_S → Option α) → Option α) : Option α := f k
def gz_l9 {A1 A2 A3 A4 A5 A6 A7 A8 A9 α : Type} (f : (A1 → A2 → A3 → A4 → A5 → A6 → A7 → A8 → A9 → gz_S → Option α) → A1 → A2 → A3 → A4 → A5 → A6 → A7 → A8 → A9 → gz_S → Option α) : Nat → A1 → A2 → A3 → A4 → A5 → A6 → A7 → A8 → A9 → gz_S → Option α
  | 0 => fun _ _ _ _ _ _ _ _ _ _ => none
  | n + 1 => f (gz_l9 f n)
theorem gz_l9_ind {A1 A2 A3 A4 A5 A6 A7 A8 A9 α : Type} {P : A1 → A2 → A3 → A4 → A5 → A6 → A7 → A8 → A9 → gz_S → Option α → Prop} {f : (A1 → A2 → A3 → A4 → A5 → A6 → A7 → A8 → A9 → gz_S → Option α) → A1 → A2 → A3 → A4 → A5 → A6 → A7 → A8 → A9 → gz_S → Option α} (h0 : ∀ (a1 : A1) (a2 : A2) (a3 : A3) (a4 : A4) (a5 : A5) (a6 : A6) (a7 : A7) (a8 : A8) (a9 : A9) (u : gz_S), P a1 a2 a3 a4 a5 a6 a7 a8 a9 u none) (hs : ∀ r, (∀ (a1 : A1) (a2 : A2) (a3 : A3) (a4 : A4) (a5 : A5) (a6 : A6) (a7 : A7) (a8 : A8) (a9 : A9) (u : gz_S), P a1 a2 a3 a4 a5 a6 a7 a8 a9 u (r a1 a2 a3 a4 a5 a6 a7 a8 a9 u)) → ∀ (a1 : A1) (a2 : A2) (a3 : A3) (a4 : A4) (a5 : A5) (a6 : A6) (a7 : A7) (a8 : A8) (a9 : A9) (u : gz_S), P a1 a2 a3 a4 a5 a6 a7 a8 a9 u (f r a1 a2 a3 a4 a5 a6 a7 a8 a9 u)) : ∀ (n : Nat) (a1 : A1) (a2 : A2) (a3 : A3) (a4 : A4) (a5 : A5) (a6 : A6) (a7 : A7) (a8 : A8) (a9 : A9) (u : gz_S), P a1 a2 a3 a4 a5 a6 a7 a8 a9 u (gz_l9 f n a1 a2 a3 a4 a5 a6 a7 a8 a9 u)
  | 0 => h0
  | n + 1 => hs _ (gz_l9_ind h0 hs n)
section GZ
variable {b : Bool} {p : Program} {l : Launch} {e : Env} {R : Room} {s : State} {m : MethodId} {args : Array Value} {below : List Frame} {meth : Method} {c : Code} {G : gz_G} {nL : Nat} {α : Type} {QQ : α → State → Prop} {ce sl : Nat} {σ : gz_S} {pc : Nat} {lv : List (Nat × Value)} {st : List Value} {z z1 z2 : Option α} {cc : ByteArray} {own : String} {ret : Option FieldType}
theorem gz_X.word {args : Array Value} (C : gz_X p s m meth c G cc own nL ret) {w : Cond} (hw : w ∈ lw_tbl) (ho : gz_okw w = true) : w.before args s = true := C.2.2.2.2.2.2.2.2 w hw ho args

theorem gz_none : gz_W b p l e R s m args below meth c G nL QQ ce sl σ pc lv st none := fun o h => by cases h
theorem gz_lv {lv' : List (Nat × Value)} (ks : List Nat) (hl : lv_pick lv ks = lv') (k : gz_W b p l e R s m args below meth c G nL QQ ce sl σ pc lv' st z) : gz_W b p l e R s m args below meth c G nL QQ ce sl σ pc lv st z := fun o h H locs ls hH hS hl0 => k o h H locs ls hH hS (lv_sub hl0 ks hl)
theorem gz_eqs {st' : List Value} {lv' : List (Nat × Value)} (hs : st = st') (hl : lv = lv') (k : gz_W b p l e R s m args below meth c G nL QQ ce sl σ pc lv' st' z) : gz_W b p l e R s m args below meth c G nL QQ ce sl σ pc lv st z := by subst hs; subst hl; exact k
theorem gz_wid {ce1 sl1 : Nat} (h1 : ce ≤ ce1) (h2 : sl ≤ sl1) (k : gz_W b p l e R s m args below meth c G nL QQ ce1 sl1 σ pc lv st z) : gz_W b p l e R s m args below meth c G nL QQ ce sl σ pc lv st z := fun o h H locs ls hH hS hl => W.widen h1 h2 (k o h H locs ls hH hS hl)
theorem gz_w_row {f : gz_S → Option α} (k : ∀ u, gz_W b p l e R s m args below meth c G nL QQ ce sl u pc lv st (f u)) : gz_W b p l e R s m args below meth c G nL QQ ce sl σ pc lv st (gz_w σ f) := k σ
theorem gz_topI {x : Int32} {f : Int32 → Option α} (k : ∀ v, gz_W b p l e R s m args below meth c G nL QQ ce sl σ pc lv (.int v :: st) (f v)) : gz_W b p l e R s m args below meth c G nL QQ ce sl σ pc lv (.int x :: st) (gz_v x f) := k x
theorem gz_topJ {x : Int64} {f : Int64 → Option α} (k : ∀ v, gz_W b p l e R s m args below meth c G nL QQ ce sl σ pc lv (.long v :: st) (f v)) : gz_W b p l e R s m args below meth c G nL QQ ce sl σ pc lv (.long x :: st) (gz_v x f) := k x
theorem gz_j0_row {P : gz_S → Option α → Prop} {k : gz_S → Option α} {f : (gz_S → Option α) → Option α} (hk : ∀ (u : gz_S), P u (k u)) (hb : ∀ k1 : gz_S → Option α, (∀ (u : gz_S), P u (k1 u)) → gz_W b p l e R s m args below meth c G nL QQ ce sl σ pc lv st (f k1)) : gz_W b p l e R s m args below meth c G nL QQ ce sl σ pc lv st (gz_j0 k f) := hb k hk
theorem gz_j1_row {A1 : Type} {P : A1 → gz_S → Option α → Prop} {k : A1 → gz_S → Option α} {f : (A1 → gz_S → Option α) → Option α} (hk : ∀ (a1 : A1) (u : gz_S), P a1 u (k a1 u)) (hb : ∀ k1 : A1 → gz_S → Option α, (∀ (a1 : A1) (u : gz_S), P a1 u (k1 a1 u)) → gz_W b p l e R s m args below meth c G nL QQ ce sl σ pc lv st (f k1)) : gz_W b p l e R s m args below meth c G nL QQ ce sl σ pc lv st (gz_j1 k f) := hb k hk
theorem gz_j2_row {A1 A2 : Type} {P : A1 → A2 → gz_S → Option α → Prop} {k : A1 → A2 → gz_S → Option α} {f : (A1 → A2 → gz_S → Option α) → Option α} (hk : ∀ (a1 : A1) (a2 : A2) (u : gz_S), P a1 a2 u (k a1 a2 u)) (hb : ∀ k1 : A1 → A2 → gz_S → Option α, (∀ (a1 : A1) (a2 : A2) (u : gz_S), P a1 a2 u (k1 a1 a2 u)) → gz_W b p l e R s m args below meth c G nL QQ ce sl σ pc lv st (f k1)) : gz_W b p l e R s m args below meth c G nL QQ ce sl σ pc lv st (gz_j2 k f) := hb k hk
theorem gz_j3_row {A1 A2 A3 : Type} {P : A1 → A2 → A3 → gz_S → Option α → Prop} {k : A1 → A2 → A3 → gz_S → Option α} {f : (A1 → A2 → A3 → gz_S → Option α) → Option α} (hk : ∀ (a1 : A1) (a2 : A2) (a3 : A3) (u : gz_S), P a1 a2 a3 u (k a1 a2 a3 u)) (hb : ∀ k1 : A1 → A2 → A3 → gz_S → Option α, (∀ (a1 : A1) (a2 : A2) (a3 : A3) (u : gz_S), P a1 a2 a3 u (k1 a1 a2 a3 u)) → gz_W b p l e R s m args below meth c G nL QQ ce sl σ pc lv st (f k1)) : gz_W b p l e R s m args below meth c G nL QQ ce sl σ pc lv st (gz_j3 k f) := hb k hk
theorem gz_j4_row {A1 A2 A3 A4 : Type} {P : A1 → A2 → A3 → A4 → gz_S → Option α → Prop} {k : A1 → A2 → A3 → A4 → gz_S → Option α} {f : (A1 → A2 → A3 → A4 → gz_S → Option α) → Option α} (hk : ∀ (a1 : A1) (a2 : A2) (a3 : A3) (a4 : A4) (u : gz_S), P a1 a2 a3 a4 u (k a1 a2 a3 a4 u)) (hb : ∀ k1 : A1 → A2 → A3 → A4 → gz_S → Option α, (∀ (a1 : A1) (a2 : A2) (a3 : A3) (a4 : A4) (u : gz_S), P a1 a2 a3 a4 u (k1 a1 a2 a3 a4 u)) → gz_W b p l e R s m args below meth c G nL QQ ce sl σ pc lv st (f k1)) : gz_W b p l e R s m args below meth c G nL QQ ce sl σ pc lv st (gz_j4 k f) := hb k hk
theorem gz_j5_row {A1 A2 A3 A4 A5 : Type} {P : A1 → A2 → A3 → A4 → A5 → gz_S → Option α → Prop} {k : A1 → A2 → A3 → A4 → A5 → gz_S → Option α} {f : (A1 → A2 → A3 → A4 → A5 → gz_S → Option α) → Option α} (hk : ∀ (a1 : A1) (a2 : A2) (a3 : A3) (a4 : A4) (a5 : A5) (u : gz_S), P a1 a2 a3 a4 a5 u (k a1 a2 a3 a4 a5 u)) (hb : ∀ k1 : A1 → A2 → A3 → A4 → A5 → gz_S → Option α, (∀ (a1 : A1) (a2 : A2) (a3 : A3) (a4 : A4) (a5 : A5) (u : gz_S), P a1 a2 a3 a4 a5 u (k1 a1 a2 a3 a4 a5 u)) → gz_W b p l e R s m args below meth c G nL QQ ce sl σ pc lv st (f k1)) : gz_W b p l e R s m args below meth c G nL QQ ce sl σ pc lv st (gz_j5 k f) := hb k hk
theorem gz_j6_row {A1 A2 A3 A4 A5 A6 : Type} {P : A1 → A2 → A3 → A4 → A5 → A6 → gz_S → Option α → Prop} {k : A1 → A2 → A3 → A4 → A5 → A6 → gz_S → Option α} {f : (A1 → A2 → A3 → A4 → A5 → A6 → gz_S → Option α) → Option α} (hk : ∀ (a1 : A1) (a2 : A2) (a3 : A3) (a4 : A4) (a5 : A5) (a6 : A6) (u : gz_S), P a1 a2 a3 a4 a5 a6 u (k a1 a2 a3 a4 a5 a6 u)) (hb : ∀ k1 : A1 → A2 → A3 → A4 → A5 → A6 → gz_S → Option α, (∀ (a1 : A1) (a2 : A2) (a3 : A3) (a4 : A4) (a5 : A5) (a6 : A6) (u : gz_S), P a1 a2 a3 a4 a5 a6 u (k1 a1 a2 a3 a4 a5 a6 u)) → gz_W b p l e R s m args below meth c G nL QQ ce sl σ pc lv st (f k1)) : gz_W b p l e R s m args below meth c G nL QQ ce sl σ pc lv st (gz_j6 k f) := hb k hk
theorem gz_j7_row {A1 A2 A3 A4 A5 A6 A7 : Type} {P : A1 → A2 → A3 → A4 → A5 → A6 → A7 → gz_S → Option α → Prop} {k : A1 → A2 → A3 → A4 → A5 → A6 → A7 → gz_S → Option α} {f : (A1 → A2 → A3 → A4 → A5 → A6 → A7 → gz_S → Option α) → Option α} (hk : ∀ (a1 : A1) (a2 : A2) (a3 : A3) (a4 : A4) (a5 : A5) (a6 : A6) (a7 : A7) (u : gz_S), P a1 a2 a3 a4 a5 a6 a7 u (k a1 a2 a3 a4 a5 a6 a7 u)) (hb : ∀ k1 : A1 → A2 → A3 → A4 → A5 → A6 → A7 → gz_S → Option α, (∀ (a1 : A1) (a2 : A2) (a3 : A3) (a4 : A4) (a5 : A5) (a6 : A6) (a7 : A7) (u : gz_S), P a1 a2 a3 a4 a5 a6 a7 u (k1 a1 a2 a3 a4 a5 a6 a7 u)) → gz_W b p l e R s m args below meth c G nL QQ ce sl σ pc lv st (f k1)) : gz_W b p l e R s m args below meth c G nL QQ ce sl σ pc lv st (gz_j7 k f) := hb k hk
theorem gz_j8_row {A1 A2 A3 A4 A5 A6 A7 A8 : Type} {P : A1 → A2 → A3 → A4 → A5 → A6 → A7 → A8 → gz_S → Option α → Prop} {k : A1 → A2 → A3 → A4 → A5 → A6 → A7 → A8 → gz_S → Option α} {f : (A1 → A2 → A3 → A4 → A5 → A6 → A7 → A8 → gz_S → Option α) → Option α} (hk : ∀ (a1 : A1) (a2 : A2) (a3 : A3) (a4 : A4) (a5 : A5) (a6 : A6) (a7 : A7) (a8 : A8) (u : gz_S), P a1 a2 a3 a4 a5 a6 a7 a8 u (k a1 a2 a3 a4 a5 a6 a7 a8 u)) (hb : ∀ k1 : A1 → A2 → A3 → A4 → A5 → A6 → A7 → A8 → gz_S → Option α, (∀ (a1 : A1) (a2 : A2) (a3 : A3) (a4 : A4) (a5 : A5) (a6 : A6) (a7 : A7) (a8 : A8) (u : gz_S), P a1 a2 a3 a4 a5 a6 a7 a8 u (k1 a1 a2 a3 a4 a5 a6 a7 a8 u)) → gz_W b p l e R s m args below meth c G nL QQ ce sl σ pc lv st (f k1)) : gz_W b p l e R s m args below meth c G nL QQ ce sl σ pc lv st (gz_j8 k f) := hb k hk
theorem gz_j9_row {A1 A2 A3 A4 A5 A6 A7 A8 A9 : Type} {P : A1 → A2 → A3 → A4 → A5 → A6 → A7 → A8 → A9 → gz_S → Option α → Prop} {k : A1 → A2 → A3 → A4 → A5 → A6 → A7 → A8 → A9 → gz_S → Option α} {f : (A1 → A2 → A3 → A4 → A5 → A6 → A7 → A8 → A9 → gz_S → Option α) → Option α} (hk : ∀ (a1 : A1) (a2 : A2) (a3 : A3) (a4 : A4) (a5 : A5) (a6 : A6) (a7 : A7) (a8 : A8) (a9 : A9) (u : gz_S), P a1 a2 a3 a4 a5 a6 a7 a8 a9 u (k a1 a2 a3 a4 a5 a6 a7 a8 a9 u)) (hb : ∀ k1 : A1 → A2 → A3 → A4 → A5 → A6 → A7 → A8 → A9 → gz_S → Option α, (∀ (a1 : A1) (a2 : A2) (a3 : A3) (a4 : A4) (a5 : A5) (a6 : A6) (a7 : A7) (a8 : A8) (a9 : A9) (u : gz_S), P a1 a2 a3 a4 a5 a6 a7 a8 a9 u (k1 a1 a2 a3 a4 a5 a6 a7 a8 a9 u)) → gz_W b p l e R s m args below meth c G nL QQ ce sl σ pc lv st (f k1)) : gz_W b p l e R s m args below meth c G nL QQ ce sl σ pc lv st (gz_j9 k f) := hb k hk
theorem gz_iconst (C : gz_X p s m meth c G cc own nL ret) {n : Int} {v : Int32} (d : decode cc pc = .ok (.iconst n, 1)) (hv : Int32.ofInt n = v) (k : gz_W b p l e R s m args below meth c G nL QQ ce sl σ (pc + 1) lv (.int v :: st) z) : gz_W b p l e R s m args below meth c G nL QQ ce sl σ pc lv st z := fun o h H locs ls hH hS hl => lv_iconst C.1 C.2.1 d hv (k o h H locs ls hH hS hl)
theorem gz_bipush (C : gz_X p s m meth c G cc own nL ret) {n : Int} {v : Int32} (d : decode cc pc = .ok (.bipush n, 2)) (hv : (Int8.ofInt n).toInt32 = v) (k : gz_W b p l e R s m args below meth c G nL QQ ce sl σ (pc + 2) lv (.int v :: st) z) : gz_W b p l e R s m args below meth c G nL QQ ce sl σ pc lv st z := fun o h H locs ls hH hS hl => lv_bipush C.1 C.2.1 d hv (k o h H locs ls hH hS hl)
theorem gz_sipush (C : gz_X p s m meth c G cc own nL ret) {n : Int} {v : Int32} (d : decode cc pc = .ok (.sipush n, 3)) (hv : (Int16.ofInt n).toInt32 = v) (k : gz_W b p l e R s m args below meth c G nL QQ ce sl σ (pc + 3) lv (.int v :: st) z) : gz_W b p l e R s m args below meth c G nL QQ ce sl σ pc lv st z := fun o h H locs ls hH hS hl => lv_sipush C.1 C.2.1 d hv (k o h H locs ls hH hS hl)
theorem gz_lconst (C : gz_X p s m meth c G cc own nL ret) {n : Fin 2} {v : Int64} (d : decode cc pc = .ok (.lconst n, 1)) (hv : Int64.ofNat (n : Nat) = v) (k : gz_W b p l e R s m args below meth c G nL QQ ce sl σ (pc + 1) lv (.long v :: st) z) : gz_W b p l e R s m args below meth c G nL QQ ce sl σ pc lv st z := fun o h H locs ls hH hS hl => lv_lconst C.1 C.2.1 d hv (k o h H locs ls hH hS hl)
theorem gz_ldc (C : gz_X p s m meth c G cc own nL ret) {index : Nat} {v : Int32} (d : decode cc pc = .ok (.ldc index, 2)) (hw : Jvm.Cond.constant own index v ∈ lw_tbl) (k : gz_W b p l e R s m args below meth c G nL QQ ce sl σ (pc + 2) lv (.int v :: st) z) : gz_W b p l e R s m args below meth c G nL QQ ce sl σ pc lv st z := fun o h H locs ls hH hS hl => lv_ldc C.1 C.2.1 C.2.2.2.1 (C.word hw rfl) d (k o h H locs ls hH hS hl)
theorem gz_ldcw (C : gz_X p s m meth c G cc own nL ret) {index : Nat} {v : Int32} (d : decode cc pc = .ok (.ldc_w index, 3)) (hw : Jvm.Cond.constant own index v ∈ lw_tbl) (k : gz_W b p l e R s m args below meth c G nL QQ ce sl σ (pc + 3) lv (.int v :: st) z) : gz_W b p l e R s m args below meth c G nL QQ ce sl σ pc lv st z := fun o h H locs ls hH hS hl => lv_ldcw C.1 C.2.1 C.2.2.2.1 (C.word hw rfl) d (k o h H locs ls hH hS hl)
theorem gz_ldc2 (C : gz_X p s m meth c G cc own nL ret) {index : Nat} {v : Int64} (d : decode cc pc = .ok (.ldc2_w index, 3)) (hw : Jvm.Cond.constantLong own index v ∈ lw_tbl) (k : gz_W b p l e R s m args below meth c G nL QQ ce sl σ (pc + 3) lv (.long v :: st) z) : gz_W b p l e R s m args below meth c G nL QQ ce sl σ pc lv st z := fun o h H locs ls hH hS hl => lv_ldc2 C.1 C.2.1 C.2.2.2.1 (C.word hw rfl) d (k o h H locs ls hH hS hl)
theorem gz_iload_n (C : gz_X p s m meth c G cc own nL ret) {j : Fin 4} {x : Int32} (d : decode cc pc = .ok (.iload_n j, 1)) (q : Nat) (hq : lv[q]? = some ((j : Nat), .int x)) (k : gz_W b p l e R s m args below meth c G nL QQ ce sl σ (pc + 1) lv (.int x :: st) z) : gz_W b p l e R s m args below meth c G nL QQ ce sl σ pc lv st z := fun o h H locs ls hH hS hl => lv_iload_n C.1 C.2.1 d rfl (lv_at hl q hq) (k o h H locs ls hH hS hl)
theorem gz_iload (C : gz_X p s m meth c G cc own nL ret) {j : Nat} {x : Int32} (d : decode cc pc = .ok (.iload j, 2)) (q : Nat) (hq : lv[q]? = some (j, .int x)) (k : gz_W b p l e R s m args below meth c G nL QQ ce sl σ (pc + 2) lv (.int x :: st) z) : gz_W b p l e R s m args below meth c G nL QQ ce sl σ pc lv st z := fun o h H locs ls hH hS hl => lv_iload C.1 C.2.1 d (lv_at hl q hq) (k o h H locs ls hH hS hl)
theorem gz_lload_n (C : gz_X p s m meth c G cc own nL ret) {j : Fin 4} {x : Int64} (d : decode cc pc = .ok (.lload_n j, 1)) (q : Nat) (hq : lv[q]? = some ((j : Nat), .long x)) (k : gz_W b p l e R s m args below meth c G nL QQ ce sl σ (pc + 1) lv (.long x :: st) z) : gz_W b p l e R s m args below meth c G nL QQ ce sl σ pc lv st z := fun o h H locs ls hH hS hl => lv_lload_n C.1 C.2.1 d rfl (lv_at hl q hq) (k o h H locs ls hH hS hl)
theorem gz_lload (C : gz_X p s m meth c G cc own nL ret) {j : Nat} {x : Int64} (d : decode cc pc = .ok (.lload j, 2)) (q : Nat) (hq : lv[q]? = some (j, .long x)) (k : gz_W b p l e R s m args below meth c G nL QQ ce sl σ (pc + 2) lv (.long x :: st) z) : gz_W b p l e R s m args below meth c G nL QQ ce sl σ pc lv st z := fun o h H locs ls hH hS hl => lv_lload C.1 C.2.1 d (lv_at hl q hq) (k o h H locs ls hH hS hl)
theorem gz_aload_n (C : gz_X p s m meth c G cc own nL ret) {j : Fin 4} {x : Nat} (d : decode cc pc = .ok (.aload_n j, 1)) (q : Nat) (hq : lv[q]? = some ((j : Nat), .ref x)) (k : gz_W b p l e R s m args below meth c G nL QQ ce sl σ (pc + 1) lv (.ref x :: st) z) : gz_W b p l e R s m args below meth c G nL QQ ce sl σ pc lv st z := fun o h H locs ls hH hS hl => lv_aload_n C.1 C.2.1 d rfl (lv_at hl q hq) (k o h H locs ls hH hS hl)
theorem gz_aload (C : gz_X p s m meth c G cc own nL ret) {j : Nat} {x : Nat} (d : decode cc pc = .ok (.aload j, 2)) (q : Nat) (hq : lv[q]? = some (j, .ref x)) (k : gz_W b p l e R s m args below meth c G nL QQ ce sl σ (pc + 2) lv (.ref x :: st) z) : gz_W b p l e R s m args below meth c G nL QQ ce sl σ pc lv st z := fun o h H locs ls hH hS hl => lv_aload C.1 C.2.1 d (lv_at hl q hq) (k o h H locs ls hH hS hl)
theorem gz_istore_n (C : gz_X p s m meth c G cc own nL ret) {j : Fin 4} {x : Int32} {lv' : List (Nat × Value)} (d : decode cc pc = .ok (.istore_n j, 1)) (hn : (j : Nat) < nL) (hf : ((j : Nat), Value.int x) :: lv.filter (fun q => !(q.1 == (j : Nat)) && !(q.1 + 1 == (j : Nat) && q.2.category == 2)) = lv') (k : gz_W b p l e R s m args below meth c G nL QQ ce sl σ (pc + 1) lv' st z) : gz_W b p l e R s m args below meth c G nL QQ ce sl σ pc lv (.int x :: st) z := fun o h H locs ls hH hS hl => lv_istore_n C.1 C.2.1 d rfl hl hn hf (fun ls1 hl1 => k o h H locs ls1 hH hS hl1)
theorem gz_istore (C : gz_X p s m meth c G cc own nL ret) {j : Nat} {x : Int32} {lv' : List (Nat × Value)} (d : decode cc pc = .ok (.istore j, 2)) (hn : j < nL) (hf : (j, Value.int x) :: lv.filter (fun q => !(q.1 == j) && !(q.1 + 1 == j && q.2.category == 2)) = lv') (k : gz_W b p l e R s m args below meth c G nL QQ ce sl σ (pc + 2) lv' st z) : gz_W b p l e R s m args below meth c G nL QQ ce sl σ pc lv (.int x :: st) z := fun o h H locs ls hH hS hl => lv_istore C.1 C.2.1 d hl hn hf (fun ls1 hl1 => k o h H locs ls1 hH hS hl1)
theorem gz_lstore_n (C : gz_X p s m meth c G cc own nL ret) {j : Fin 4} {x : Int64} {lv' : List (Nat × Value)} (d : decode cc pc = .ok (.lstore_n j, 1)) (hn : (j : Nat) + 1 < nL) (hf : ((j : Nat), Value.long x) :: lv.filter (fun q => !(q.1 == (j : Nat)) && (!(q.1 == (j : Nat) + 1) && !(q.1 + 1 == (j : Nat) && q.2.category == 2))) = lv') (k : gz_W b p l e R s m args below meth c G nL QQ ce sl σ (pc + 1) lv' st z) : gz_W b p l e R s m args below meth c G nL QQ ce sl σ pc lv (.long x :: st) z := fun o h H locs ls hH hS hl => lv_lstore_n C.1 C.2.1 d rfl hl hn hf (fun ls1 hl1 => k o h H locs ls1 hH hS hl1)
theorem gz_lstore (C : gz_X p s m meth c G cc own nL ret) {j : Nat} {x : Int64} {lv' : List (Nat × Value)} (d : decode cc pc = .ok (.lstore j, 2)) (hn : j + 1 < nL) (hf : (j, Value.long x) :: lv.filter (fun q => !(q.1 == j) && (!(q.1 == j + 1) && !(q.1 + 1 == j && q.2.category == 2))) = lv') (k : gz_W b p l e R s m args below meth c G nL QQ ce sl σ (pc + 2) lv' st z) : gz_W b p l e R s m args below meth c G nL QQ ce sl σ pc lv (.long x :: st) z := fun o h H locs ls hH hS hl => lv_lstore C.1 C.2.1 d hl hn hf (fun ls1 hl1 => k o h H locs ls1 hH hS hl1)
theorem gz_astore_n (C : gz_X p s m meth c G cc own nL ret) {j : Fin 4} {x : Nat} {lv' : List (Nat × Value)} (d : decode cc pc = .ok (.astore_n j, 1)) (hn : (j : Nat) < nL) (hf : ((j : Nat), Value.ref x) :: lv.filter (fun q => !(q.1 == (j : Nat)) && !(q.1 + 1 == (j : Nat) && q.2.category == 2)) = lv') (k : gz_W b p l e R s m args below meth c G nL QQ ce sl σ (pc + 1) lv' st z) : gz_W b p l e R s m args below meth c G nL QQ ce sl σ pc lv (.ref x :: st) z := fun o h H locs ls hH hS hl => lv_astore_n C.1 C.2.1 d rfl hl hn hf (fun ls1 hl1 => k o h H locs ls1 hH hS hl1)
theorem gz_astore (C : gz_X p s m meth c G cc own nL ret) {j : Nat} {x : Nat} {lv' : List (Nat × Value)} (d : decode cc pc = .ok (.astore j, 2)) (hn : j < nL) (hf : (j, Value.ref x) :: lv.filter (fun q => !(q.1 == j) && !(q.1 + 1 == j && q.2.category == 2)) = lv') (k : gz_W b p l e R s m args below meth c G nL QQ ce sl σ (pc + 2) lv' st z) : gz_W b p l e R s m args below meth c G nL QQ ce sl σ pc lv (.ref x :: st) z := fun o h H locs ls hH hS hl => lv_astore C.1 C.2.1 d hl hn hf (fun ls1 hl1 => k o h H locs ls1 hH hS hl1)
theorem gz_iinc (C : gz_X p s m meth c G cc own nL ret) {j q : Nat} {n : Int} {x v : Int32} {lv' : List (Nat × Value)} (d : decode cc pc = .ok (.iinc j n, 3)) (hq : lv[q]? = some (j, .int x)) (hv : x + Int32.ofInt n = v) (hn : j < nL) (hf : (j, Value.int v) :: lv.filter (fun q => !(q.1 == j) && !(q.1 + 1 == j && q.2.category == 2)) = lv') (k : gz_W b p l e R s m args below meth c G nL QQ ce sl σ (pc + 3) lv' st z) : gz_W b p l e R s m args below meth c G nL QQ ce sl σ pc lv st z := fun o h H locs ls hH hS hl => lv_iinc C.1 C.2.1 d hl hq hv hn hf (fun ls1 hl1 => k o h H locs ls1 hH hS hl1)
theorem gz_iadd (C : gz_X p s m meth c G cc own nL ret) {x y : Int32} (d : decode cc pc = .ok (.iadd, 1)) (k : gz_W b p l e R s m args below meth c G nL QQ ce sl σ (pc + 1) lv (.int (x + y) :: st) z) : gz_W b p l e R s m args below meth c G nL QQ ce sl σ pc lv (.int y :: .int x :: st) z := fun o h H locs ls hH hS hl => lv_iadd C.1 C.2.1 d (k o h H locs ls hH hS hl)
theorem gz_isub (C : gz_X p s m meth c G cc own nL ret) {x y : Int32} (d : decode cc pc = .ok (.isub, 1)) (k : gz_W b p l e R s m args below meth c G nL QQ ce sl σ (pc + 1) lv (.int (x - y) :: st) z) : gz_W b p l e R s m args below meth c G nL QQ ce sl σ pc lv (.int y :: .int x :: st) z := fun o h H locs ls hH hS hl => lv_isub C.1 C.2.1 d (k o h H locs ls hH hS hl)
theorem gz_imul (C : gz_X p s m meth c G cc own nL ret) {x y : Int32} (d : decode cc pc = .ok (.imul, 1)) (k : gz_W b p l e R s m args below meth c G nL QQ ce sl σ (pc + 1) lv (.int (x * y) :: st) z) : gz_W b p l e R s m args below meth c G nL QQ ce sl σ pc lv (.int y :: .int x :: st) z := fun o h H locs ls hH hS hl => lv_imul C.1 C.2.1 d (k o h H locs ls hH hS hl)
theorem gz_iand (C : gz_X p s m meth c G cc own nL ret) {x y : Int32} (d : decode cc pc = .ok (.iand, 1)) (k : gz_W b p l e R s m args below meth c G nL QQ ce sl σ (pc + 1) lv (.int (x &&& y) :: st) z) : gz_W b p l e R s m args below meth c G nL QQ ce sl σ pc lv (.int y :: .int x :: st) z := fun o h H locs ls hH hS hl => lv_iand C.1 C.2.1 d (k o h H locs ls hH hS hl)
theorem gz_ior (C : gz_X p s m meth c G cc own nL ret) {x y : Int32} (d : decode cc pc = .ok (.ior, 1)) (k : gz_W b p l e R s m args below meth c G nL QQ ce sl σ (pc + 1) lv (.int (x ||| y) :: st) z) : gz_W b p l e R s m args below meth c G nL QQ ce sl σ pc lv (.int y :: .int x :: st) z := fun o h H locs ls hH hS hl => lv_ior C.1 C.2.1 d (k o h H locs ls hH hS hl)
theorem gz_ixor (C : gz_X p s m meth c G cc own nL ret) {x y : Int32} (d : decode cc pc = .ok (.ixor, 1)) (k : gz_W b p l e R s m args below meth c G nL QQ ce sl σ (pc + 1) lv (.int (x ^^^ y) :: st) z) : gz_W b p l e R s m args below meth c G nL QQ ce sl σ pc lv (.int y :: .int x :: st) z := fun o h H locs ls hH hS hl => lv_ixor C.1 C.2.1 d (k o h H locs ls hH hS hl)
theorem gz_ladd (C : gz_X p s m meth c G cc own nL ret) {x y : Int64} (d : decode cc pc = .ok (.ladd, 1)) (k : gz_W b p l e R s m args below meth c G nL QQ ce sl σ (pc + 1) lv (.long (x + y) :: st) z) : gz_W b p l e R s m args below meth c G nL QQ ce sl σ pc lv (.long y :: .long x :: st) z := fun o h H locs ls hH hS hl => lv_ladd C.1 C.2.1 d (k o h H locs ls hH hS hl)
theorem gz_lsub (C : gz_X p s m meth c G cc own nL ret) {x y : Int64} (d : decode cc pc = .ok (.lsub, 1)) (k : gz_W b p l e R s m args below meth c G nL QQ ce sl σ (pc + 1) lv (.long (x - y) :: st) z) : gz_W b p l e R s m args below meth c G nL QQ ce sl σ pc lv (.long y :: .long x :: st) z := fun o h H locs ls hH hS hl => lv_lsub C.1 C.2.1 d (k o h H locs ls hH hS hl)
theorem gz_lmul (C : gz_X p s m meth c G cc own nL ret) {x y : Int64} (d : decode cc pc = .ok (.lmul, 1)) (k : gz_W b p l e R s m args below meth c G nL QQ ce sl σ (pc + 1) lv (.long (x * y) :: st) z) : gz_W b p l e R s m args below meth c G nL QQ ce sl σ pc lv (.long y :: .long x :: st) z := fun o h H locs ls hH hS hl => lv_lmul C.1 C.2.1 d (k o h H locs ls hH hS hl)
theorem gz_land (C : gz_X p s m meth c G cc own nL ret) {x y : Int64} (d : decode cc pc = .ok (.land, 1)) (k : gz_W b p l e R s m args below meth c G nL QQ ce sl σ (pc + 1) lv (.long (x &&& y) :: st) z) : gz_W b p l e R s m args below meth c G nL QQ ce sl σ pc lv (.long y :: .long x :: st) z := fun o h H locs ls hH hS hl => lv_land C.1 C.2.1 d (k o h H locs ls hH hS hl)
theorem gz_lor (C : gz_X p s m meth c G cc own nL ret) {x y : Int64} (d : decode cc pc = .ok (.lor, 1)) (k : gz_W b p l e R s m args below meth c G nL QQ ce sl σ (pc + 1) lv (.long (x ||| y) :: st) z) : gz_W b p l e R s m args below meth c G nL QQ ce sl σ pc lv (.long y :: .long x :: st) z := fun o h H locs ls hH hS hl => lv_lor C.1 C.2.1 d (k o h H locs ls hH hS hl)
theorem gz_lxor (C : gz_X p s m meth c G cc own nL ret) {x y : Int64} (d : decode cc pc = .ok (.lxor, 1)) (k : gz_W b p l e R s m args below meth c G nL QQ ce sl σ (pc + 1) lv (.long (x ^^^ y) :: st) z) : gz_W b p l e R s m args below meth c G nL QQ ce sl σ pc lv (.long y :: .long x :: st) z := fun o h H locs ls hH hS hl => lv_lxor C.1 C.2.1 d (k o h H locs ls hH hS hl)
theorem gz_idiv (C : gz_X p s m meth c G cc own nL ret) {x y : Int32} (d : decode cc pc = .ok (.idiv, 1)) (hne : ¬ y = 0) (k : gz_W b p l e R s m args below meth c G nL QQ ce sl σ (pc + 1) lv (.int (x / y) :: st) z) : gz_W b p l e R s m args below meth c G nL QQ ce sl σ pc lv (.int y :: .int x :: st) z := fun o h H locs ls hH hS hl => lv_idiv C.1 C.2.1 d hne (k o h H locs ls hH hS hl)
theorem gz_irem (C : gz_X p s m meth c G cc own nL ret) {x y : Int32} (d : decode cc pc = .ok (.irem, 1)) (hne : ¬ y = 0) (k : gz_W b p l e R s m args below meth c G nL QQ ce sl σ (pc + 1) lv (.int (gz_rem x y) :: st) z) : gz_W b p l e R s m args below meth c G nL QQ ce sl σ pc lv (.int y :: .int x :: st) z := fun o h H locs ls hH hS hl => lv_irem C.1 C.2.1 d hne (k o h H locs ls hH hS hl)
theorem gz_ishl (C : gz_X p s m meth c G cc own nL ret) {x y : Int32} (d : decode cc pc = .ok (.ishl, 1)) (k : gz_W b p l e R s m args below meth c G nL QQ ce sl σ (pc + 1) lv (.int (x <<< (y &&& 31)) :: st) z) : gz_W b p l e R s m args below meth c G nL QQ ce sl σ pc lv (.int y :: .int x :: st) z := fun o h H locs ls hH hS hl => lv_ishl C.1 C.2.1 d (k o h H locs ls hH hS hl)
theorem gz_ishr (C : gz_X p s m meth c G cc own nL ret) {x y : Int32} (d : decode cc pc = .ok (.ishr, 1)) (k : gz_W b p l e R s m args below meth c G nL QQ ce sl σ (pc + 1) lv (.int (x >>> (y &&& 31)) :: st) z) : gz_W b p l e R s m args below meth c G nL QQ ce sl σ pc lv (.int y :: .int x :: st) z := fun o h H locs ls hH hS hl => lv_ishr C.1 C.2.1 d (k o h H locs ls hH hS hl)
theorem gz_lshl (C : gz_X p s m meth c G cc own nL ret) {x : Int64} {y : Int32} (d : decode cc pc = .ok (.lshl, 1)) (k : gz_W b p l e R s m args below meth c G nL QQ ce sl σ (pc + 1) lv (.long (x <<< (y.toInt64 &&& 63)) :: st) z) : gz_W b p l e R s m args below meth c G nL QQ ce sl σ pc lv (.int y :: .long x :: st) z := fun o h H locs ls hH hS hl => lv_lshl C.1 C.2.1 d rfl (k o h H locs ls hH hS hl)
theorem gz_lshr (C : gz_X p s m meth c G cc own nL ret) {x : Int64} {y : Int32} (d : decode cc pc = .ok (.lshr, 1)) (k : gz_W b p l e R s m args below meth c G nL QQ ce sl σ (pc + 1) lv (.long (x >>> (y.toInt64 &&& 63)) :: st) z) : gz_W b p l e R s m args below meth c G nL QQ ce sl σ pc lv (.int y :: .long x :: st) z := fun o h H locs ls hH hS hl => lv_lshr C.1 C.2.1 d rfl (k o h H locs ls hH hS hl)
theorem gz_lushr (C : gz_X p s m meth c G cc own nL ret) {x : Int64} {y : Int32} (d : decode cc pc = .ok (.lushr, 1)) (k : gz_W b p l e R s m args below meth c G nL QQ ce sl σ (pc + 1) lv (.long (x.toUInt64 >>> (y.toInt64.toUInt64 &&& Int64.toUInt64 63)).toInt64 :: st) z) : gz_W b p l e R s m args below meth c G nL QQ ce sl σ pc lv (.int y :: .long x :: st) z := fun o h H locs ls hH hS hl => lv_lushr C.1 C.2.1 d rfl (k o h H locs ls hH hS hl)
theorem gz_i2l (C : gz_X p s m meth c G cc own nL ret) {x : Int32} (d : decode cc pc = .ok (.i2l, 1)) (k : gz_W b p l e R s m args below meth c G nL QQ ce sl σ (pc + 1) lv (.long x.toInt64 :: st) z) : gz_W b p l e R s m args below meth c G nL QQ ce sl σ pc lv (.int x :: st) z := fun o h H locs ls hH hS hl => lv_i2l C.1 C.2.1 d rfl (k o h H locs ls hH hS hl)
theorem gz_l2i (C : gz_X p s m meth c G cc own nL ret) {x : Int64} (d : decode cc pc = .ok (.l2i, 1)) (k : gz_W b p l e R s m args below meth c G nL QQ ce sl σ (pc + 1) lv (.int x.toInt32 :: st) z) : gz_W b p l e R s m args below meth c G nL QQ ce sl σ pc lv (.long x :: st) z := fun o h H locs ls hH hS hl => lv_l2i C.1 C.2.1 d rfl (k o h H locs ls hH hS hl)
theorem gz_i2b (C : gz_X p s m meth c G cc own nL ret) {x : Int32} (d : decode cc pc = .ok (.i2b, 1)) (k : gz_W b p l e R s m args below meth c G nL QQ ce sl σ (pc + 1) lv (.int x.toInt8.toInt32 :: st) z) : gz_W b p l e R s m args below meth c G nL QQ ce sl σ pc lv (.int x :: st) z := fun o h H locs ls hH hS hl => lv_i2b C.1 C.2.1 d rfl (k o h H locs ls hH hS hl)
theorem gz_i2c (C : gz_X p s m meth c G cc own nL ret) {x : Int32} (d : decode cc pc = .ok (.i2c, 1)) (k : gz_W b p l e R s m args below meth c G nL QQ ce sl σ (pc + 1) lv (.int (x.toUInt32 % 65536).toInt32 :: st) z) : gz_W b p l e R s m args below meth c G nL QQ ce sl σ pc lv (.int x :: st) z := fun o h H locs ls hH hS hl => lv_i2c C.1 C.2.1 d rfl (k o h H locs ls hH hS hl)
theorem gz_lcmp (C : gz_X p s m meth c G cc own nL ret) {x y : Int64} (d : decode cc pc = .ok (.lcmp, 1)) (k : gz_W b p l e R s m args below meth c G nL QQ ce sl σ (pc + 1) lv (.int (lg_cmp x y) :: st) z) : gz_W b p l e R s m args below meth c G nL QQ ce sl σ pc lv (.long y :: .long x :: st) z := fun o h H locs ls hH hS hl => W.lcmp C.1 C.2.1 d (k o h H locs ls hH hS hl)
theorem gz_dup (C : gz_X p s m meth c G cc own nL ret) {va : Value} (d : decode cc pc = .ok (.dup, 1)) (hva : va.category = 1) (k : gz_W b p l e R s m args below meth c G nL QQ ce sl σ (pc + 1) lv (va :: va :: st) z) : gz_W b p l e R s m args below meth c G nL QQ ce sl σ pc lv (va :: st) z := fun o h H locs ls hH hS hl => lv_dup C.1 C.2.1 d hva (k o h H locs ls hH hS hl)
theorem gz_pop (C : gz_X p s m meth c G cc own nL ret) {va : Value} (d : decode cc pc = .ok (.pop, 1)) (hva : va.category = 1) (k : gz_W b p l e R s m args below meth c G nL QQ ce sl σ (pc + 1) lv st z) : gz_W b p l e R s m args below meth c G nL QQ ce sl σ pc lv (va :: st) z := fun o h H locs ls hH hS hl => lv_pop C.1 C.2.1 d hva (k o h H locs ls hH hS hl)
theorem gz_dup2 (C : gz_X p s m meth c G cc own nL ret) {va vb : Value} (d : decode cc pc = .ok (.dup2, 1)) (hva : va.category = 1) (hvb : vb.category = 1) (k : gz_W b p l e R s m args below meth c G nL QQ ce sl σ (pc + 1) lv (va :: vb :: va :: vb :: st) z) : gz_W b p l e R s m args below meth c G nL QQ ce sl σ pc lv (va :: vb :: st) z := fun o h H locs ls hH hS hl => lv_dup2_11 C.1 C.2.1 d hva hvb (k o h H locs ls hH hS hl)
theorem gz_null (C : gz_X p s m meth c G cc own nL ret) (d : decode cc pc = .ok (.aconst_null, 1)) (k : gz_W b p l e R s m args below meth c G nL QQ ce sl σ (pc + 1) lv (.null :: st) z) : gz_W b p l e R s m args below meth c G nL QQ ce sl σ pc lv st z := fun o h H locs ls hH hS hl => lv_null C.1 C.2.1 d (k o h H locs ls hH hS hl)
theorem gz_aloadV_n (C : gz_X p s m meth c G cc own nL ret) {j : Fin 4} {v : Value} (d : decode cc pc = .ok (.aload_n j, 1)) (q : Nat) (hq : lv[q]? = some ((j : Nat), v)) (hv : v = .null ∨ ∃ a, v = .ref a) (k : gz_W b p l e R s m args below meth c G nL QQ ce sl σ (pc + 1) lv (v :: st) z) : gz_W b p l e R s m args below meth c G nL QQ ce sl σ pc lv st z := fun o h H locs ls hH hS hl => by
  rcases hv with rfl | ⟨a, rfl⟩
  · exact lv_aload_nN C.1 C.2.1 d rfl (lv_at hl q hq) (k o h H locs ls hH hS hl)
  · exact lv_aload_n C.1 C.2.1 d rfl (lv_at hl q hq) (k o h H locs ls hH hS hl)
theorem gz_aloadV (C : gz_X p s m meth c G cc own nL ret) {j : Nat} {v : Value} (d : decode cc pc = .ok (.aload j, 2)) (q : Nat) (hq : lv[q]? = some (j, v)) (hv : v = .null ∨ ∃ a, v = .ref a) (k : gz_W b p l e R s m args below meth c G nL QQ ce sl σ (pc + 2) lv (v :: st) z) : gz_W b p l e R s m args below meth c G nL QQ ce sl σ pc lv st z := fun o h H locs ls hH hS hl => by
  rcases hv with rfl | ⟨a, rfl⟩
  · exact lv_aloadN C.1 C.2.1 d (lv_at hl q hq) (k o h H locs ls hH hS hl)
  · exact lv_aload C.1 C.2.1 d (lv_at hl q hq) (k o h H locs ls hH hS hl)
theorem gz_astoreV_n (C : gz_X p s m meth c G cc own nL ret) {j : Fin 4} {v : Value} {lv' : List (Nat × Value)} (d : decode cc pc = .ok (.astore_n j, 1)) (hn : (j : Nat) < nL) (hf : ((j : Nat), v) :: lv.filter (fun q => !(q.1 == (j : Nat)) && !(q.1 + 1 == (j : Nat) && q.2.category == 2)) = lv') (hv : v = .null ∨ ∃ a, v = .ref a) (k : gz_W b p l e R s m args below meth c G nL QQ ce sl σ (pc + 1) lv' st z) : gz_W b p l e R s m args below meth c G nL QQ ce sl σ pc lv (v :: st) z := fun o h H locs ls hH hS hl => by
  rcases hv with rfl | ⟨a, rfl⟩
  · exact lv_astore_nN C.1 C.2.1 d rfl hl hn hf (fun ls1 hl1 => k o h H locs ls1 hH hS hl1)
  · exact lv_astore_n C.1 C.2.1 d rfl hl hn hf (fun ls1 hl1 => k o h H locs ls1 hH hS hl1)
theorem gz_astoreV (C : gz_X p s m meth c G cc own nL ret) {j : Nat} {v : Value} {lv' : List (Nat × Value)} (d : decode cc pc = .ok (.astore j, 2)) (hn : j < nL) (hf : (j, v) :: lv.filter (fun q => !(q.1 == j) && !(q.1 + 1 == j && q.2.category == 2)) = lv') (hv : v = .null ∨ ∃ a, v = .ref a) (k : gz_W b p l e R s m args below meth c G nL QQ ce sl σ (pc + 2) lv' st z) : gz_W b p l e R s m args below meth c G nL QQ ce sl σ pc lv (v :: st) z := fun o h H locs ls hH hS hl => by
  rcases hv with rfl | ⟨a, rfl⟩
  · exact lv_astoreN C.1 C.2.1 d hl hn hf (fun ls1 hl1 => k o h H locs ls1 hH hS hl1)
  · exact lv_astore C.1 C.2.1 d hl hn hf (fun ls1 hl1 => k o h H locs ls1 hH hS hl1)
theorem gz_rv_or (b : Bool) (G : gz_G) (t : Nat) (r : Option Nat) : gz_rv b G t r = .null ∨ ∃ a, gz_rv b G t r = .ref a := va_rf_or _
theorem gz_goto (C : gz_X p s m meth c G cc own nL ret) {off : Int} {tgt : Nat} (d : decode cc pc = .ok (.goto off, 3)) (ht : (pc : Int) + off = (tgt : Int)) (k : gz_W b p l e R s m args below meth c G nL QQ ce sl σ tgt lv st z) : gz_W b p l e R s m args below meth c G nL QQ ce sl σ pc lv st z := fun o h H locs ls hH hS hl => lv_goto C.1 C.2.1 d ht (k o h H locs ls hH hS hl)
theorem gz_if_eq (C : gz_X p s m meth c G cc own nL ret) {x : Int32} {off : Int} {tgt : Nat} (d : decode cc pc = .ok (.ifCond .eq off, 3)) (ht : (pc : Int) + off = (tgt : Int)) (k1 : gz_W b p l e R s m args below meth c G nL QQ ce sl σ tgt lv st z1) (k2 : gz_W b p l e R s m args below meth c G nL QQ ce sl σ (pc + 3) lv st z2) : gz_W b p l e R s m args below meth c G nL QQ ce sl σ pc lv (.int x :: st) (if x = 0 then z1 else z2) := fun o h H locs ls hH hS hl => lv_if_eq C.1 C.2.1 d ht (fun q => k1 o (by rw [if_pos q] at h; exact h) H locs ls hH hS hl) (fun q => k2 o (by rw [if_neg q] at h; exact h) H locs ls hH hS hl)
theorem gz_icmp_eq (C : gz_X p s m meth c G cc own nL ret) {x y : Int32} {off : Int} {tgt : Nat} (d : decode cc pc = .ok (.if_icmp .eq off, 3)) (ht : (pc : Int) + off = (tgt : Int)) (k1 : gz_W b p l e R s m args below meth c G nL QQ ce sl σ tgt lv st z1) (k2 : gz_W b p l e R s m args below meth c G nL QQ ce sl σ (pc + 3) lv st z2) : gz_W b p l e R s m args below meth c G nL QQ ce sl σ pc lv (.int y :: .int x :: st) (if x = y then z1 else z2) := fun o h H locs ls hH hS hl => lv_icmp_eq C.1 C.2.1 d ht (fun q => k1 o (by rw [if_pos q] at h; exact h) H locs ls hH hS hl) (fun q => k2 o (by rw [if_neg q] at h; exact h) H locs ls hH hS hl)
theorem gz_if_ne (C : gz_X p s m meth c G cc own nL ret) {x : Int32} {off : Int} {tgt : Nat} (d : decode cc pc = .ok (.ifCond .ne off, 3)) (ht : (pc : Int) + off = (tgt : Int)) (k1 : gz_W b p l e R s m args below meth c G nL QQ ce sl σ tgt lv st z1) (k2 : gz_W b p l e R s m args below meth c G nL QQ ce sl σ (pc + 3) lv st z2) : gz_W b p l e R s m args below meth c G nL QQ ce sl σ pc lv (.int x :: st) (if x = 0 then z2 else z1) := fun o h H locs ls hH hS hl => lv_if_ne C.1 C.2.1 d ht (fun q => k1 o (by rw [if_neg q] at h; exact h) H locs ls hH hS hl) (fun q => k2 o (by rw [if_pos q] at h; exact h) H locs ls hH hS hl)
theorem gz_icmp_ne (C : gz_X p s m meth c G cc own nL ret) {x y : Int32} {off : Int} {tgt : Nat} (d : decode cc pc = .ok (.if_icmp .ne off, 3)) (ht : (pc : Int) + off = (tgt : Int)) (k1 : gz_W b p l e R s m args below meth c G nL QQ ce sl σ tgt lv st z1) (k2 : gz_W b p l e R s m args below meth c G nL QQ ce sl σ (pc + 3) lv st z2) : gz_W b p l e R s m args below meth c G nL QQ ce sl σ pc lv (.int y :: .int x :: st) (if x = y then z2 else z1) := fun o h H locs ls hH hS hl => lv_icmp_ne C.1 C.2.1 d ht (fun q => k1 o (by rw [if_neg q] at h; exact h) H locs ls hH hS hl) (fun q => k2 o (by rw [if_pos q] at h; exact h) H locs ls hH hS hl)
theorem gz_if_lt (C : gz_X p s m meth c G cc own nL ret) {x : Int32} {off : Int} {tgt : Nat} (d : decode cc pc = .ok (.ifCond .lt off, 3)) (ht : (pc : Int) + off = (tgt : Int)) (k1 : gz_W b p l e R s m args below meth c G nL QQ ce sl σ tgt lv st z1) (k2 : gz_W b p l e R s m args below meth c G nL QQ ce sl σ (pc + 3) lv st z2) : gz_W b p l e R s m args below meth c G nL QQ ce sl σ pc lv (.int x :: st) (if x < 0 then z1 else z2) := fun o h H locs ls hH hS hl => lv_if_lt C.1 C.2.1 d ht (fun q => k1 o (by rw [if_pos q] at h; exact h) H locs ls hH hS hl) (fun q => k2 o (by rw [if_neg q] at h; exact h) H locs ls hH hS hl)
theorem gz_icmp_lt (C : gz_X p s m meth c G cc own nL ret) {x y : Int32} {off : Int} {tgt : Nat} (d : decode cc pc = .ok (.if_icmp .lt off, 3)) (ht : (pc : Int) + off = (tgt : Int)) (k1 : gz_W b p l e R s m args below meth c G nL QQ ce sl σ tgt lv st z1) (k2 : gz_W b p l e R s m args below meth c G nL QQ ce sl σ (pc + 3) lv st z2) : gz_W b p l e R s m args below meth c G nL QQ ce sl σ pc lv (.int y :: .int x :: st) (if x < y then z1 else z2) := fun o h H locs ls hH hS hl => lv_icmp_lt C.1 C.2.1 d ht (fun q => k1 o (by rw [if_pos q] at h; exact h) H locs ls hH hS hl) (fun q => k2 o (by rw [if_neg q] at h; exact h) H locs ls hH hS hl)
theorem gz_if_ge (C : gz_X p s m meth c G cc own nL ret) {x : Int32} {off : Int} {tgt : Nat} (d : decode cc pc = .ok (.ifCond .ge off, 3)) (ht : (pc : Int) + off = (tgt : Int)) (k1 : gz_W b p l e R s m args below meth c G nL QQ ce sl σ tgt lv st z1) (k2 : gz_W b p l e R s m args below meth c G nL QQ ce sl σ (pc + 3) lv st z2) : gz_W b p l e R s m args below meth c G nL QQ ce sl σ pc lv (.int x :: st) (if 0 ≤ x then z1 else z2) := fun o h H locs ls hH hS hl => lv_if_ge C.1 C.2.1 d ht (fun q => k1 o (by rw [if_pos q] at h; exact h) H locs ls hH hS hl) (fun q => k2 o (by rw [if_neg q] at h; exact h) H locs ls hH hS hl)
theorem gz_icmp_ge (C : gz_X p s m meth c G cc own nL ret) {x y : Int32} {off : Int} {tgt : Nat} (d : decode cc pc = .ok (.if_icmp .ge off, 3)) (ht : (pc : Int) + off = (tgt : Int)) (k1 : gz_W b p l e R s m args below meth c G nL QQ ce sl σ tgt lv st z1) (k2 : gz_W b p l e R s m args below meth c G nL QQ ce sl σ (pc + 3) lv st z2) : gz_W b p l e R s m args below meth c G nL QQ ce sl σ pc lv (.int y :: .int x :: st) (if y ≤ x then z1 else z2) := fun o h H locs ls hH hS hl => lv_icmp_ge C.1 C.2.1 d ht (fun q => k1 o (by rw [if_pos q] at h; exact h) H locs ls hH hS hl) (fun q => k2 o (by rw [if_neg q] at h; exact h) H locs ls hH hS hl)
theorem gz_if_gt (C : gz_X p s m meth c G cc own nL ret) {x : Int32} {off : Int} {tgt : Nat} (d : decode cc pc = .ok (.ifCond .gt off, 3)) (ht : (pc : Int) + off = (tgt : Int)) (k1 : gz_W b p l e R s m args below meth c G nL QQ ce sl σ tgt lv st z1) (k2 : gz_W b p l e R s m args below meth c G nL QQ ce sl σ (pc + 3) lv st z2) : gz_W b p l e R s m args below meth c G nL QQ ce sl σ pc lv (.int x :: st) (if 0 < x then z1 else z2) := fun o h H locs ls hH hS hl => lv_if_gt C.1 C.2.1 d ht (fun q => k1 o (by rw [if_pos q] at h; exact h) H locs ls hH hS hl) (fun q => k2 o (by rw [if_neg q] at h; exact h) H locs ls hH hS hl)
theorem gz_icmp_gt (C : gz_X p s m meth c G cc own nL ret) {x y : Int32} {off : Int} {tgt : Nat} (d : decode cc pc = .ok (.if_icmp .gt off, 3)) (ht : (pc : Int) + off = (tgt : Int)) (k1 : gz_W b p l e R s m args below meth c G nL QQ ce sl σ tgt lv st z1) (k2 : gz_W b p l e R s m args below meth c G nL QQ ce sl σ (pc + 3) lv st z2) : gz_W b p l e R s m args below meth c G nL QQ ce sl σ pc lv (.int y :: .int x :: st) (if y < x then z1 else z2) := fun o h H locs ls hH hS hl => lv_icmp_gt C.1 C.2.1 d ht (fun q => k1 o (by rw [if_pos q] at h; exact h) H locs ls hH hS hl) (fun q => k2 o (by rw [if_neg q] at h; exact h) H locs ls hH hS hl)
theorem gz_if_le (C : gz_X p s m meth c G cc own nL ret) {x : Int32} {off : Int} {tgt : Nat} (d : decode cc pc = .ok (.ifCond .le off, 3)) (ht : (pc : Int) + off = (tgt : Int)) (k1 : gz_W b p l e R s m args below meth c G nL QQ ce sl σ tgt lv st z1) (k2 : gz_W b p l e R s m args below meth c G nL QQ ce sl σ (pc + 3) lv st z2) : gz_W b p l e R s m args below meth c G nL QQ ce sl σ pc lv (.int x :: st) (if x ≤ 0 then z1 else z2) := fun o h H locs ls hH hS hl => lv_if_le C.1 C.2.1 d ht (fun q => k1 o (by rw [if_pos q] at h; exact h) H locs ls hH hS hl) (fun q => k2 o (by rw [if_neg q] at h; exact h) H locs ls hH hS hl)
theorem gz_icmp_le (C : gz_X p s m meth c G cc own nL ret) {x y : Int32} {off : Int} {tgt : Nat} (d : decode cc pc = .ok (.if_icmp .le off, 3)) (ht : (pc : Int) + off = (tgt : Int)) (k1 : gz_W b p l e R s m args below meth c G nL QQ ce sl σ tgt lv st z1) (k2 : gz_W b p l e R s m args below meth c G nL QQ ce sl σ (pc + 3) lv st z2) : gz_W b p l e R s m args below meth c G nL QQ ce sl σ pc lv (.int y :: .int x :: st) (if x ≤ y then z1 else z2) := fun o h H locs ls hH hS hl => lv_icmp_le C.1 C.2.1 d ht (fun q => k1 o (by rw [if_pos q] at h; exact h) H locs ls hH hS hl) (fun q => k2 o (by rw [if_neg q] at h; exact h) H locs ls hH hS hl)
theorem gz_ifnull (C : gz_X p s m meth c G cc own nL ret) {t N : Nat} {r : Option Nat} {off : Int} {tgt : Nat} {f : Nat → Option α} (d : decode cc pc = .ok (.ifnull off, 3)) (ht : (pc : Int) + off = (tgt : Int)) (k1 : r = none → gz_W b p l e R s m args below meth c G nL QQ ce sl σ tgt lv st z1) (k2 : ∀ i, i < N → r = some i → gz_W b p l e R s m args below meth c G nL QQ ce sl σ (pc + 3) lv st (f i)) : gz_W b p l e R s m args below meth c G nL QQ ce sl σ pc lv (gz_rv b G t r :: st) (gz_nl r N z1 f) := by
  intro o h H locs ls hH hS hl
  cases r with
  | none => exact lv_ifnullN C.1 C.2.1 d ht (k1 rfl o h H locs ls hH hS hl)
  | some i =>
    simp only [gz_nl] at h
    split at h
    · rename_i hi
      exact lv_ifnull C.1 C.2.1 d (k2 i hi rfl o h H locs ls hH hS hl)
    · cases h
theorem gz_ifnonnull (C : gz_X p s m meth c G cc own nL ret) {t N : Nat} {r : Option Nat} {off : Int} {tgt : Nat} {f : Nat → Option α} (d : decode cc pc = .ok (.ifnonnull off, 3)) (ht : (pc : Int) + off = (tgt : Int)) (k1 : r = none → gz_W b p l e R s m args below meth c G nL QQ ce sl σ (pc + 3) lv st z1) (k2 : ∀ i, i < N → r = some i → gz_W b p l e R s m args below meth c G nL QQ ce sl σ tgt lv st (f i)) : gz_W b p l e R s m args below meth c G nL QQ ce sl σ pc lv (gz_rv b G t r :: st) (gz_nl r N z1 f) := by
  intro o h H locs ls hH hS hl
  cases r with
  | none => exact lv_ifnonnullN C.1 C.2.1 d (k1 rfl o h H locs ls hH hS hl)
  | some i =>
    simp only [gz_nl] at h
    split at h
    · rename_i hi
      exact lv_ifnonnull C.1 C.2.1 d ht (k2 i hi rfl o h H locs ls hH hS hl)
    · cases h
theorem gz_nn {t N : Nat} {r : Option Nat} {f : Nat → Option α} (k2 : ∀ i, i < N → r = some i → gz_W b p l e R s m args below meth c G nL QQ ce sl σ pc lv st (f i)) : gz_W b p l e R s m args below meth c G nL QQ ce sl σ pc lv st (gz_nl r N none f) := by
  intro o h H locs ls hH hS hl
  cases r with
  | none => cases h
  | some i =>
    simp only [gz_nl] at h
    split at h
    · rename_i hi
      exact k2 i hi rfl o h H locs ls hH hS hl
    · cases h
theorem gz_case {x : Int32} (v : Int32) (k1 : x = v → gz_W b p l e R s m args below meth c G nL QQ ce sl σ pc lv (.int x :: st) z1) (k2 : ¬ x = v → gz_W b p l e R s m args below meth c G nL QQ ce sl σ pc lv (.int x :: st) z2) : gz_W b p l e R s m args below meth c G nL QQ ce sl σ pc lv (.int x :: st) (if x = v then z1 else z2) := by
  intro o h H locs ls hH hS hl
  by_cases q : x = v
  · rw [if_pos q] at h; exact k1 q o h H locs ls hH hS hl
  · rw [if_neg q] at h; exact k2 q o h H locs ls hH hS hl
theorem gz_tin (C : gz_X p s m meth c G cc own nL ret) {dflt lo hi : Int} {offs : Array Int} {len : Nat} {x : Int32} {off : Int} {tgt : Nat} (d : decode cc pc = .ok (.tableswitch dflt lo hi offs, len)) (h1 : ¬ x.toInt < lo) (h2 : ¬ hi < x.toInt) (ho : offs[(x.toInt - lo).toNat]? = some off) (ht : (pc : Int) + off = (tgt : Int)) (k : gz_W b p l e R s m args below meth c G nL QQ ce sl σ tgt lv st z) : gz_W b p l e R s m args below meth c G nL QQ ce sl σ pc lv (.int x :: st) z := fun o h H locs ls hH hS hl => lv_tableIn C.1 C.2.1 d h1 h2 ho ht (k o h H locs ls hH hS hl)
theorem gz_tout (C : gz_X p s m meth c G cc own nL ret) {dflt lo hi : Int} {offs : Array Int} {len : Nat} {x : Int32} {tgt : Nat} (d : decode cc pc = .ok (.tableswitch dflt lo hi offs, len)) (hx : x.toInt < lo ∨ hi < x.toInt) (ht : (pc : Int) + dflt = (tgt : Int)) (k : gz_W b p l e R s m args below meth c G nL QQ ce sl σ tgt lv st z) : gz_W b p l e R s m args below meth c G nL QQ ce sl σ pc lv (.int x :: st) z := fun o h H locs ls hH hS hl => lv_tableOut C.1 C.2.1 d hx ht (k o h H locs ls hH hS hl)
theorem gz_obj {ci t i : Nat} {q : vw_C} {H : Heap} (hH : gz_H b G σ H) (hi : i < gz_ct b σ.2.2 t) (hkd : gz_kd b t = .inl (ci, q.2.2)) : t_OB (gz_ad b G t i) (G.2.1 ci) q.2.2 (G.2.2.1 ci) H (gz_fv b G σ t i) := by
  have hc := hH.1 t i hi
  rw [hkd] at hc
  exact hc
theorem gz_arr {ek len t i : Nat} {H : Heap} (hH : gz_H b G σ H) (hi : i < gz_ct b σ.2.2 t) (hkd : gz_kd b t = .inr (ek, len)) : H[gz_ad b G t i]? = some (arrV (G.2.2.2 ek) len (gz_ev b G σ t i ek)) := by
  have hc := hH.1 t i hi
  rw [hkd] at hc
  exact hc
theorem gz_lays (C : gz_X p s m meth c G cc own nL ret) {ci : Nat} {q : vw_C} (hq : vwCl[ci]? = some q) : ∀ w ∈ u_ws q.1 q.2.1 q.2.2, w.before args s = true := fun w hw => C.word ((gz_cls ci q hq).1 w hw).1 ((gz_cls ci q hq).1 w hw).2
theorem gz_get (C : gz_X p s m meth c G cc own nL ret) {t i k ci index : Nat} {q : vw_C} {v : Value} (d : decode cc pc = .ok (.getfield index, 3)) (hlk : Cond.fieldLink own index (q.2.1 k).1 (q.2.1 k).2.1 (q.2.1 k).2.2.1 ∈ lw_tbl) (hi : i < gz_ct b σ.2.2 t) (hq : vwCl[ci]? = some q) (hkd : gz_kd b t = .inl (ci, q.2.2)) (hk : k < q.2.2) (hv : gz_fv b G σ t i k = v) (kk : gz_W b p l e R s m args below meth c G nL QQ ce sl σ (pc + 3) lv (v :: st) z) : gz_W b p l e R s m args below meth c G nL QQ ce sl σ pc lv (.ref (gz_ad b G t i) :: st) z := by
  intro o ho H locs ls hH hS hl
  obtain ⟨cell, q1, q2, q3, q4⟩ := gz_obj hH hi hkd
  obtain ⟨hSl, hfc, kC, hkC, hkind⟩ := C.2.2.2.2.2.2.1 ci q hq
  obtain ⟨cf, kf, fi, f, hif, hsl⟩ := hSl k hk
  exact W.getf C.1 C.2.1 C.2.2.2.1 (C.word hlk rfl) hif (u_facts hfc hkC (u_lays (gz_lays (args := args) C hq) (fun _ h => h) hk) hif).1 q1 (by rw [q3]; exact fun h => by cases h) (v := v) (by rw [hsl, q4 k hk, hv]) rfl rfl d (kk o ho H locs ls hH hS hl)
theorem gz_putI (C : gz_X p s m meth c G cc own nL ret) {t i k ci index : Nat} {q : vw_C} {x : Int32} (d : decode cc pc = .ok (.putfield index, 3)) (hlk : Cond.fieldLink own index (q.2.1 k).1 (q.2.1 k).2.1 (q.2.1 k).2.2.1 ∈ lw_tbl) (hi : i < gz_ct b σ.2.2 t) (hq : vwCl[ci]? = some q) (hkd : gz_kd b t = .inl (ci, q.2.2)) (hk : k < q.2.2) (hfk : gz_fk b t k = 0) (hfin : (q.2.1 k).2.2.2 = false) (hn : narrow (gz_tyc ci k) (.int x) = .int x) (hft : fits (gz_tyc ci k) (.int x) = true) (kk : gz_W b p l e R s m args below meth c G nL QQ ce sl (gz_si σ t i k x) (pc + 3) lv st z) : gz_W b p l e R s m args below meth c G nL QQ ce sl σ pc lv (.int x :: .ref (gz_ad b G t i) :: st) z := by
  intro o ho H locs ls hH hS hl
  have hcl := gz_cls ci q hq
  have hap := va_apart (own := own) (args := args) (D := (G.2.1, G.2.2.1)) (tys := []) (gz_lays (args := args) C hq) (fun _ h => h) (gz_tyc ci) hcl.2.1 hcl.2.2 (cl := vwCl) ⟨C.2.2.2.2.2.2.1, fun _ _ h => by simp at h⟩ hq
  obtain ⟨cell, q1, q2, q3, q4⟩ := gz_obj hH hi hkd
  obtain ⟨hSl, hfc, kC, hkC, hkind⟩ := C.2.2.2.2.2.2.1 ci q hq
  obtain ⟨cf, kf, fi, f, hif, hsl⟩ := hSl k hk
  have hlay := gz_lays (args := args) C hq _ (u_in_lay hk)
  unfold u_lay at hlay
  rw [if_neg (by rw [hfin]; decide)] at hlay
  have hst := (u_facts hfc hkC (u_lays (gz_lays (args := args) C hq) (fun _ h => h) hk) hif).1
  have h6 := u_store hfc hkC hkind hlay hif (hcl.2.1 k hk) hn hft
  refine W.putK C.1 C.2.1 (f := f) ⟨C.2.2.2.1, C.word hlk rfl, ⟨_, _, _, hif⟩, hst⟩ (by rw [q2]; exact h6) q1 q3 (by rw [hsl]; exact k2_hasslot (q4 k hk)) rfl rfl d fun H' e1 e2 e3 => ?_
  rw [hsl] at e1
  refine kk o ho H' _ ls (hH.put hi rfl (fun t' i' h => gz_si_ne t' i' h) ?_ e2 e3) ⟨hS.1.put e2 e3 (gz_inA hi), fun hb => by rw [e2]; exact hS.2 hb⟩ hl
  rw [hkd]
  refine t_OB.to (V := updV (gz_fv b G σ t i) k (.int x)) ⟨_, e1, q2, q3, t_set q4 hap hk (.int x)⟩ (fun j hj => ?_)
  by_cases hjk : j = k
  · subst hjk
    simp [updV, gz_fv, hfk, gz_si]
  · simp only [updV, if_neg hjk, gz_fv, gz_si]
    simp [hjk]
theorem gz_putJ (C : gz_X p s m meth c G cc own nL ret) {t i k ci index : Nat} {q : vw_C} {x : Int64} (d : decode cc pc = .ok (.putfield index, 3)) (hlk : Cond.fieldLink own index (q.2.1 k).1 (q.2.1 k).2.1 (q.2.1 k).2.2.1 ∈ lw_tbl) (hi : i < gz_ct b σ.2.2 t) (hq : vwCl[ci]? = some q) (hkd : gz_kd b t = .inl (ci, q.2.2)) (hk : k < q.2.2) (hfk : gz_fk b t k = 1) (hfin : (q.2.1 k).2.2.2 = false) (hn : narrow (gz_tyc ci k) (.long x) = .long x) (hft : fits (gz_tyc ci k) (.long x) = true) (kk : gz_W b p l e R s m args below meth c G nL QQ ce sl (gz_sj σ t i k x) (pc + 3) lv st z) : gz_W b p l e R s m args below meth c G nL QQ ce sl σ pc lv (.long x :: .ref (gz_ad b G t i) :: st) z := by
  intro o ho H locs ls hH hS hl
  have hcl := gz_cls ci q hq
  have hap := va_apart (own := own) (args := args) (D := (G.2.1, G.2.2.1)) (tys := []) (gz_lays (args := args) C hq) (fun _ h => h) (gz_tyc ci) hcl.2.1 hcl.2.2 (cl := vwCl) ⟨C.2.2.2.2.2.2.1, fun _ _ h => by simp at h⟩ hq
  obtain ⟨cell, q1, q2, q3, q4⟩ := gz_obj hH hi hkd
  obtain ⟨hSl, hfc, kC, hkC, hkind⟩ := C.2.2.2.2.2.2.1 ci q hq
  obtain ⟨cf, kf, fi, f, hif, hsl⟩ := hSl k hk
  have hlay := gz_lays (args := args) C hq _ (u_in_lay hk)
  unfold u_lay at hlay
  rw [if_neg (by rw [hfin]; decide)] at hlay
  have hst := (u_facts hfc hkC (u_lays (gz_lays (args := args) C hq) (fun _ h => h) hk) hif).1
  have h6 := u_store hfc hkC hkind hlay hif (hcl.2.1 k hk) hn hft
  refine W.putK C.1 C.2.1 (f := f) ⟨C.2.2.2.1, C.word hlk rfl, ⟨_, _, _, hif⟩, hst⟩ (by rw [q2]; exact h6) q1 q3 (by rw [hsl]; exact k2_hasslot (q4 k hk)) rfl rfl d fun H' e1 e2 e3 => ?_
  rw [hsl] at e1
  refine kk o ho H' _ ls (hH.put hi rfl (fun t' i' h => gz_sj_ne t' i' h) ?_ e2 e3) ⟨hS.1.put e2 e3 (gz_inA hi), fun hb => by rw [e2]; exact hS.2 hb⟩ hl
  rw [hkd]
  refine t_OB.to (V := updV (gz_fv b G σ t i) k (.long x)) ⟨_, e1, q2, q3, t_set q4 hap hk (.long x)⟩ (fun j hj => ?_)
  by_cases hjk : j = k
  · subst hjk
    simp [updV, gz_fv, hfk, gz_sj]
  · simp only [updV, if_neg hjk, gz_fv, gz_sj]
    simp [hjk]
theorem gz_getN (C : gz_X p s m meth c G cc own nL ret) {t i k ci index : Nat} {q : vw_C} {v : Value} {host : String} (d : decode cc pc = .ok (.getfield index, 3)) (hlk : Cond.fieldLinkNest own index (q.2.1 k).1 (q.2.1 k).2.1 (q.2.1 k).2.2.1 host ∈ lw_tbl) (hi : i < gz_ct b σ.2.2 t) (hq : vwCl[ci]? = some q) (hkd : gz_kd b t = .inl (ci, q.2.2)) (hk : k < q.2.2) (hv : gz_fv b G σ t i k = v) (kk : gz_W b p l e R s m args below meth c G nL QQ ce sl σ (pc + 3) lv (v :: st) z) : gz_W b p l e R s m args below meth c G nL QQ ce sl σ pc lv (.ref (gz_ad b G t i) :: st) z := by
  intro o ho H locs ls hH hS hl
  obtain ⟨cell, q1, q2, q3, q4⟩ := gz_obj hH hi hkd
  obtain ⟨hSl, hfc, kC, hkC, hkind⟩ := C.2.2.2.2.2.2.1 ci q hq
  obtain ⟨cf, kf, fi, f, hif, hsl⟩ := hSl k hk
  exact va_Wgetf C.1 C.2.1 C.2.2.2.1 (C.word hlk rfl) hif (u_facts hfc hkC (u_lays (gz_lays (args := args) C hq) (fun _ h => h) hk) hif).1 q1 (by rw [q3]; exact fun h => by cases h) (v := v) (by rw [hsl, q4 k hk, hv]) rfl rfl d (kk o ho H locs ls hH hS hl)
theorem gz_putIN (C : gz_X p s m meth c G cc own nL ret) {t i k ci index : Nat} {q : vw_C} {x : Int32} {host : String} (d : decode cc pc = .ok (.putfield index, 3)) (hlk : Cond.fieldLinkNest own index (q.2.1 k).1 (q.2.1 k).2.1 (q.2.1 k).2.2.1 host ∈ lw_tbl) (hi : i < gz_ct b σ.2.2 t) (hq : vwCl[ci]? = some q) (hkd : gz_kd b t = .inl (ci, q.2.2)) (hk : k < q.2.2) (hfk : gz_fk b t k = 0) (hfin : (q.2.1 k).2.2.2 = false) (hn : narrow (gz_tyc ci k) (.int x) = .int x) (hft : fits (gz_tyc ci k) (.int x) = true) (kk : gz_W b p l e R s m args below meth c G nL QQ ce sl (gz_si σ t i k x) (pc + 3) lv st z) : gz_W b p l e R s m args below meth c G nL QQ ce sl σ pc lv (.int x :: .ref (gz_ad b G t i) :: st) z := by
  intro o ho H locs ls hH hS hl
  have hcl := gz_cls ci q hq
  have hap := va_apart (own := own) (args := args) (D := (G.2.1, G.2.2.1)) (tys := []) (gz_lays (args := args) C hq) (fun _ h => h) (gz_tyc ci) hcl.2.1 hcl.2.2 (cl := vwCl) ⟨C.2.2.2.2.2.2.1, fun _ _ h => by simp at h⟩ hq
  obtain ⟨cell, q1, q2, q3, q4⟩ := gz_obj hH hi hkd
  obtain ⟨hSl, hfc, kC, hkC, hkind⟩ := C.2.2.2.2.2.2.1 ci q hq
  obtain ⟨cf, kf, fi, f, hif, hsl⟩ := hSl k hk
  have hlay := gz_lays (args := args) C hq _ (u_in_lay hk)
  unfold u_lay at hlay
  rw [if_neg (by rw [hfin]; decide)] at hlay
  have hst := (u_facts hfc hkC (u_lays (gz_lays (args := args) C hq) (fun _ h => h) hk) hif).1
  have h6 := u_store hfc hkC hkind hlay hif (hcl.2.1 k hk) hn hft
  refine va_WputK C.1 C.2.1 (f := f) C.2.2.2.1 (C.word hlk rfl) hif hst (by rw [q2]; exact h6) q1 q3 (by rw [hsl]; exact k2_hasslot (q4 k hk)) rfl rfl d fun H' e1 e2 e3 => ?_
  rw [hsl] at e1
  refine kk o ho H' _ ls (hH.put hi rfl (fun t' i' h => gz_si_ne t' i' h) ?_ e2 e3) ⟨hS.1.put e2 e3 (gz_inA hi), fun hb => by rw [e2]; exact hS.2 hb⟩ hl
  rw [hkd]
  refine t_OB.to (V := updV (gz_fv b G σ t i) k (.int x)) ⟨_, e1, q2, q3, t_set q4 hap hk (.int x)⟩ (fun j hj => ?_)
  by_cases hjk : j = k
  · subst hjk
    simp [updV, gz_fv, hfk, gz_si]
  · simp only [updV, if_neg hjk, gz_fv, gz_si]
    simp [hjk]
theorem gz_putJN (C : gz_X p s m meth c G cc own nL ret) {t i k ci index : Nat} {q : vw_C} {x : Int64} {host : String} (d : decode cc pc = .ok (.putfield index, 3)) (hlk : Cond.fieldLinkNest own index (q.2.1 k).1 (q.2.1 k).2.1 (q.2.1 k).2.2.1 host ∈ lw_tbl) (hi : i < gz_ct b σ.2.2 t) (hq : vwCl[ci]? = some q) (hkd : gz_kd b t = .inl (ci, q.2.2)) (hk : k < q.2.2) (hfk : gz_fk b t k = 1) (hfin : (q.2.1 k).2.2.2 = false) (hn : narrow (gz_tyc ci k) (.long x) = .long x) (hft : fits (gz_tyc ci k) (.long x) = true) (kk : gz_W b p l e R s m args below meth c G nL QQ ce sl (gz_sj σ t i k x) (pc + 3) lv st z) : gz_W b p l e R s m args below meth c G nL QQ ce sl σ pc lv (.long x :: .ref (gz_ad b G t i) :: st) z := by
  intro o ho H locs ls hH hS hl
  have hcl := gz_cls ci q hq
  have hap := va_apart (own := own) (args := args) (D := (G.2.1, G.2.2.1)) (tys := []) (gz_lays (args := args) C hq) (fun _ h => h) (gz_tyc ci) hcl.2.1 hcl.2.2 (cl := vwCl) ⟨C.2.2.2.2.2.2.1, fun _ _ h => by simp at h⟩ hq
  obtain ⟨cell, q1, q2, q3, q4⟩ := gz_obj hH hi hkd
  obtain ⟨hSl, hfc, kC, hkC, hkind⟩ := C.2.2.2.2.2.2.1 ci q hq
  obtain ⟨cf, kf, fi, f, hif, hsl⟩ := hSl k hk
  have hlay := gz_lays (args := args) C hq _ (u_in_lay hk)
  unfold u_lay at hlay
  rw [if_neg (by rw [hfin]; decide)] at hlay
  have hst := (u_facts hfc hkC (u_lays (gz_lays (args := args) C hq) (fun _ h => h) hk) hif).1
  have h6 := u_store hfc hkC hkind hlay hif (hcl.2.1 k hk) hn hft
  refine va_WputK C.1 C.2.1 (f := f) C.2.2.2.1 (C.word hlk rfl) hif hst (by rw [q2]; exact h6) q1 q3 (by rw [hsl]; exact k2_hasslot (q4 k hk)) rfl rfl d fun H' e1 e2 e3 => ?_
  rw [hsl] at e1
  refine kk o ho H' _ ls (hH.put hi rfl (fun t' i' h => gz_sj_ne t' i' h) ?_ e2 e3) ⟨hS.1.put e2 e3 (gz_inA hi), fun hb => by rw [e2]; exact hS.2 hb⟩ hl
  rw [hkd]
  refine t_OB.to (V := updV (gz_fv b G σ t i) k (.long x)) ⟨_, e1, q2, q3, t_set q4 hap hk (.long x)⟩ (fun j hj => ?_)
  by_cases hjk : j = k
  · subst hjk
    simp [updV, gz_fv, hfk, gz_sj]
  · simp only [updV, if_neg hjk, gz_fv, gz_sj]
    simp [hjk]
theorem gz_ix_some {j : Int32} {n : Nat} {f : Nat → Option α} {o : α} (h : gz_ix j n f = some o) : vp_in j n ∧ j.toNatClampNeg < n ∧ f j.toNatClampNeg = some o := by
  unfold gz_ix at h
  split at h
  · rename_i hc
    exact ⟨vp_in_iff.mpr hc, by show j.toInt.toNat < n; omega, h⟩
  · cases h
theorem gz_iald (C : gz_X p s m meth c G cc own nL ret) {t i len : Nat} {j : Int32} {f : Nat → Option α} (d : decode cc pc = .ok (.iaload, 1)) (hi : i < gz_ct b σ.2.2 t) (hkd : gz_kd b t = .inr (0, len)) (kk : ∀ n, n < len → gz_W b p l e R s m args below meth c G nL QQ ce sl σ (pc + 1) lv (.int (σ.1 t i n) :: st) (f n)) : gz_W b p l e R s m args below meth c G nL QQ ce sl σ pc lv (.int j :: .ref (gz_ad b G t i) :: st) (gz_ix j len f) := by
  intro o ho H locs ls hH hS hl
  obtain ⟨hin, hlt, hf⟩ := gz_ix_some ho
  exact W.iald (v := .int (σ.1 t i j.toNatClampNeg)) C.1 C.2.1 (gz_arr hH hi hkd) ((C.2.2.2.2.2.2.2.1 0 (by decide)).1 len _) (fun q => by cases q) (by show ¬ (j < 0 ∨ (arrV _ _ _).slots.size ≤ _); rw [arrV_size]; exact hin) (by show (arrV _ _ _).slots[_]? = _; rw [arrV_read _ _ hlt]; rfl) rfl rfl d (kk _ hlt o hf H locs ls hH hS hl)
theorem gz_lald (C : gz_X p s m meth c G cc own nL ret) {t i len : Nat} {j : Int32} {f : Nat → Option α} (d : decode cc pc = .ok (.laload, 1)) (hi : i < gz_ct b σ.2.2 t) (hkd : gz_kd b t = .inr (1, len)) (kk : ∀ n, n < len → gz_W b p l e R s m args below meth c G nL QQ ce sl σ (pc + 1) lv (.long (σ.2.1 t i n) :: st) (f n)) : gz_W b p l e R s m args below meth c G nL QQ ce sl σ pc lv (.int j :: .ref (gz_ad b G t i) :: st) (gz_ix j len f) := by
  intro o ho H locs ls hH hS hl
  obtain ⟨hin, hlt, hf⟩ := gz_ix_some ho
  exact W.lald (v := .long (σ.2.1 t i j.toNatClampNeg)) C.1 C.2.1 (gz_arr hH hi hkd) ((C.2.2.2.2.2.2.2.1 1 (by decide)).1 len _) (fun q => by cases q) (by show ¬ (j < 0 ∨ (arrV _ _ _).slots.size ≤ _); rw [arrV_size]; exact hin) (by show (arrV _ _ _).slots[_]? = _; rw [arrV_read _ _ hlt]; rfl) rfl rfl d (kk _ hlt o hf H locs ls hH hS hl)
theorem gz_bald (C : gz_X p s m meth c G cc own nL ret) {t i len : Nat} {j : Int32} {f : Nat → Option α} (d : decode cc pc = .ok (.baload, 1)) (hi : i < gz_ct b σ.2.2 t) (hkd : gz_kd b t = .inr (2, len)) (kk : ∀ n, n < len → gz_W b p l e R s m args below meth c G nL QQ ce sl σ (pc + 1) lv (.int (σ.1 t i n) :: st) (f n)) : gz_W b p l e R s m args below meth c G nL QQ ce sl σ pc lv (.int j :: .ref (gz_ad b G t i) :: st) (gz_ix j len f) := by
  intro o ho H locs ls hH hS hl
  obtain ⟨hin, hlt, hf⟩ := gz_ix_some ho
  exact W.bald (v := .int (σ.1 t i j.toNatClampNeg)) C.1 C.2.1 (gz_arr hH hi hkd) ((C.2.2.2.2.2.2.2.1 2 (by decide)).1 len _) (fun q => by cases q) (by show ¬ (j < 0 ∨ (arrV _ _ _).slots.size ≤ _); rw [arrV_size]; exact hin) (by show (arrV _ _ _).slots[_]? = _; rw [arrV_read _ _ hlt]; rfl) rfl rfl d (kk _ hlt o hf H locs ls hH hS hl)
theorem gz_zald (C : gz_X p s m meth c G cc own nL ret) {t i len : Nat} {j : Int32} {f : Nat → Option α} (d : decode cc pc = .ok (.baload, 1)) (hi : i < gz_ct b σ.2.2 t) (hkd : gz_kd b t = .inr (3, len)) (kk : ∀ n, n < len → gz_W b p l e R s m args below meth c G nL QQ ce sl σ (pc + 1) lv (.int (σ.1 t i n) :: st) (f n)) : gz_W b p l e R s m args below meth c G nL QQ ce sl σ pc lv (.int j :: .ref (gz_ad b G t i) :: st) (gz_ix j len f) := by
  intro o ho H locs ls hH hS hl
  obtain ⟨hin, hlt, hf⟩ := gz_ix_some ho
  exact W.zald (v := .int (σ.1 t i j.toNatClampNeg)) C.1 C.2.1 (gz_arr hH hi hkd) ((C.2.2.2.2.2.2.2.1 3 (by decide)).1 len _) (fun q => by cases q) (by show ¬ (j < 0 ∨ (arrV _ _ _).slots.size ≤ _); rw [arrV_size]; exact hin) (by show (arrV _ _ _).slots[_]? = _; rw [arrV_read _ _ hlt]; rfl) rfl rfl d (kk _ hlt o hf H locs ls hH hS hl)
theorem gz_aald4 (C : gz_X p s m meth c G cc own nL ret) {t i len : Nat} {j : Int32} {f : Nat → Option α} (d : decode cc pc = .ok (.aaload, 1)) (hi : i < gz_ct b σ.2.2 t) (hkd : gz_kd b t = .inr (4, len)) (kk : ∀ n, n < len → gz_W b p l e R s m args below meth c G nL QQ ce sl σ (pc + 1) lv (.ref (gz_ad b G 8 (8 * i + n)) :: st) (f n)) : gz_W b p l e R s m args below meth c G nL QQ ce sl σ pc lv (.int j :: .ref (gz_ad b G t i) :: st) (gz_ix j len f) := by
  intro o ho H locs ls hH hS hl
  obtain ⟨hin, hlt, hf⟩ := gz_ix_some ho
  exact W.aald (v := .ref (gz_ad b G 8 (8 * i + j.toNatClampNeg))) C.1 C.2.1 (gz_arr hH hi hkd) ((C.2.2.2.2.2.2.2.1 4 (by decide)).1 len _) rfl (fun q => by cases q) (by show ¬ (j < 0 ∨ (arrV _ _ _).slots.size ≤ _); rw [arrV_size]; exact hin) (by show (arrV _ _ _).slots[_]? = _; rw [arrV_read _ _ hlt]; rfl) rfl rfl d (kk _ hlt o hf H locs ls hH hS hl)
theorem gz_aald5 (C : gz_X p s m meth c G cc own nL ret) {t i len : Nat} {j : Int32} {f : Nat → Option α} (d : decode cc pc = .ok (.aaload, 1)) (hi : i < gz_ct b σ.2.2 t) (hkd : gz_kd b t = .inr (5, len)) (kk : ∀ n, n < len → gz_W b p l e R s m args below meth c G nL QQ ce sl σ (pc + 1) lv (.ref (gz_ad b G 6 n) :: st) (f n)) : gz_W b p l e R s m args below meth c G nL QQ ce sl σ pc lv (.int j :: .ref (gz_ad b G t i) :: st) (gz_ix j len f) := by
  intro o ho H locs ls hH hS hl
  obtain ⟨hin, hlt, hf⟩ := gz_ix_some ho
  exact W.aald (v := .ref (gz_ad b G 6 j.toNatClampNeg)) C.1 C.2.1 (gz_arr hH hi hkd) ((C.2.2.2.2.2.2.2.1 5 (by decide)).1 len _) rfl (fun q => by cases q) (by show ¬ (j < 0 ∨ (arrV _ _ _).slots.size ≤ _); rw [arrV_size]; exact hin) (by show (arrV _ _ _).slots[_]? = _; rw [arrV_read _ _ hlt]; rfl) rfl rfl d (kk _ hlt o hf H locs ls hH hS hl)
theorem gz_aald6 (C : gz_X p s m meth c G cc own nL ret) {t i len : Nat} {j : Int32} {f : Nat → Option α} (d : decode cc pc = .ok (.aaload, 1)) (hi : i < gz_ct b σ.2.2 t) (hkd : gz_kd b t = .inr (6, len)) (kk : ∀ n, n < len → gz_W b p l e R s m args below meth c G nL QQ ce sl σ (pc + 1) lv (.ref (gz_ad b G 20 n) :: st) (f n)) : gz_W b p l e R s m args below meth c G nL QQ ce sl σ pc lv (.int j :: .ref (gz_ad b G t i) :: st) (gz_ix j len f) := by
  intro o ho H locs ls hH hS hl
  obtain ⟨hin, hlt, hf⟩ := gz_ix_some ho
  exact W.aald (v := .ref (gz_ad b G 20 j.toNatClampNeg)) C.1 C.2.1 (gz_arr hH hi hkd) ((C.2.2.2.2.2.2.2.1 6 (by decide)).1 len _) rfl (fun q => by cases q) (by show ¬ (j < 0 ∨ (arrV _ _ _).slots.size ≤ _); rw [arrV_size]; exact hin) (by show (arrV _ _ _).slots[_]? = _; rw [arrV_read _ _ hlt]; rfl) rfl rfl d (kk _ hlt o hf H locs ls hH hS hl)
theorem gz_aald7 (C : gz_X p s m meth c G cc own nL ret) {t i len : Nat} {j : Int32} {f : Nat → Option α} (d : decode cc pc = .ok (.aaload, 1)) (hi : i < gz_ct b σ.2.2 t) (hkd : gz_kd b t = .inr (7, len)) (kk : ∀ n, n < len → gz_W b p l e R s m args below meth c G nL QQ ce sl σ (pc + 1) lv (.ref (gz_ad b G 14 n) :: st) (f n)) : gz_W b p l e R s m args below meth c G nL QQ ce sl σ pc lv (.int j :: .ref (gz_ad b G t i) :: st) (gz_ix j len f) := by
  intro o ho H locs ls hH hS hl
  obtain ⟨hin, hlt, hf⟩ := gz_ix_some ho
  exact W.aald (v := .ref (gz_ad b G 14 j.toNatClampNeg)) C.1 C.2.1 (gz_arr hH hi hkd) ((C.2.2.2.2.2.2.2.1 7 (by decide)).1 len _) rfl (fun q => by cases q) (by show ¬ (j < 0 ∨ (arrV _ _ _).slots.size ≤ _); rw [arrV_size]; exact hin) (by show (arrV _ _ _).slots[_]? = _; rw [arrV_read _ _ hlt]; rfl) rfl rfl d (kk _ hlt o hf H locs ls hH hS hl)
theorem gz_iast (C : gz_X p s m meth c G cc own nL ret) {t i len : Nat} {j : Int32} {x : Int32} {f : Nat → Option α} (d : decode cc pc = .ok (.iastore, 1)) (hi : i < gz_ct b σ.2.2 t) (hkd : gz_kd b t = .inr (0, len)) (kk : ∀ n, n < len → gz_W b p l e R s m args below meth c G nL QQ ce sl (gz_si σ t i n x) (pc + 1) lv st (f n)) : gz_W b p l e R s m args below meth c G nL QQ ce sl σ pc lv (.int x :: .int j :: .ref (gz_ad b G t i) :: st) (gz_ix j len f) := by
  intro o ho H locs ls hH hS hl
  obtain ⟨hin, hlt, hf⟩ := gz_ix_some ho
  refine W.iast C.1 C.2.1 (gz_arr hH hi hkd) ((C.2.2.2.2.2.2.2.1 0 (by decide)).1 len _) (fun q => by cases q) (by show ¬ (j < 0 ∨ (arrV _ _ _).slots.size ≤ _); rw [arrV_size]; exact hin) rfl rfl d fun H1 e1 e2 e3 => ?_
  refine kk _ hlt o hf H1 _ ls (hH.put hi rfl (fun t' i' h => gz_si_ne t' i' h) ?_ e2 e3) ⟨hS.1.put e2 e3 (gz_inA hi), fun hb => by rw [e2]; exact hS.2 hb⟩ hl
  rw [hkd]
  show H1[gz_ad b G t i]? = _
  rw [e1, arrV_store]
  congr 2
  funext y
  by_cases hy : y = j.toNatClampNeg
  · subst hy
    simp [updV, gz_ev, gz_si, narrow]
  · simp [updV, gz_ev, gz_si, hy]
theorem gz_last (C : gz_X p s m meth c G cc own nL ret) {t i len : Nat} {j : Int32} {x : Int64} {f : Nat → Option α} (d : decode cc pc = .ok (.lastore, 1)) (hi : i < gz_ct b σ.2.2 t) (hkd : gz_kd b t = .inr (1, len)) (kk : ∀ n, n < len → gz_W b p l e R s m args below meth c G nL QQ ce sl (gz_sj σ t i n x) (pc + 1) lv st (f n)) : gz_W b p l e R s m args below meth c G nL QQ ce sl σ pc lv (.long x :: .int j :: .ref (gz_ad b G t i) :: st) (gz_ix j len f) := by
  intro o ho H locs ls hH hS hl
  obtain ⟨hin, hlt, hf⟩ := gz_ix_some ho
  refine W.last C.1 C.2.1 (gz_arr hH hi hkd) ((C.2.2.2.2.2.2.2.1 1 (by decide)).1 len _) (fun q => by cases q) (by show ¬ (j < 0 ∨ (arrV _ _ _).slots.size ≤ _); rw [arrV_size]; exact hin) rfl rfl d fun H1 e1 e2 e3 => ?_
  refine kk _ hlt o hf H1 _ ls (hH.put hi rfl (fun t' i' h => gz_sj_ne t' i' h) ?_ e2 e3) ⟨hS.1.put e2 e3 (gz_inA hi), fun hb => by rw [e2]; exact hS.2 hb⟩ hl
  rw [hkd]
  show H1[gz_ad b G t i]? = _
  rw [e1, arrV_store]
  congr 2
  funext y
  by_cases hy : y = j.toNatClampNeg
  · subst hy
    simp [updV, gz_ev, gz_sj, narrow]
  · simp [updV, gz_ev, gz_sj, hy]
theorem gz_bast (C : gz_X p s m meth c G cc own nL ret) {t i len : Nat} {j : Int32} {x : Int32} {f : Nat → Option α} (d : decode cc pc = .ok (.bastore, 1)) (hi : i < gz_ct b σ.2.2 t) (hkd : gz_kd b t = .inr (2, len)) (kk : ∀ n, n < len → gz_W b p l e R s m args below meth c G nL QQ ce sl (gz_si σ t i n x.toInt8.toInt32) (pc + 1) lv st (f n)) : gz_W b p l e R s m args below meth c G nL QQ ce sl σ pc lv (.int x :: .int j :: .ref (gz_ad b G t i) :: st) (gz_ix j len f) := by
  intro o ho H locs ls hH hS hl
  obtain ⟨hin, hlt, hf⟩ := gz_ix_some ho
  refine W.bast C.1 C.2.1 (gz_arr hH hi hkd) ((C.2.2.2.2.2.2.2.1 2 (by decide)).1 len _) (fun q => by cases q) (by show ¬ (j < 0 ∨ (arrV _ _ _).slots.size ≤ _); rw [arrV_size]; exact hin) rfl rfl d fun H1 e1 e2 e3 => ?_
  refine kk _ hlt o hf H1 _ ls (hH.put hi rfl (fun t' i' h => gz_si_ne t' i' h) ?_ e2 e3) ⟨hS.1.put e2 e3 (gz_inA hi), fun hb => by rw [e2]; exact hS.2 hb⟩ hl
  rw [hkd]
  show H1[gz_ad b G t i]? = _
  rw [e1, arrV_store]
  congr 2
  funext y
  by_cases hy : y = j.toNatClampNeg
  · subst hy
    simp [updV, gz_ev, gz_si, narrow]
  · simp [updV, gz_ev, gz_si, hy]
theorem gz_zast (C : gz_X p s m meth c G cc own nL ret) {t i len : Nat} {j : Int32} {x : Int32} {f : Nat → Option α} (d : decode cc pc = .ok (.bastore, 1)) (hi : i < gz_ct b σ.2.2 t) (hkd : gz_kd b t = .inr (3, len)) (kk : ∀ n, n < len → gz_W b p l e R s m args below meth c G nL QQ ce sl (gz_si σ t i n (x &&& 1)) (pc + 1) lv st (f n)) : gz_W b p l e R s m args below meth c G nL QQ ce sl σ pc lv (.int x :: .int j :: .ref (gz_ad b G t i) :: st) (gz_ix j len f) := by
  intro o ho H locs ls hH hS hl
  obtain ⟨hin, hlt, hf⟩ := gz_ix_some ho
  refine W.zast C.1 C.2.1 (gz_arr hH hi hkd) ((C.2.2.2.2.2.2.2.1 3 (by decide)).1 len _) (fun q => by cases q) (by show ¬ (j < 0 ∨ (arrV _ _ _).slots.size ≤ _); rw [arrV_size]; exact hin) rfl rfl d fun H1 e1 e2 e3 => ?_
  refine kk _ hlt o hf H1 _ ls (hH.put hi rfl (fun t' i' h => gz_si_ne t' i' h) ?_ e2 e3) ⟨hS.1.put e2 e3 (gz_inA hi), fun hb => by rw [e2]; exact hS.2 hb⟩ hl
  rw [hkd]
  show H1[gz_ad b G t i]? = _
  rw [e1, arrV_store]
  congr 2
  funext y
  by_cases hy : y = j.toNatClampNeg
  · subst hy
    simp [updV, gz_ev, gz_si, narrow]
  · simp [updV, gz_ev, gz_si, hy]
theorem gz_alen (C : gz_X p s m meth c G cc own nL ret) {t i len ek : Nat} {v : Int32} (d : decode cc pc = .ok (.arraylength, 1)) (hi : i < gz_ct b σ.2.2 t) (hkd : gz_kd b t = .inr (ek, len)) (hek : ek < 8) (hv : len.toInt32 = v) (kk : gz_W b p l e R s m args below meth c G nL QQ ce sl σ (pc + 1) lv (.int v :: st) z) : gz_W b p l e R s m args below meth c G nL QQ ce sl σ pc lv (.ref (gz_ad b G t i) :: st) z := by
  intro o ho H locs ls hH hS hl
  exact W.alen C.1 C.2.1 (gz_arr hH hi hkd) ((C.2.2.2.2.2.2.2.1 ek hek).1 len _) (by show (arrV _ _ _).slots.size.toInt32 = _; rw [arrV_size]; exact hv) rfl rfl d (kk o ho H locs ls hH hS hl)
theorem gz_iret (C : gz_X p s m meth c G cc own nL ret) {v : Int32} (hr : ret = some .int) (d : decode cc pc = .ok (.ireturn, 1)) : gz_W b p l e R s m args below meth c G nL (gz_Q b G below args s ce sl gz_ei) ce sl σ pc lv [.int v] (some (v, σ)) := by
  intro o ho H locs ls hH hS hl
  cases ho
  exact W.iret C.1 C.2.1 (C.2.2.2.2.1.trans hr) (fun t ht hW => ⟨rfl, by rw [ht]; exact hH, hS.1.F ht, fun hb => by rw [ht]; exact hS.2 hb⟩) hS.1.2.2 d (hlocks := C.2.2.2.2.2.1)
theorem gz_lret (C : gz_X p s m meth c G cc own nL ret) {v : Int64} (hr : ret = some .long) (d : decode cc pc = .ok (.lreturn, 1)) : gz_W b p l e R s m args below meth c G nL (gz_Q b G below args s ce sl gz_el) ce sl σ pc lv [.long v] (some (v, σ)) := by
  intro o ho H locs ls hH hS hl
  cases ho
  exact W.lret C.1 C.2.1 (C.2.2.2.2.1.trans hr) (fun t ht hW => ⟨rfl, by rw [ht]; exact hH, hS.1.F ht, fun hb => by rw [ht]; exact hS.2 hb⟩) hS.1.2.2 d (hlocks := C.2.2.2.2.2.1)
theorem gz_vret (C : gz_X p s m meth c G cc own nL ret) (hr : ret = none) (d : decode cc pc = .ok (.return_, 1)) : gz_W b p l e R s m args below meth c G nL (gz_Q b G below args s ce sl gz_eu) ce sl σ pc lv [] (some σ) := by
  intro o ho H locs ls hH hS hl
  cases ho
  exact W.vret C.1 C.2.1 (C.2.2.2.2.1.trans hr) (fun t ht hW => ⟨rfl, by rw [ht]; exact hH, hS.1.F ht, fun hb => by rw [ht]; exact hS.2 hb⟩) hS.1.2.2 d (hlocks := C.2.2.2.2.2.1)
theorem gz_Wzret {H : Heap} {locs : List Loc} {Qc : Array Value → State → Outcome → State → Prop} {free : Addr → Prop} {v : Int32} (hexec : p.tables.exec = Jvm.exec) (hb : c.code = cc) (hr : meth.sig.returnType = some .boolean) (hlocks : meth.locks = false)
    (hq : ∀ t : State, t.heap = H → s.WarmedH t.vm → Qc args s (.returned (some (.int (v &&& 1)))) t) (hf : ∀ q ∈ locs, free q.base) {ls : Array Slot} (hdg : decode cc pc = .ok (.ireturn, 1)) : W p l e R s m args below meth c H locs ce sl (MQ below Qc args s ce sl free) (F0 m pc ls [.int v]) := by
  intro T hT X
  obtain ⟨fs, hret, hrun, hended, hW, hframe⟩ := X.leave (v := some (.int (v &&& 1))) (hlocks := hlocks) (fun h => by rw [hr] at h; cases h)
  have hmeth' : T.vm.method? m = some meth := X.method'
  have hn : narrow .boolean (.int v) = .int (v &&& 1) := rfl
  refine ⟨T.setFrames fs, ?_, .returned (some (.int (v &&& 1))), hrun, hended, hq _ hT hW, locs, ⟨⟨_, rfl⟩, hW, hframe⟩, hf⟩
  jvm_step X.here [X.here.top, hexec, hb, hdg, hmeth', hr, hn]
  (try refine ⟨rfl, ?_⟩); (try refine ⟨rfl, ?_⟩)
  first | (intro acts; rw [hret _ acts rfl rfl rfl]) | rw [hret _ _ rfl rfl rfl]
  exact Steps.refl _
theorem gz_zret (C : gz_X p s m meth c G cc own nL ret) {v : Int32} (hr : ret = some .boolean) (d : decode cc pc = .ok (.ireturn, 1)) : gz_W b p l e R s m args below meth c G nL (gz_Q b G below args s ce sl gz_ei) ce sl σ pc lv [.int v] (some ((v &&& 1 : Int32), σ)) := by
  intro o ho H locs ls hH hS hl
  cases ho
  exact gz_Wzret C.1 C.2.1 (C.2.2.2.2.1.trans hr) C.2.2.2.2.2.1 (fun t ht hW => ⟨rfl, by rw [ht]; exact hH, hS.1.F ht, fun hb => by rw [ht]; exact hS.2 hb⟩) hS.1.2.2 d
theorem gz_aret (C : gz_X p s m meth c G cc own nL ret) {t : Nat} {C1 : String} {r : Option Nat} (hr : ret = some (.object C1)) (d : decode cc pc = .ok (.areturn, 1)) : gz_W b p l e R s m args below meth c G nL (gz_Q b G below args s ce sl (gz_er b G t)) ce sl σ pc lv [gz_rv b G t r] (some (r, σ)) := by
  intro o ho H locs ls hH hS hl
  cases ho
  exact W.aret C.1 C.2.1 (C.2.2.2.2.1.trans hr) (Or.inl ⟨_, rfl⟩) (gz_rv_or b G t r) (fun t ht hW => ⟨rfl, by rw [ht]; exact hH, hS.1.F ht, fun hb => by rw [ht]; exact hS.2 hb⟩) hS.1.2.2 d (hlocks := C.2.2.2.2.2.1)
end GZ
end
section
/-- a contract: from the world σ with these arguments the method returns, with q; nothing outside its side changes -/
def gz_M (l : Launch) (b : Bool) (G : gz_G) (y : MethodName) (bytes : ByteArray) (maxL : Nat) (ret : Option FieldType) (rm : Room) (av : List Value) (σ : gz_S) (q : Option Value × gz_S) (mc ms : Nat) : Prop :=
  Met l y [.code y bytes maxL ret] rm (va_Pc av (fun U => gz_H b G σ U.heap ∧ gz_K G U)) (gz_Qc b G q) mc ms (gz_A b G)
theorem gz_blind {b : Bool} {G : gz_G} {av : List Value} {σ : gz_S} : FrameBlind (va_Pc av (fun U => gz_H b G σ U.heap ∧ gz_K G U)) := fun a U g mk h => ⟨h.1, h.2.1, gz_K.moved (s := U) (U := U.calling g mk a) (State.WarmedH.refl U) h.2.2⟩
theorem gz_enter {l : Launch} {b : Bool} {G : gz_G} {y : MethodName} {bytes : ByteArray} {maxL : Nat} {rt : Option FieldType} {rm : Room} {av : List Value} {σ : gz_S} {mc ms : Nat} {α : Type} {x : Option α} {en : α → Option Value × gz_S} (own : String) (how : y.cls = own) (hy : plainName y.cls = true) (hlen : (lg_sl av).length ≤ maxL)
    (body : ∀ (p : Program) (e : Env) (s : State) (m : MethodId) (args : Array Value) (below : List Frame) (meth : Method) (c : Code), gz_X p s m meth c G bytes own maxL rt → gz_W b p l e rm s m args below meth c G maxL (gz_Q b G below args s mc ms en) 0 0 σ 0 (lv_args 0 av) [] x) : ∀ o, x = some o → gz_M l b G y bytes maxL rt rm av σ (en o) mc ms := by
  intro o ho
  refine Met.ofW (cc := bytes) (maxL := maxL) (ret := rt) hy rfl ?_
  intro p e s m args below meth c s₁ B hml hv
  obtain ⟨rfl, hH, hK⟩ := hv
  have hl := lv_entry av hlen
  rw [lg_entry_eq]
  exact body p e s m _ below meth c ⟨B.exec, B.bytes, hml, how ▸ findClass_of_methodNamed B.named, B.returns, B.notSynchronized, hK⟩ o ho s.heap [] _ hH ⟨va_S.rf, fun _ => rfl⟩ hl
theorem gz_enterF {l : Launch} {b : Bool} {G : gz_G} {y : MethodName} {bytes : ByteArray} {maxL : Nat} {rt : Option FieldType} {rm : Room} {av : List Value} {σ : gz_S} {mc ms : Nat} {α : Type} {x : Option α} {en : α → Option Value × gz_S} (own : String) (how : y.cls = own) (hy : plainFor y = true) (hlen : (lg_sl av).length ≤ maxL)
    (body : ∀ (p : Program) (e : Env) (s : State) (m : MethodId) (args : Array Value) (below : List Frame) (meth : Method) (c : Code), gz_X p s m meth c G bytes own maxL rt → gz_W b p l e rm s m args below meth c G maxL (gz_Q b G below args s mc ms en) 0 0 σ 0 (lv_args 0 av) [] x) : ∀ o, x = some o → gz_M l b G y bytes maxL rt rm av σ (en o) mc ms := by
  intro o ho
  refine va_MetF (cc := bytes) (maxL := maxL) (ret := rt) hy rfl ?_
  intro p e s m args below meth c s₁ B hml hv
  obtain ⟨rfl, hH, hK⟩ := hv
  have hl := lv_entry av hlen
  rw [lg_entry_eq]
  exact body p e s m _ below meth c ⟨B.exec, B.bytes, hml, how ▸ findClass_of_methodNamed B.named, B.returns, B.notSynchronized, hK⟩ o ho s.heap [] _ hH ⟨va_S.rf, fun _ => rfl⟩ hl
/-- what the tables say of a callee -/
def gz_mw (y : MethodName) (bytes : ByteArray) (maxL : Nat) (ret : Option FieldType) (n : Nat) : Prop :=
  Cond.code y bytes maxL ret ∈ lw_tbl ∧ Cond.initialized y.cls ∈ lw_tbl ∧ (y.cls ≠ "java/lang/invoke/MethodHandle" ∧ y.cls ≠ "java/lang/invoke/VarHandle") ∧ (parseMethodDescriptor y.desc).map (fun d => d.parameters.length) = some n
def gz_mv (y : MethodName) : Prop := Cond.instanceMethod y ∈ lw_tbl ∧ Cond.selects y.cls y y ∈ lw_tbl
section GZC
variable {b : Bool} {p : Program} {l : Launch} {e : Env} {R : Room} {s : State} {m : MethodId} {args : Array Value} {below : List Frame} {meth : Method} {c : Code} {G : gz_G} {nL : Nat} {α : Type} {QQ : α → State → Prop} {ce sl : Nat} {σ : gz_S} {pc : Nat} {lv : List (Nat × Value)} {st : List Value} {z z1 z2 : Option α} {cc : ByteArray} {own : String} {ret : Option FieldType}
/-- a call that comes back with what x says -/
def gz_run (b : Bool) (p : Program) (l : Launch) (e : Env) (R : Room) (s : State) (m : MethodId) (args : Array Value) (below : List Frame) (meth : Method) (c : Code) (G : gz_G) (nL : Nat) (ce sl : Nat) (σ : gz_S) (pc : Nat) (st0 rest : List Value) (mc ms : Nat) {β : Type} (x : Option β) (en : β → Option Value × gz_S) : Prop :=
  ∀ o, x = some o → ∀ (H : Heap) (locs : List Loc) (ls : Array Slot), gz_H b G σ H → ls.size = nL → va_Run p l e R s m args below meth c H locs ce sl mc ms (F0 m pc ls st0) rest (gz_Qc b G (en o) #[]) (gz_A b G)
variable {y : MethodName} {bytes : ByteArray} {maxL n index mc ms : Nat} {rt : Option FieldType} {rm : Room} {As rest st0 : List Value} {β : Type} {x : Option β} {en : β → Option Value × gz_S}
abbrev gz_ok (R rm : Room) (maxL ce sl mc ms : Nat) : Prop := rm.cells = mc ∧ rm.slots = ms ∧ rm.frames + 1 ≤ R.frames ∧ 8 + (maxL + 11) + rm.locals ≤ R.locals ∧ ce + mc ≤ R.cells ∧ sl + ms ≤ R.slots
theorem gz_mw.len (h : gz_mw y bytes maxL rt n) : ∀ sig, parseMethodDescriptor y.desc = some sig → n = sig.parameters.length := fun sig h1 => by
  have h2 := h.2.2.2
  rw [h1] at h2
  exact (Option.some.inj h2).symm
theorem gz_mw.pay (C : gz_X p s m meth c G cc own nL ret) (h : gz_mw y bytes maxL rt n) : ∀ w ∈ [Cond.code y bytes maxL rt], ∀ (a' : Array Value) (U : State), s.WarmedH U.vm → w.before a' U = true := fun w hw a' U hW => by
  have e1 : w = Cond.code y bytes maxL rt := by simpa using hw
  subst e1
  exact gz_warm rfl hW (C.word (args := #[]) h.1 rfl)
theorem gz_mw.B (C : gz_X p s m meth c G cc own nL ret) (h : gz_mw y bytes maxL rt n) (hl : Cond.methodLink own index y ∈ lw_tbl) (ho : gz_ok R rm maxL ce sl mc ms) : CallB R s args own index y bytes maxL rt [.code y bytes maxL rt] rm mc ms n :=
  ⟨ho.1, ho.2.1, ho.2.2.1, ho.2.2.2.1, h.pay C, List.mem_cons_self, C.word h.1 rfl, C.word h.2.1 rfl, h.2.2.1, h.len, C.word hl rfl⟩
theorem gz_mw.N {host : String} (C : gz_X p s m meth c G cc own nL ret) (h : gz_mw y bytes maxL rt n) (hl : Cond.methodLinkNest own index y host ∈ lw_tbl) (ho : gz_ok R rm maxL ce sl mc ms) : va_CN R s args own index y host bytes maxL rt [.code y bytes maxL rt] rm mc ms n :=
  ⟨⟨ho.1, ho.2.1, ho.2.2.1, ho.2.2.2.1, h.pay C, List.mem_cons_self⟩, C.word h.1 rfl, C.word h.2.1 rfl, h.2.2.1, h.len, C.word hl rfl⟩
theorem gz_fix (C : gz_X p s m meth c G cc own nL ret) : CallFix p m c cc nL s args [] own := ⟨C.1, C.2.1, C.2.2.1, C.2.2.2.1, fun w h => by cases h⟩
theorem gz_preV {t i ci : Nat} {q : vw_C} {H : Heap} (C : gz_X p s m meth c G cc own nL ret) (hH : gz_H b G σ H) (hi : i < gz_ct b σ.2.2 t) (hq : vwCl[ci]? = some q) (hkd : gz_kd b t = .inl (ci, q.2.2)) : PreV s H q.1 (gz_ad b G t i) (va_Pc (.ref (gz_ad b G t i) :: As) (fun U => gz_H b G σ U.heap ∧ gz_K G U)) As := by
  obtain ⟨cell, q1, q2, q3, q4⟩ := gz_obj hH hi hkd
  exact ⟨gz_blind, ⟨cell, q1, by rw [q3]; rfl, by rw [q2]; exact (C.2.2.2.2.2.2.1 ci q hq).2.1⟩, fun U hU hW => ⟨rfl, by rw [hU]; exact hH, C.2.2.2.2.2.2.moved hW⟩⟩
theorem gz_preS {H : Heap} {av : List Value} (C : gz_X p s m meth c G cc own nL ret) (hH : gz_H b G σ H) : PreS s H (va_Pc av (fun U => gz_H b G σ U.heap ∧ gz_K G U)) av :=
  ⟨gz_blind, fun U hU hW => ⟨rfl, by rw [hU]; exact hH, C.2.2.2.2.2.2.moved hW⟩⟩
theorem gz_runV {t i ci : Nat} {q : vw_C} (C : gz_X p s m meth c G cc own nL ret) (d : decode cc pc = .ok (.invokevirtual index, 3)) (hl : Cond.methodLink own index y ∈ lw_tbl) (hw : gz_mw y bytes maxL rt n) (hv : gz_mv y) (hM : ∀ o, x = some o → gz_M l b G y bytes maxL rt rm (.ref (gz_ad b G t i) :: As) σ (en o) mc ms)
    (hi : i < gz_ct b σ.2.2 t) (hq : vwCl[ci]? = some q) (hkd : gz_kd b t = .inl (ci, q.2.2)) (hC : q.1 = y.cls) (hn : As.length = n) (hst : st0 = As.reverse ++ .ref (gz_ad b G t i) :: rest) (hr : (rest.map fun v => v.category).sum ≤ 8) (ho : gz_ok R rm maxL ce sl mc ms) : gz_run b p l e R s m args below meth c G nL ce sl σ pc st0 rest mc ms x en := by
  intro o hx H locs ls hH hz
  have h1 := gz_preV (As := As) C hH hi hq hkd
  rw [hC] at h1
  exact va_runV (gz_fix C) (hM o hx) ⟨hw.B C hl ho, C.word hv.1 rfl, C.word hv.2 rfl⟩ h1 rfl hn hz hst (lv_room hr) d ⟨ho.2.2.2.2.1, ho.2.2.2.2.2⟩
theorem gz_runVN {t i ci : Nat} {q : vw_C} {host : String} (C : gz_X p s m meth c G cc own nL ret) (d : decode cc pc = .ok (.invokevirtual index, 3)) (hl : Cond.methodLinkNest own index y host ∈ lw_tbl) (hw : gz_mw y bytes maxL rt n) (hv : gz_mv y) (hM : ∀ o, x = some o → gz_M l b G y bytes maxL rt rm (.ref (gz_ad b G t i) :: As) σ (en o) mc ms)
    (hi : i < gz_ct b σ.2.2 t) (hq : vwCl[ci]? = some q) (hkd : gz_kd b t = .inl (ci, q.2.2)) (hC : q.1 = y.cls) (hn : As.length = n) (hst : st0 = As.reverse ++ .ref (gz_ad b G t i) :: rest) (hr : (rest.map fun v => v.category).sum ≤ 8) (ho : gz_ok R rm maxL ce sl mc ms) : gz_run b p l e R s m args below meth c G nL ce sl σ pc st0 rest mc ms x en := by
  intro o hx H locs ls hH hz
  have h1 := gz_preV (As := As) C hH hi hq hkd
  rw [hC] at h1
  exact va_runVN (gz_fix C) (hM o hx) ⟨hw.N C hl ho, C.word hv.1 rfl, C.word hv.2 rfl⟩ h1 rfl hn hz hst (lv_room hr) d ⟨ho.2.2.2.2.1, ho.2.2.2.2.2⟩
theorem gz_runS (C : gz_X p s m meth c G cc own nL ret) (d : decode cc pc = .ok (.invokestatic index, 3)) (hl : Cond.methodLink own index y ∈ lw_tbl) (hw : gz_mw y bytes maxL rt n) (hv : Cond.static y ∈ lw_tbl) (hM : ∀ o, x = some o → gz_M l b G y bytes maxL rt rm As σ (en o) mc ms)
    (hn : As.length = n) (hst : st0 = As.reverse ++ rest) (hr : (rest.map fun v => v.category).sum ≤ 8) (ho : gz_ok R rm maxL ce sl mc ms) : gz_run b p l e R s m args below meth c G nL ce sl σ pc st0 rest mc ms x en := by
  intro o hx H locs ls hH hz
  exact va_runS (As := As) (gz_fix C) (hM o hx) ⟨hw.B C hl ho, C.word hv rfl⟩ (gz_preS C hH) rfl hn hz hst (lv_room hr) d ⟨ho.2.2.2.2.1, ho.2.2.2.2.2⟩
theorem gz_runSN {host : String} (C : gz_X p s m meth c G cc own nL ret) (d : decode cc pc = .ok (.invokestatic index, 3)) (hl : Cond.methodLinkNest own index y host ∈ lw_tbl) (hw : gz_mw y bytes maxL rt n) (hv : Cond.static y ∈ lw_tbl) (hM : ∀ o, x = some o → gz_M l b G y bytes maxL rt rm As σ (en o) mc ms)
    (hn : As.length = n) (hst : st0 = As.reverse ++ rest) (hr : (rest.map fun v => v.category).sum ≤ 8) (ho : gz_ok R rm maxL ce sl mc ms) : gz_run b p l e R s m args below meth c G nL ce sl σ pc st0 rest mc ms x en := by
  intro o hx H locs ls hH hz
  exact va_runSN (As := As) (gz_fix C) (hM o hx) ⟨hw.N C hl ho, C.word hv rfl, trivial⟩ (gz_preS C hH) rfl hn hz hst (lv_room hr) d ⟨ho.2.2.2.2.1, ho.2.2.2.2.2⟩
theorem gz_goes {v : Option Value} {u : gz_S} (h : gz_run b p l e R s m args below meth c G nL ce sl σ pc st0 rest mc ms x en) {o' : β} (hx : x = some o') (he : en o' = (v, u)) (k : gz_W b p l e R s m args below meth c G nL QQ (ce + mc) (sl + ms) u (pc + 3) lv (v.toList ++ rest) z) : gz_W b p l e R s m args below meth c G nL QQ ce sl σ pc lv st0 z := by
  intro o ho H locs ls hH hS hl T hT X
  obtain ⟨v', st₀, t, T', L, h0, X', hL, e1, e2, ⟨hv, hb, ⟨hz, hk⟩, hsz⟩, stp⟩ := h o' hx H locs ls hH hl.1 T hT X
  cases hv
  rw [he] at stp hb
  rw [h0] at hz hk hsz
  obtain ⟨t2, a1, b1⟩ := k o ho T'.heap (locs ++ L) ls (by rw [e1]; exact hb)
    ⟨⟨Nat.le_trans hS.1.1 (by rw [e1]; exact hz), fun q h1 h2 => by rw [e1, hk q (Nat.lt_of_lt_of_le h1 hS.1.1) h2]; exact hS.1.2.1 q h1 h2, fun q hq => by
      rcases List.mem_append.mp hq with h | h
      · exact hS.1.2.2 q h
      · exact hL q h⟩, fun hb' => by rw [e1, hsz hb']; exact hS.2 hb'⟩ hl T' rfl X'
  exact ⟨t2, stp t2 a1, b1⟩
theorem gz_ki {x : Option (Int32 × gz_S)} {f : Int32 → gz_S → Option α} (h : gz_run b p l e R s m args below meth c G nL ce sl σ pc st0 rest mc ms x gz_ei) (k : ∀ (r : Int32) (u : gz_S), gz_W b p l e R s m args below meth c G nL QQ (ce + mc) (sl + ms) u (pc + 3) lv (.int r :: rest) (f r u)) : gz_W b p l e R s m args below meth c G nL QQ ce sl σ pc lv st0 (gz_call x f) := by
  cases x with
  | none => exact fun o h => by cases h
  | some o => exact gz_goes h rfl rfl (k o.1 o.2)
theorem gz_kl {x : Option (Int64 × gz_S)} {f : Int64 → gz_S → Option α} (h : gz_run b p l e R s m args below meth c G nL ce sl σ pc st0 rest mc ms x gz_el) (k : ∀ (r : Int64) (u : gz_S), gz_W b p l e R s m args below meth c G nL QQ (ce + mc) (sl + ms) u (pc + 3) lv (.long r :: rest) (f r u)) : gz_W b p l e R s m args below meth c G nL QQ ce sl σ pc lv st0 (gz_call x f) := by
  cases x with
  | none => exact fun o h => by cases h
  | some o => exact gz_goes h rfl rfl (k o.1 o.2)
theorem gz_kr {t : Nat} {x : Option (Option Nat × gz_S)} {f : Option Nat → gz_S → Option α} (h : gz_run b p l e R s m args below meth c G nL ce sl σ pc st0 rest mc ms x (gz_er b G t)) (k : ∀ (r : Option Nat) (u : gz_S), gz_W b p l e R s m args below meth c G nL QQ (ce + mc) (sl + ms) u (pc + 3) lv (gz_rv b G t r :: rest) (f r u)) : gz_W b p l e R s m args below meth c G nL QQ ce sl σ pc lv st0 (gz_call x f) := by
  cases x with
  | none => exact fun o h => by cases h
  | some o => exact gz_goes h rfl rfl (k o.1 o.2)
theorem gz_kv {x : Option gz_S} {f : gz_S → Option α} (h : gz_run b p l e R s m args below meth c G nL ce sl σ pc st0 rest mc ms x gz_eu) (k : ∀ (u : gz_S), gz_W b p l e R s m args below meth c G nL QQ (ce + mc) (sl + ms) u (pc + 3) lv rest (f u)) : gz_W b p l e R s m args below meth c G nL QQ ce sl σ pc lv st0 (gz_then x f) := by
  cases x with
  | none => exact fun o h => by cases h
  | some o => exact gz_goes h rfl rfl (k o)
end GZC
end
section
theorem gz_hx0 (n : Nat) : 0 < gz_ct false n 0 := Nat.zero_lt_one
theorem gz_hx1 (n : Nat) : 0 < gz_ct false n 1 := Nat.zero_lt_one
theorem gz_hx2 (n : Nat) : 0 < gz_ct false n 2 := Nat.zero_lt_one
theorem gz_hx3 (n : Nat) : 0 < gz_ct false n 3 := Nat.zero_lt_one
theorem gz_hx4 (n : Nat) : 0 < gz_ct false n 4 := Nat.zero_lt_one
theorem gz_hx5 (n : Nat) : 0 < gz_ct false n 5 := Nat.zero_lt_one
theorem gz_hx6 (n : Nat) {i : Nat} (h : i < 13) : i < gz_ct false n 6 := h
theorem gz_hx7 (n : Nat) {i : Nat} (h : i < 13) : i < gz_ct false n 7 := h
theorem gz_hx8 (n : Nat) {i : Nat} (h : i < 104) : i < gz_ct false n 8 := h
theorem gz_hx9 (n : Nat) {i : Nat} (h : i < 104) : i < gz_ct false n 9 := h
theorem gz_hx10 (n : Nat) : 0 < gz_ct false n 10 := Nat.zero_lt_one
theorem gz_hx11 (n : Nat) : 0 < gz_ct false n 11 := Nat.zero_lt_one
theorem gz_hx12 (n : Nat) : 0 < gz_ct false n 12 := Nat.zero_lt_one
theorem gz_hx13 (n : Nat) : 0 < gz_ct false n 13 := Nat.zero_lt_one
theorem gz_hx14 (n : Nat) {i : Nat} (h : i < 61) : i < gz_ct false n 14 := h
theorem gz_hx15 (n : Nat) {i : Nat} (h : i < 61) : i < gz_ct false n 15 := h
theorem gz_hx16 (n : Nat) {i : Nat} (h : i < 61) : i < gz_ct false n 16 := h
theorem gz_hx17 (n : Nat) {i : Nat} (h : i < 61) : i < gz_ct false n 17 := h
theorem gz_hx18 (n : Nat) {i : Nat} (h : i < 61) : i < gz_ct false n 18 := h
theorem gz_hx19 (n : Nat) : 0 < gz_ct false n 19 := Nat.zero_lt_one
theorem gz_hx20 (n : Nat) {i : Nat} (h : i < 40) : i < gz_ct false n 20 := h
theorem gz_hx21 (n : Nat) {i : Nat} (h : i < 40) : i < gz_ct false n 21 := h
theorem gz_hx22 (n : Nat) : 0 < gz_ct false n 22 := Nat.zero_lt_one
theorem gz_hx23 (n : Nat) : 0 < gz_ct false n 23 := Nat.zero_lt_one
theorem gz_hx24 (n : Nat) : 0 < gz_ct false n 24 := Nat.zero_lt_one
theorem gz_hx25 (n : Nat) : 0 < gz_ct false n 25 := Nat.zero_lt_one
theorem gz_hx26 (n : Nat) : 0 < gz_ct false n 26 := Nat.zero_lt_one
theorem gz_hx27 (n : Nat) : 0 < gz_ct false n 27 := Nat.zero_lt_one
theorem gz_hx28 (n : Nat) : 0 < gz_ct false n 28 := Nat.zero_lt_one
theorem gz_hx29 (n : Nat) : 0 < gz_ct false n 29 := Nat.zero_lt_one
theorem gz_hx30 (n : Nat) : 0 < gz_ct false n 30 := Nat.zero_lt_one
theorem gz_hm0 (n : Nat) : 0 < gz_ct true n 0 := Nat.zero_lt_one
theorem gz_hm1 (n : Nat) : 0 < gz_ct true n 1 := Nat.zero_lt_one
theorem gz_hm2 (n : Nat) : 0 < gz_ct true n 2 := Nat.zero_lt_one
theorem gz_hm3 (n : Nat) : 0 < gz_ct true n 3 := Nat.zero_lt_one
theorem gz_hm4 (n : Nat) : 0 < gz_ct true n 4 := Nat.zero_lt_one
theorem gz_hm5 (n : Nat) : 0 < gz_ct true n 5 := Nat.zero_lt_one
theorem gz_hm6 (n : Nat) : 0 < gz_ct true n 6 := Nat.zero_lt_one
theorem gz_hm7 (n : Nat) : 0 < gz_ct true n 7 := Nat.zero_lt_one
theorem gz_hm8 (n : Nat) : 0 < gz_ct true n 8 := Nat.zero_lt_one
theorem gz_hm9 (n : Nat) : 0 < gz_ct true n 9 := Nat.zero_lt_one
theorem gz_hm10 (n : Nat) : 0 < gz_ct true n 10 := Nat.zero_lt_one
theorem gz_hm11 (n : Nat) : 0 < gz_ct true n 11 := Nat.zero_lt_one
theorem gz_hm12 (n : Nat) : 0 < gz_ct true n 12 := Nat.zero_lt_one
theorem gz_hm13 (n : Nat) : 0 < gz_ct true n 13 := Nat.zero_lt_one
theorem gz_hm14 (n : Nat) : 0 < gz_ct true n 14 := Nat.zero_lt_one
theorem gz_hm15 (n : Nat) : 0 < gz_ct true n 15 := Nat.zero_lt_one
theorem gz_hm16 (n : Nat) : 0 < gz_ct true n 16 := Nat.zero_lt_one
theorem gz_hm17 (n : Nat) : 0 < gz_ct true n 17 := Nat.zero_lt_one
theorem gz_hm18 (n : Nat) : 0 < gz_ct true n 18 := Nat.zero_lt_one
theorem gz_hm19 (n : Nat) : 0 < gz_ct true n 19 := Nat.zero_lt_one
theorem gz_hm20 (n : Nat) : 0 < gz_ct true n 20 := Nat.zero_lt_one
theorem gz_hm21 (n : Nat) : 0 < gz_ct true n 21 := Nat.zero_lt_one
theorem gz_hm22 (n : Nat) : 0 < gz_ct true n 22 := Nat.zero_lt_one
theorem gz_hm23 (n : Nat) : 0 < gz_ct true n 23 := Nat.zero_lt_one
theorem gz_hm24 (n : Nat) : 0 < gz_ct true n 24 := Nat.zero_lt_one
theorem gz_hm25 (n : Nat) : 0 < gz_ct true n 25 := Nat.zero_lt_one
theorem gz_hm26 (n : Nat) : 0 < gz_ct true n 26 := Nat.zero_lt_one
theorem gz_hm27 (n : Nat) : 0 < gz_ct true n 27 := Nat.zero_lt_one
theorem gz_hm28 (n : Nat) : 0 < gz_ct true n 28 := Nat.zero_lt_one
theorem gz_hm29 (n : Nat) : 0 < gz_ct true n 29 := Nat.zero_lt_one
theorem gz_hm30 (n : Nat) : 0 < gz_ct true n 30 := Nat.zero_lt_one
theorem gz_hm31 (n : Nat) : 0 < gz_ct true n 31 := Nat.zero_lt_one
theorem gz_hm32 (n : Nat) : 0 < gz_ct true n 32 := Nat.zero_lt_one
theorem gz_hm33 (n : Nat) : 0 < gz_ct true n 33 := Nat.zero_lt_one
theorem gz_hm34 (n : Nat) : 0 < gz_ct true n 34 := Nat.zero_lt_one
theorem gz_hm35 (n : Nat) : 0 < gz_ct true n 35 := Nat.zero_lt_one
theorem gz_hm36 (n : Nat) : 0 < gz_ct true n 36 := Nat.zero_lt_one
theorem gz_hm37 (n : Nat) : 0 < gz_ct true n 37 := Nat.zero_lt_one
theorem gz_hm38 (n : Nat) : 0 < gz_ct true n 38 := Nat.zero_lt_one
theorem gz_hm39 (n : Nat) : 0 < gz_ct true n 39 := Nat.zero_lt_one
theorem gz_hm40 (n : Nat) : 0 < gz_ct true n 40 := Nat.zero_lt_one
theorem gz_hm41 (n : Nat) : 0 < gz_ct true n 41 := Nat.zero_lt_one
theorem gz_hm42 (n : Nat) : 0 < gz_ct true n 42 := Nat.zero_lt_one
theorem gz_hm43 (n : Nat) : 0 < gz_ct true n 43 := Nat.zero_lt_one
theorem gz_h8 {f j : Nat} (hf : f < 13) (hj : j < 8) : 8 * f + j < 104 := by omega
theorem gk_bipush_100 : (Int8.ofInt 100).toInt32 = 100 := by decide
theorem gk_iconst_0 : Int32.ofInt 0 = 0 := by decide
theorem gk_iconst_1 : Int32.ofInt 1 = 1 := by decide
theorem gk_iconst_m1 : Int32.ofInt (-1) = (-1) := by decide
theorem fl_RX0_9 : Cond.fieldLink RX0 9 (TX0 0).1 (TX0 0).2.1 (TX0 0).2.2.1 ∈ lw_tbl := gz_in 329 (by decide +kernel)
theorem fl_RX0_15 : Cond.fieldLink RX0 15 (TX0 1).1 (TX0 1).2.1 (TX0 1).2.2.1 ∈ lw_tbl := gz_in 330 (by decide +kernel)
theorem fl_RX0_18 : Cond.fieldLink RX0 18 (TX0 2).1 (TX0 2).2.1 (TX0 2).2.2.1 ∈ lw_tbl := gz_in 331 (by decide +kernel)
theorem fl_RX0_22 : Cond.fieldLink RX0 22 (TX0 3).1 (TX0 3).2.1 (TX0 3).2.2.1 ∈ lw_tbl := gz_in 332 (by decide +kernel)
theorem fl_RX0_25 : Cond.fieldLink RX0 25 (TX0 4).1 (TX0 4).2.1 (TX0 4).2.2.1 ∈ lw_tbl := gz_in 333 (by decide +kernel)
theorem fl_RX0_29 : Cond.fieldLink RX0 29 (TX0 5).1 (TX0 5).2.1 (TX0 5).2.2.1 ∈ lw_tbl := gz_in 334 (by decide +kernel)
theorem fl_RX1_11 : Cond.fieldLink RX1 11 (TX1 0).1 (TX1 0).2.1 (TX1 0).2.2.1 ∈ lw_tbl := gz_in 239 (by decide +kernel)
theorem fl_RX1_26 : Cond.fieldLink RX1 26 (TX1 1).1 (TX1 1).2.1 (TX1 1).2.2.1 ∈ lw_tbl := gz_in 240 (by decide +kernel)
theorem fl_RX6_35 : Cond.fieldLink RX6 35 (TX6 3).1 (TX6 3).2.1 (TX6 3).2.2.1 ∈ lw_tbl := gz_in 176 (by decide +kernel)
theorem ml_RX0_32 : Cond.methodLink RX0 32 yJ9_min_7cf53 ∈ lw_tbl := gz_in 428 (by decide +kernel)
theorem ml_RX1_36 : Cond.methodLink RX1 36 yX6_waits ∈ lw_tbl := gz_in 692 (by decide +kernel)
theorem mw_J9_min_7cf53 : gz_mw yJ9_min_7cf53 cJ9_min_7cf53 2 (some .int) 2 := ⟨gz_in 430 (by decide +kernel), gz_in 16 (by decide +kernel), by decide, by decide +kernel⟩
theorem ms_J9_min_7cf53 : Cond.static yJ9_min_7cf53 ∈ lw_tbl := gz_in 429 (by decide +kernel)
theorem mw_X6_waits : gz_mw yX6_waits cX6_waits 1 (some .boolean) 0 := ⟨gz_in 640 (by decide +kernel), gz_in 7 (by decide +kernel), by decide, by decide +kernel⟩
theorem mv_X6_waits : gz_mv yX6_waits := ⟨gz_in 638 (by decide +kernel), gz_in 639 (by decide +kernel)⟩

def f_J9_min_7cf53 (a0 : Int32) (a1 : Int32) (σ : gz_S) : Option (Int32 × gz_S) :=
  if a1 < a0 then
  (some (a1, σ))
  else
  (some (a0, σ))
set_option maxHeartbeats 4000000 in
set_option maxRecDepth 100000 in
theorem c_J9_min_7cf53 (l : Launch) (G : gz_G) (b : Bool) (a0 : Int32) (a1 : Int32) (σ : gz_S) : ∀ o, f_J9_min_7cf53 a0 a1 σ = some o → gz_M l b G yJ9_min_7cf53 cJ9_min_7cf53 2 (some .int) { frames := 0, cells := 0, slots := 0, locals := 0 } [.int a0, .int a1] σ (gz_ei o) 0 0 := by
  refine gz_enterF RJ9 rfl (by decide +kernel) (Nat.le_of_ble_eq_true rfl) ?_
  intro p e s m args below meth c C
  refine gz_eqs (st' := []) (lv' := [(0, .int a0), (1, .int a1)]) rfl rfl ?_
  unfold f_J9_min_7cf53
  refine gz_iload_n C dJ9_min_7cf53_0 0 rfl ?_
  refine gz_iload_n C dJ9_min_7cf53_1 1 rfl ?_
  refine gz_icmp_gt (tgt := 9) C dJ9_min_7cf53_2 (by decide) ?_ ?_
  · skip
    refine gz_iload_n C dJ9_min_7cf53_9 1 rfl ?_
    exact gz_iret C rfl dJ9_min_7cf53_10
  · skip
    refine gz_iload_n C dJ9_min_7cf53_5 0 rfl ?_
    refine gz_goto (tgt := 10) C dJ9_min_7cf53_6 (by decide) ?_
    exact gz_iret C rfl dJ9_min_7cf53_10

def f_X6_waits (a0 : Nat) (σ : gz_S) : Option (Int32 × gz_S) :=
  if (σ.1 14 a0 3) = (-1) then
  (some ((1 : Int32) &&& 1, σ))
  else
  (some ((0 : Int32) &&& 1, σ))
set_option maxHeartbeats 4000000 in
set_option maxRecDepth 100000 in
theorem c_X6_waits (l : Launch) (G : gz_G) (a0 : Nat) (h0 : a0 < 61) (σ : gz_S) : ∀ o, f_X6_waits a0 σ = some o → gz_M l false G yX6_waits cX6_waits 1 (some .boolean) { frames := 0, cells := 0, slots := 0, locals := 0 } [.ref (gz_ad false G 14 a0)] σ (gz_ei o) 0 0 := by
  refine gz_enter RX6 rfl (by decide) (Nat.le_of_ble_eq_true rfl) ?_
  intro p e s m args below meth c C
  refine gz_eqs (st' := []) (lv' := [(0, .ref (gz_ad false G 14 a0))]) rfl rfl ?_
  unfold f_X6_waits
  refine gz_aload_n C dX6_waits_0 0 rfl ?_
  refine gz_get C (t := 14) (k := 3) (ci := 6) (q := (RX6, TX6, 15)) (v := .int (σ.1 14 a0 3)) dX6_waits_1 fl_RX6_35 (gz_hx14 _ h0) rfl rfl (by decide) rfl ?_
  refine gz_iconst C dX6_waits_4 gk_iconst_m1 ?_
  refine gz_icmp_ne (tgt := 12) C dX6_waits_5 (by decide) ?_ ?_
  · skip
    refine gz_iconst C dX6_waits_12 gk_iconst_0 ?_
    exact gz_zret C rfl dX6_waits_13
  · skip
    refine gz_iconst C dX6_waits_8 gk_iconst_1 ?_
    refine gz_goto (tgt := 13) C dX6_waits_9 (by decide) ?_
    exact gz_zret C rfl dX6_waits_13

def f_X1_at (a1 : Int32) (σ : gz_S) : Option (Option Nat × gz_S) :=
  if a1 < 0 then
  (some (none, σ))
  else
  (if a1 < (σ.1 10 0 1) then
  (gz_ix a1 61 (fun n1 =>
  some ((some n1), σ)))
  else
  (some (none, σ)))
set_option maxHeartbeats 4000000 in
set_option maxRecDepth 100000 in
theorem c_X1_at (l : Launch) (G : gz_G) (a1 : Int32) (σ : gz_S) : ∀ o, f_X1_at a1 σ = some o → gz_M l false G yX1_at cX1_at 2 (some (.object "GazetteHouse$Notice")) { frames := 0, cells := 0, slots := 0, locals := 0 } [.ref (gz_ad false G 10 0), .int a1] σ (gz_er false G 14 o) 0 0 := by
  refine gz_enter RX1 rfl (by decide) (Nat.le_of_ble_eq_true rfl) ?_
  intro p e s m args below meth c C
  refine gz_eqs (st' := []) (lv' := [(0, .ref (gz_ad false G 10 0)), (1, .int a1)]) rfl rfl ?_
  unfold f_X1_at
  refine gz_iload_n C dX1_at_0 1 rfl ?_
  refine gz_if_lt (tgt := 12) C dX1_at_1 (by decide) ?_ ?_
  · skip
    refine gz_null C dX1_at_12 ?_
    refine gz_goto (tgt := 22) C dX1_at_13 (by decide) ?_
    exact gz_aret (t := 14) (r := none) C rfl dX1_at_22
  · skip
    refine gz_iload_n C dX1_at_4 1 rfl ?_
    refine gz_aload_n C dX1_at_5 0 rfl ?_
    refine gz_get C (t := 10) (k := 1) (ci := 1) (q := (RX1, TX1, 6)) (v := .int (σ.1 10 0 1)) dX1_at_6 fl_RX1_26 (gz_hx10 _) rfl rfl (by decide) rfl ?_
    refine gz_icmp_lt (tgt := 16) C dX1_at_9 (by decide) ?_ ?_
    · skip
      refine gz_aload_n C dX1_at_16 0 rfl ?_
      refine gz_get C (t := 10) (k := 0) (ci := 1) (q := (RX1, TX1, 6)) (v := .ref (gz_ad false G 11 0)) dX1_at_17 fl_RX1_11 (gz_hx10 _) rfl rfl (by decide) rfl ?_
      refine gz_iload_n C dX1_at_20 1 rfl ?_
      refine gz_aald7 C (t := 11) dX1_at_21 (gz_hx11 _) rfl (fun n1 hn1 => ?_)
      exact gz_aret (t := 14) (r := (some n1)) C rfl dX1_at_22
    · skip
      refine gz_null C dX1_at_12 ?_
      refine gz_goto (tgt := 22) C dX1_at_13 (by decide) ?_
      exact gz_aret (t := 14) (r := none) C rfl dX1_at_22

def f_X1_countWaiting_J30 (v2 : Int32) (rec4 : Int32 → Int32 → gz_S → Option (Int32 × gz_S)) : Int32 → Int32 → gz_S → Option (Int32 × gz_S) := fun x7 x8 σ9 =>
  gz_v (x7 + x8) (fun v10 =>
  rec4 v10 (v2 + 1) σ9)
def f_X1_countWaiting_L4 : (Int32 → Int32 → gz_S → Option (Int32 × gz_S)) → Int32 → Int32 → gz_S → Option (Int32 × gz_S) := fun rec4 v1 v2 σ3 =>
  if (σ3.1 10 0 1) ≤ v2 then
  (some (v1, σ3))
  else
  (gz_ix v2 61 (fun n4 =>
  gz_call (f_X6_waits n4 σ3) (fun r6 σ5 =>
  gz_j2 (f_X1_countWaiting_J30 v2 rec4) (fun j30 =>
  if r6 = 0 then
  (j30 v1 0 σ5)
  else
  (j30 v1 1 σ5)))))
def f_X1_countWaiting (σ : gz_S) : Option (Int32 × gz_S) :=
  gz_l2 (f_X1_countWaiting_L4) gz_fu 0 0 σ
set_option maxHeartbeats 4000000 in
set_option maxRecDepth 100000 in
theorem c_X1_countWaiting (l : Launch) (G : gz_G) (σ : gz_S) : ∀ o, f_X1_countWaiting σ = some o → gz_M l false G yX1_countWaiting cX1_countWaiting 3 (some .int) { frames := 1, cells := 0, slots := 0, locals := 20 } [.ref (gz_ad false G 10 0)] σ (gz_ei o) 0 0 := by
  refine gz_enter RX1 rfl (by decide) (Nat.le_of_ble_eq_true rfl) ?_
  intro p e s m args below meth c C
  refine gz_eqs (st' := []) (lv' := [(0, .ref (gz_ad false G 10 0))]) rfl rfl ?_
  unfold f_X1_countWaiting
  refine gz_iconst C dX1_countWaiting_0 gk_iconst_0 ?_
  refine gz_istore_n C (lv' := [(1, .int 0), (0, .ref (gz_ad false G 10 0))]) dX1_countWaiting_1 (by decide) rfl ?_
  refine gz_iconst C dX1_countWaiting_2 gk_iconst_0 ?_
  refine gz_istore_n C (lv' := [(2, .int 0), (1, .int 0), (0, .ref (gz_ad false G 10 0))]) dX1_countWaiting_3 (by decide) rfl ?_
  refine gz_lv (lv' := [(0, .ref (gz_ad false G 10 0)), (1, .int 0), (2, .int 0)]) [2, 1, 0] rfl ?_
  refine gz_l2_ind (P := fun v1 v2 σ3 x => gz_W false p l e ({ frames := 1, cells := 0, slots := 0, locals := 20 } : Room) s m args below meth c G 3 (gz_Q false G below args s 0 0 gz_ei) 0 0 σ3 4 [(0, .ref (gz_ad false G 10 0)), (1, .int v1), (2, .int v2)] [] x) (fun _ _ _ => gz_none) (fun rec4 hrec4 v1 v2 σ3 => ?_) gz_fu 0 0 σ
  unfold f_X1_countWaiting_L4
  refine gz_iload_n C dX1_countWaiting_4 2 rfl ?_
  refine gz_aload_n C dX1_countWaiting_5 0 rfl ?_
  refine gz_get C (t := 10) (k := 1) (ci := 1) (q := (RX1, TX1, 6)) (v := .int (σ3.1 10 0 1)) dX1_countWaiting_6 fl_RX1_26 (gz_hx10 _) rfl rfl (by decide) rfl ?_
  refine gz_icmp_ge (tgt := 38) C dX1_countWaiting_9 (by decide) ?_ ?_
  · skip
    refine gz_iload_n C dX1_countWaiting_38 1 rfl ?_
    exact gz_iret C rfl dX1_countWaiting_39
  · skip
    refine gz_iload_n C dX1_countWaiting_12 1 rfl ?_
    refine gz_aload_n C dX1_countWaiting_13 0 rfl ?_
    refine gz_get C (t := 10) (k := 0) (ci := 1) (q := (RX1, TX1, 6)) (v := .ref (gz_ad false G 11 0)) dX1_countWaiting_14 fl_RX1_11 (gz_hx10 _) rfl rfl (by decide) rfl ?_
    refine gz_iload_n C dX1_countWaiting_17 2 rfl ?_
    refine gz_aald7 C (t := 11) dX1_countWaiting_18 (gz_hx11 _) rfl (fun n4 hn4 => ?_)
    refine gz_ki (gz_runV (t := 14) (ci := 6) (q := (RX6, TX6, 15)) (As := []) (rest := [.int v1]) C dX1_countWaiting_19 ml_RX1_36 mw_X6_waits mv_X6_waits (c_X6_waits l G n4 hn4 σ3) (gz_hx14 _ hn4) rfl rfl rfl rfl rfl (Nat.le_of_ble_eq_true rfl) ⟨rfl, rfl, Nat.le_of_ble_eq_true rfl, Nat.le_of_ble_eq_true rfl, Nat.le_of_ble_eq_true rfl, Nat.le_of_ble_eq_true rfl⟩) (fun r6 σ5 => ?_)
    refine gz_j2_row (P := fun x7 x8 σ9 x => gz_W false p l e ({ frames := 1, cells := 0, slots := 0, locals := 20 } : Room) s m args below meth c G 3 (gz_Q false G below args s 0 0 gz_ei) 0 0 σ9 30 [(0, .ref (gz_ad false G 10 0)), (2, .int v2)] [.int x8, .int x7] x) (fun x7 x8 σ9 => ?_) (fun j30 hj30 => ?_)
    · unfold f_X1_countWaiting_J30
      refine gz_iadd C dX1_countWaiting_30 ?_
      refine gz_topI (fun v10 => ?_)
      refine gz_istore_n C (lv' := [(1, .int v10), (0, .ref (gz_ad false G 10 0)), (2, .int v2)]) dX1_countWaiting_31 (by decide) rfl ?_
      refine gz_iinc C (q := 2) (v := v2 + 1) (lv' := [(2, .int (v2 + 1)), (1, .int v10), (0, .ref (gz_ad false G 10 0))]) dX1_countWaiting_32 rfl rfl (by decide) rfl ?_
      refine gz_goto (tgt := 4) C dX1_countWaiting_35 (by decide) ?_
      refine gz_lv (lv' := [(0, .ref (gz_ad false G 10 0)), (1, .int v10), (2, .int (v2 + 1))]) [2, 1, 0] rfl ?_
      exact hrec4 v10 (v2 + 1) σ9
    · skip
      refine gz_if_eq (tgt := 29) C dX1_countWaiting_22 (by decide) ?_ ?_
      · skip
        refine gz_iconst C dX1_countWaiting_29 gk_iconst_0 ?_
        refine gz_lv (lv' := [(0, .ref (gz_ad false G 10 0)), (2, .int v2)]) [0, 2] rfl ?_
        exact hj30 v1 0 σ5
      · skip
        refine gz_iconst C dX1_countWaiting_25 gk_iconst_1 ?_
        refine gz_goto (tgt := 30) C dX1_countWaiting_26 (by decide) ?_
        refine gz_lv (lv' := [(0, .ref (gz_ad false G 10 0)), (2, .int v2)]) [0, 2] rfl ?_
        exact hj30 v1 1 σ5

def f_X0_push (a1 : Int32) (a2 : Int32) (a3 : Int64) (a4 : Int64) (σ : gz_S) : Option (gz_S) :=
  gz_ix (σ.1 26 0 4) 100 (fun n1 =>
  gz_w (gz_si σ 27 0 n1 a1) (fun σ2 =>
  gz_ix (σ2.1 26 0 4) 100 (fun n3 =>
  gz_w (gz_si σ2 28 0 n3 a2) (fun σ4 =>
  gz_ix (σ4.1 26 0 4) 100 (fun n5 =>
  gz_w (gz_sj σ4 29 0 n5 a3) (fun σ6 =>
  gz_ix (σ6.1 26 0 4) 100 (fun n7 =>
  gz_w (gz_sj σ6 30 0 n7 a4) (fun σ8 =>
  gz_w (gz_si σ8 26 0 4 (gz_rem ((σ8.1 26 0 4) + 1) 100)) (fun σ9 =>
  gz_call (f_J9_min_7cf53 ((σ9.1 26 0 5) + 1) 100 σ9) (fun r11 σ10 =>
  gz_w (gz_si σ10 26 0 5 r11) (fun σ12 =>
  some σ12)))))))))))
set_option maxHeartbeats 4000000 in
set_option maxRecDepth 100000 in
theorem c_X0_push (l : Launch) (G : gz_G) (a1 : Int32) (a2 : Int32) (a3 : Int64) (a4 : Int64) (σ : gz_S) : ∀ o, f_X0_push a1 a2 a3 a4 σ = some o → gz_M l false G yX0_push cX0_push 7 none { frames := 1, cells := 0, slots := 0, locals := 21 } [.ref (gz_ad false G 26 0), .int a1, .int a2, .long a3, .long a4] σ (gz_eu o) 0 0 := by
  refine gz_enter RX0 rfl (by decide) (Nat.le_of_ble_eq_true rfl) ?_
  intro p e s m args below meth c C
  refine gz_eqs (st' := []) (lv' := [(0, .ref (gz_ad false G 26 0)), (1, .int a1), (2, .int a2), (3, .long a3), (5, .long a4)]) rfl rfl ?_
  unfold f_X0_push
  refine gz_aload_n C dX0_push_0 0 rfl ?_
  refine gz_get C (t := 26) (k := 0) (ci := 0) (q := (RX0, TX0, 10)) (v := .ref (gz_ad false G 27 0)) dX0_push_1 fl_RX0_9 (gz_hx26 _) rfl rfl (by decide) rfl ?_
  refine gz_aload_n C dX0_push_4 0 rfl ?_
  refine gz_get C (t := 26) (k := 4) (ci := 0) (q := (RX0, TX0, 10)) (v := .int (σ.1 26 0 4)) dX0_push_5 fl_RX0_25 (gz_hx26 _) rfl rfl (by decide) rfl ?_
  refine gz_iload_n C dX0_push_8 1 rfl ?_
  refine gz_iast C (t := 27) dX0_push_9 (gz_hx27 _) rfl (fun n1 hn1 => ?_)
  refine gz_w_row (fun σ2 => ?_)
  refine gz_aload_n C dX0_push_10 0 rfl ?_
  refine gz_get C (t := 26) (k := 1) (ci := 0) (q := (RX0, TX0, 10)) (v := .ref (gz_ad false G 28 0)) dX0_push_11 fl_RX0_15 (gz_hx26 _) rfl rfl (by decide) rfl ?_
  refine gz_aload_n C dX0_push_14 0 rfl ?_
  refine gz_get C (t := 26) (k := 4) (ci := 0) (q := (RX0, TX0, 10)) (v := .int (σ2.1 26 0 4)) dX0_push_15 fl_RX0_25 (gz_hx26 _) rfl rfl (by decide) rfl ?_
  refine gz_iload_n C dX0_push_18 2 rfl ?_
  refine gz_iast C (t := 28) dX0_push_19 (gz_hx28 _) rfl (fun n3 hn3 => ?_)
  refine gz_w_row (fun σ4 => ?_)
  refine gz_aload_n C dX0_push_20 0 rfl ?_
  refine gz_get C (t := 26) (k := 2) (ci := 0) (q := (RX0, TX0, 10)) (v := .ref (gz_ad false G 29 0)) dX0_push_21 fl_RX0_18 (gz_hx26 _) rfl rfl (by decide) rfl ?_
  refine gz_aload_n C dX0_push_24 0 rfl ?_
  refine gz_get C (t := 26) (k := 4) (ci := 0) (q := (RX0, TX0, 10)) (v := .int (σ4.1 26 0 4)) dX0_push_25 fl_RX0_25 (gz_hx26 _) rfl rfl (by decide) rfl ?_
  refine gz_lload_n C dX0_push_28 3 rfl ?_
  refine gz_last C (t := 29) dX0_push_29 (gz_hx29 _) rfl (fun n5 hn5 => ?_)
  refine gz_w_row (fun σ6 => ?_)
  refine gz_aload_n C dX0_push_30 0 rfl ?_
  refine gz_get C (t := 26) (k := 3) (ci := 0) (q := (RX0, TX0, 10)) (v := .ref (gz_ad false G 30 0)) dX0_push_31 fl_RX0_22 (gz_hx26 _) rfl rfl (by decide) rfl ?_
  refine gz_aload_n C dX0_push_34 0 rfl ?_
  refine gz_get C (t := 26) (k := 4) (ci := 0) (q := (RX0, TX0, 10)) (v := .int (σ6.1 26 0 4)) dX0_push_35 fl_RX0_25 (gz_hx26 _) rfl rfl (by decide) rfl ?_
  refine gz_lload C dX0_push_38 4 rfl ?_
  refine gz_last C (t := 30) dX0_push_40 (gz_hx30 _) rfl (fun n7 hn7 => ?_)
  refine gz_w_row (fun σ8 => ?_)
  refine gz_aload_n C dX0_push_41 0 rfl ?_
  refine gz_aload_n C dX0_push_42 0 rfl ?_
  refine gz_get C (t := 26) (k := 4) (ci := 0) (q := (RX0, TX0, 10)) (v := .int (σ8.1 26 0 4)) dX0_push_43 fl_RX0_25 (gz_hx26 _) rfl rfl (by decide) rfl ?_
  refine gz_iconst C dX0_push_46 gk_iconst_1 ?_
  refine gz_iadd C dX0_push_47 ?_
  refine gz_bipush C dX0_push_48 gk_bipush_100 ?_
  refine gz_irem C dX0_push_50 (by decide) ?_
  refine gz_putI C (t := 26) (k := 4) (ci := 0) (q := (RX0, TX0, 10)) dX0_push_51 fl_RX0_25 (gz_hx26 _) rfl rfl (by decide) rfl rfl rfl rfl ?_
  refine gz_w_row (fun σ9 => ?_)
  refine gz_aload_n C dX0_push_54 0 rfl ?_
  refine gz_aload_n C dX0_push_55 0 rfl ?_
  refine gz_get C (t := 26) (k := 5) (ci := 0) (q := (RX0, TX0, 10)) (v := .int (σ9.1 26 0 5)) dX0_push_56 fl_RX0_29 (gz_hx26 _) rfl rfl (by decide) rfl ?_
  refine gz_iconst C dX0_push_59 gk_iconst_1 ?_
  refine gz_iadd C dX0_push_60 ?_
  refine gz_bipush C dX0_push_61 gk_bipush_100 ?_
  refine gz_ki (gz_runS (As := [.int ((σ9.1 26 0 5) + 1), .int 100]) (rest := [.ref (gz_ad false G 26 0)]) C dX0_push_63 ml_RX0_32 mw_J9_min_7cf53 ms_J9_min_7cf53 (c_J9_min_7cf53 l G false ((σ9.1 26 0 5) + 1) 100 σ9) rfl rfl (Nat.le_of_ble_eq_true rfl) ⟨rfl, rfl, Nat.le_of_ble_eq_true rfl, Nat.le_of_ble_eq_true rfl, Nat.le_of_ble_eq_true rfl, Nat.le_of_ble_eq_true rfl⟩) (fun r11 σ10 => ?_)
  refine gz_putI C (t := 26) (k := 5) (ci := 0) (q := (RX0, TX0, 10)) dX0_push_66 fl_RX0_29 (gz_hx26 _) rfl rfl (by decide) rfl rfl rfl rfl ?_
  refine gz_w_row (fun σ12 => ?_)
  exact gz_vret C rfl dX0_push_69
end
