section
-- ===== PART A: goes FIRST, ahead of the names: the tables' words, and 'selects' of the private methods out of them =====
/-- a private method of a class that the tables say can be made, by its rows of tables_1 -/
def lw_okq (q : MethodName × Nat) : Prop := (q.1.cls ≠ "java/lang/invoke/MethodHandle" ∧ q.1.cls ≠ "java/lang/invoke/VarHandle") ∧ Cond.instantiable q.1.cls q.2 ∈ tables_1 ∧ Cond.privateMethod q.1 ∈ tables_1 ∧ Cond.instanceMethod q.1 ∈ tables_1
theorem lw_p0 : lw_okq (⟨"ClassPools$Reader", "magic", "()V"⟩, 5) := ⟨⟨by decide +kernel, by decide +kernel⟩, List.mem_of_getElem? (i := 239) (by decide +kernel), List.mem_of_getElem? (i := 267) (by decide +kernel), List.mem_of_getElem? (i := 268) (by decide +kernel)⟩
theorem lw_p1 : lw_okq (⟨"ClassPools$Reader", "skip", "(I)V"⟩, 5) := ⟨⟨by decide +kernel, by decide +kernel⟩, List.mem_of_getElem? (i := 239) (by decide +kernel), List.mem_of_getElem? (i := 271) (by decide +kernel), List.mem_of_getElem? (i := 272) (by decide +kernel)⟩
theorem lw_p2 : lw_okq (⟨"ClassPools$Reader", "fail", "(II)V"⟩, 5) := ⟨⟨by decide +kernel, by decide +kernel⟩, List.mem_of_getElem? (i := 239) (by decide +kernel), List.mem_of_getElem? (i := 277) (by decide +kernel), List.mem_of_getElem? (i := 278) (by decide +kernel)⟩
theorem lw_p3 : lw_okq (⟨"ClassPools$Reader", "entries", "()V"⟩, 5) := ⟨⟨by decide +kernel, by decide +kernel⟩, List.mem_of_getElem? (i := 239) (by decide +kernel), List.mem_of_getElem? (i := 286) (by decide +kernel), List.mem_of_getElem? (i := 287) (by decide +kernel)⟩
theorem lw_p4 : lw_okq (⟨"ClassPools$Reader", "many", "(I)I"⟩, 5) := ⟨⟨by decide +kernel, by decide +kernel⟩, List.mem_of_getElem? (i := 239) (by decide +kernel), List.mem_of_getElem? (i := 290) (by decide +kernel), List.mem_of_getElem? (i := 291) (by decide +kernel)⟩
theorem lw_p5 : lw_okq (⟨"ClassPools$Reader", "anEntry", "(Z)V"⟩, 5) := ⟨⟨by decide +kernel, by decide +kernel⟩, List.mem_of_getElem? (i := 239) (by decide +kernel), List.mem_of_getElem? (i := 307) (by decide +kernel), List.mem_of_getElem? (i := 308) (by decide +kernel)⟩
theorem lw_p6 : lw_okq (⟨"ClassPools$Reader", "two", "()I"⟩, 5) := ⟨⟨by decide +kernel, by decide +kernel⟩, List.mem_of_getElem? (i := 239) (by decide +kernel), List.mem_of_getElem? (i := 317) (by decide +kernel), List.mem_of_getElem? (i := 318) (by decide +kernel)⟩
theorem lw_p7 : lw_okq (⟨"ClassPools$Reader", "tell", "(I)V"⟩, 5) := ⟨⟨by decide +kernel, by decide +kernel⟩, List.mem_of_getElem? (i := 239) (by decide +kernel), List.mem_of_getElem? (i := 324) (by decide +kernel), List.mem_of_getElem? (i := 325) (by decide +kernel)⟩
theorem lw_p8 : lw_okq (⟨"ClassPools$Reader", "classAbove", "()V"⟩, 5) := ⟨⟨by decide +kernel, by decide +kernel⟩, List.mem_of_getElem? (i := 239) (by decide +kernel), List.mem_of_getElem? (i := 332) (by decide +kernel), List.mem_of_getElem? (i := 333) (by decide +kernel)⟩
theorem lw_p9 : lw_okq (⟨"ClassPools$Reader", "members", "(I)V"⟩, 5) := ⟨⟨by decide +kernel, by decide +kernel⟩, List.mem_of_getElem? (i := 239) (by decide +kernel), List.mem_of_getElem? (i := 336) (by decide +kernel), List.mem_of_getElem? (i := 337) (by decide +kernel)⟩
theorem lw_p10 : lw_okq (⟨"ClassPools$Reader", "attributes", "()V"⟩, 5) := ⟨⟨by decide +kernel, by decide +kernel⟩, List.mem_of_getElem? (i := 239) (by decide +kernel), List.mem_of_getElem? (i := 348) (by decide +kernel), List.mem_of_getElem? (i := 349) (by decide +kernel)⟩
theorem lw_p11 : lw_okq (⟨"ClassPools$Pool", "twoOf", "(II)I"⟩, 3) := ⟨⟨by decide +kernel, by decide +kernel⟩, List.mem_of_getElem? (i := 64) (by decide +kernel), List.mem_of_getElem? (i := 403) (by decide +kernel), List.mem_of_getElem? (i := 404) (by decide +kernel)⟩
theorem lw_p12 : lw_okq (⟨"ClassPools", "fileAt", "(I)LClassPools$ClassFile;"⟩, 8) := ⟨⟨by decide +kernel, by decide +kernel⟩, List.mem_of_getElem? (i := 33) (by decide +kernel), List.mem_of_getElem? (i := 433) (by decide +kernel), List.mem_of_getElem? (i := 434) (by decide +kernel)⟩
theorem lw_p13 : lw_okq (⟨"ClassPools", "showText", "(LClassPools$ClassFile;I)I"⟩, 8) := ⟨⟨by decide +kernel, by decide +kernel⟩, List.mem_of_getElem? (i := 33) (by decide +kernel), List.mem_of_getElem? (i := 476) (by decide +kernel), List.mem_of_getElem? (i := 477) (by decide +kernel)⟩
theorem lw_p14 : lw_okq (⟨"ClassPools", "showClass", "(LClassPools$ClassFile;II)I"⟩, 8) := ⟨⟨by decide +kernel, by decide +kernel⟩, List.mem_of_getElem? (i := 33) (by decide +kernel), List.mem_of_getElem? (i := 486) (by decide +kernel), List.mem_of_getElem? (i := 487) (by decide +kernel)⟩
theorem lw_p15 : lw_okq (⟨"ClassPools$ClassFile", "attributesOf", "(II)I"⟩, 9) := ⟨⟨by decide +kernel, by decide +kernel⟩, List.mem_of_getElem? (i := 116) (by decide +kernel), List.mem_of_getElem? (i := 515) (by decide +kernel), List.mem_of_getElem? (i := 516) (by decide +kernel)⟩
def lw_privs_1 : List (MethodName × Nat) := [(⟨"ClassPools$Reader", "magic", "()V"⟩, 5), (⟨"ClassPools$Reader", "skip", "(I)V"⟩, 5), (⟨"ClassPools$Reader", "fail", "(II)V"⟩, 5), (⟨"ClassPools$Reader", "entries", "()V"⟩, 5), (⟨"ClassPools$Reader", "many", "(I)I"⟩, 5), (⟨"ClassPools$Reader", "anEntry", "(Z)V"⟩, 5), (⟨"ClassPools$Reader", "two", "()I"⟩, 5), (⟨"ClassPools$Reader", "tell", "(I)V"⟩, 5), (⟨"ClassPools$Reader", "classAbove", "()V"⟩, 5), (⟨"ClassPools$Reader", "members", "(I)V"⟩, 5), (⟨"ClassPools$Reader", "attributes", "()V"⟩, 5), (⟨"ClassPools$Pool", "twoOf", "(II)I"⟩, 3), (⟨"ClassPools", "fileAt", "(I)LClassPools$ClassFile;"⟩, 8), (⟨"ClassPools", "showText", "(LClassPools$ClassFile;I)I"⟩, 8), (⟨"ClassPools", "showClass", "(LClassPools$ClassFile;II)I"⟩, 8), (⟨"ClassPools$ClassFile", "attributesOf", "(II)I"⟩, 9)]
theorem lw_r1 : ∀ q ∈ lw_privs_1, lw_okq q := List.forall_mem_cons.mpr ⟨lw_p0, List.forall_mem_cons.mpr ⟨lw_p1, List.forall_mem_cons.mpr ⟨lw_p2, List.forall_mem_cons.mpr ⟨lw_p3, List.forall_mem_cons.mpr ⟨lw_p4, List.forall_mem_cons.mpr ⟨lw_p5, List.forall_mem_cons.mpr ⟨lw_p6, List.forall_mem_cons.mpr ⟨lw_p7, List.forall_mem_cons.mpr ⟨lw_p8, List.forall_mem_cons.mpr ⟨lw_p9, List.forall_mem_cons.mpr ⟨lw_p10, List.forall_mem_cons.mpr ⟨lw_p11, List.forall_mem_cons.mpr ⟨lw_p12, List.forall_mem_cons.mpr ⟨lw_p13, List.forall_mem_cons.mpr ⟨lw_p14, List.forall_mem_cons.mpr ⟨lw_p15, fun _ h => absurd h List.not_mem_nil⟩⟩⟩⟩⟩⟩⟩⟩⟩⟩⟩⟩⟩⟩⟩⟩
theorem lw_p16 : lw_okq (⟨"ClassPools$Ranking", "firstNotBelow", "(LClassPools$Pool;I)I"⟩, 5) := ⟨⟨by decide +kernel, by decide +kernel⟩, List.mem_of_getElem? (i := 57) (by decide +kernel), List.mem_of_getElem? (i := 549) (by decide +kernel), List.mem_of_getElem? (i := 550) (by decide +kernel)⟩
theorem lw_p17 : lw_okq (⟨"ClassPools$Ranking", "poolOf", "(I)LClassPools$Pool;"⟩, 5) := ⟨⟨by decide +kernel, by decide +kernel⟩, List.mem_of_getElem? (i := 57) (by decide +kernel), List.mem_of_getElem? (i := 553) (by decide +kernel), List.mem_of_getElem? (i := 554) (by decide +kernel)⟩
theorem lw_p18 : lw_okq (⟨"ClassPools$Ranking", "orderOf", "(ILClassPools$Pool;I)I"⟩, 5) := ⟨⟨by decide +kernel, by decide +kernel⟩, List.mem_of_getElem? (i := 57) (by decide +kernel), List.mem_of_getElem? (i := 591) (by decide +kernel), List.mem_of_getElem? (i := 592) (by decide +kernel)⟩
theorem lw_p19 : lw_okq (⟨"ClassPools$Ranking", "insert", "(II)Z"⟩, 5) := ⟨⟨by decide +kernel, by decide +kernel⟩, List.mem_of_getElem? (i := 57) (by decide +kernel), List.mem_of_getElem? (i := 595) (by decide +kernel), List.mem_of_getElem? (i := 596) (by decide +kernel)⟩
theorem lw_p20 : lw_okq (⟨"ClassPools", "placesOf", "(I)I"⟩, 8) := ⟨⟨by decide +kernel, by decide +kernel⟩, List.mem_of_getElem? (i := 33) (by decide +kernel), List.mem_of_getElem? (i := 620) (by decide +kernel), List.mem_of_getElem? (i := 621) (by decide +kernel)⟩
theorem lw_p21 : lw_okq (⟨"ClassPools$Writer", "pushEntry", "(LClassPools$Pool;I)V"⟩, 3) := ⟨⟨by decide +kernel, by decide +kernel⟩, List.mem_of_getElem? (i := 101) (by decide +kernel), List.mem_of_getElem? (i := 669) (by decide +kernel), List.mem_of_getElem? (i := 670) (by decide +kernel)⟩
theorem lw_p22 : lw_okq (⟨"ClassPools$Writer", "movedTo", "(I)I"⟩, 3) := ⟨⟨by decide +kernel, by decide +kernel⟩, List.mem_of_getElem? (i := 101) (by decide +kernel), List.mem_of_getElem? (i := 681) (by decide +kernel), List.mem_of_getElem? (i := 682) (by decide +kernel)⟩
theorem lw_p23 : lw_okq (⟨"ClassPools$Writer", "pushRest", "(LClassPools$ClassFile;)V"⟩, 3) := ⟨⟨by decide +kernel, by decide +kernel⟩, List.mem_of_getElem? (i := 101) (by decide +kernel), List.mem_of_getElem? (i := 690) (by decide +kernel), List.mem_of_getElem? (i := 691) (by decide +kernel)⟩
theorem lw_p24 : lw_okq (⟨"java/lang/NullPointerException", "getExtendedNPEMessage", "()Ljava/lang/String;"⟩, 8) := ⟨⟨by decide +kernel, by decide +kernel⟩, List.mem_of_getElem? (i := 739) (by decide +kernel), List.mem_of_getElem? (i := 737) (by decide +kernel), List.mem_of_getElem? (i := 738) (by decide +kernel)⟩
theorem lw_p25 : lw_okq (⟨"java/lang/Throwable", "fillInStackTrace", "(I)Ljava/lang/Throwable;"⟩, 6) := ⟨⟨by decide +kernel, by decide +kernel⟩, List.mem_of_getElem? (i := 748) (by decide +kernel), List.mem_of_getElem? (i := 746) (by decide +kernel), List.mem_of_getElem? (i := 747) (by decide +kernel)⟩
theorem lw_p26 : lw_okq (⟨"ClassPoolsModel", "parse", "()V"⟩, 17) := ⟨⟨by decide +kernel, by decide +kernel⟩, List.mem_of_getElem? (i := 877) (by decide +kernel), List.mem_of_getElem? (i := 1006) (by decide +kernel), List.mem_of_getElem? (i := 1007) (by decide +kernel)⟩
theorem lw_p27 : lw_okq (⟨"ClassPoolsModel", "goes", "(I)Z"⟩, 17) := ⟨⟨by decide +kernel, by decide +kernel⟩, List.mem_of_getElem? (i := 877) (by decide +kernel), List.mem_of_getElem? (i := 1010) (by decide +kernel), List.mem_of_getElem? (i := 1011) (by decide +kernel)⟩
theorem lw_p28 : lw_okq (⟨"ClassPoolsModel", "fails", "(II)V"⟩, 17) := ⟨⟨by decide +kernel, by decide +kernel⟩, List.mem_of_getElem? (i := 877) (by decide +kernel), List.mem_of_getElem? (i := 1014) (by decide +kernel), List.mem_of_getElem? (i := 1015) (by decide +kernel)⟩
theorem lw_p29 : lw_okq (⟨"ClassPoolsModel", "nextTwo", "()I"⟩, 17) := ⟨⟨by decide +kernel, by decide +kernel⟩, List.mem_of_getElem? (i := 877) (by decide +kernel), List.mem_of_getElem? (i := 1018) (by decide +kernel), List.mem_of_getElem? (i := 1019) (by decide +kernel)⟩
theorem lw_p30 : lw_okq (⟨"ClassPoolsModel", "entry", "(I)I"⟩, 17) := ⟨⟨by decide +kernel, by decide +kernel⟩, List.mem_of_getElem? (i := 877) (by decide +kernel), List.mem_of_getElem? (i := 1026) (by decide +kernel), List.mem_of_getElem? (i := 1027) (by decide +kernel)⟩
theorem lw_p31 : lw_okq (⟨"ClassPoolsModel", "many", "(I)I"⟩, 17) := ⟨⟨by decide +kernel, by decide +kernel⟩, List.mem_of_getElem? (i := 877) (by decide +kernel), List.mem_of_getElem? (i := 1030) (by decide +kernel), List.mem_of_getElem? (i := 1031) (by decide +kernel)⟩
def lw_privs_2 : List (MethodName × Nat) := [(⟨"ClassPools$Ranking", "firstNotBelow", "(LClassPools$Pool;I)I"⟩, 5), (⟨"ClassPools$Ranking", "poolOf", "(I)LClassPools$Pool;"⟩, 5), (⟨"ClassPools$Ranking", "orderOf", "(ILClassPools$Pool;I)I"⟩, 5), (⟨"ClassPools$Ranking", "insert", "(II)Z"⟩, 5), (⟨"ClassPools", "placesOf", "(I)I"⟩, 8), (⟨"ClassPools$Writer", "pushEntry", "(LClassPools$Pool;I)V"⟩, 3), (⟨"ClassPools$Writer", "movedTo", "(I)I"⟩, 3), (⟨"ClassPools$Writer", "pushRest", "(LClassPools$ClassFile;)V"⟩, 3), (⟨"java/lang/NullPointerException", "getExtendedNPEMessage", "()Ljava/lang/String;"⟩, 8), (⟨"java/lang/Throwable", "fillInStackTrace", "(I)Ljava/lang/Throwable;"⟩, 6), (⟨"ClassPoolsModel", "parse", "()V"⟩, 17), (⟨"ClassPoolsModel", "goes", "(I)Z"⟩, 17), (⟨"ClassPoolsModel", "fails", "(II)V"⟩, 17), (⟨"ClassPoolsModel", "nextTwo", "()I"⟩, 17), (⟨"ClassPoolsModel", "entry", "(I)I"⟩, 17), (⟨"ClassPoolsModel", "many", "(I)I"⟩, 17)]
theorem lw_r2 : ∀ q ∈ lw_privs_2, lw_okq q := List.forall_mem_cons.mpr ⟨lw_p16, List.forall_mem_cons.mpr ⟨lw_p17, List.forall_mem_cons.mpr ⟨lw_p18, List.forall_mem_cons.mpr ⟨lw_p19, List.forall_mem_cons.mpr ⟨lw_p20, List.forall_mem_cons.mpr ⟨lw_p21, List.forall_mem_cons.mpr ⟨lw_p22, List.forall_mem_cons.mpr ⟨lw_p23, List.forall_mem_cons.mpr ⟨lw_p24, List.forall_mem_cons.mpr ⟨lw_p25, List.forall_mem_cons.mpr ⟨lw_p26, List.forall_mem_cons.mpr ⟨lw_p27, List.forall_mem_cons.mpr ⟨lw_p28, List.forall_mem_cons.mpr ⟨lw_p29, List.forall_mem_cons.mpr ⟨lw_p30, List.forall_mem_cons.mpr ⟨lw_p31, fun _ h => absurd h List.not_mem_nil⟩⟩⟩⟩⟩⟩⟩⟩⟩⟩⟩⟩⟩⟩⟩⟩
theorem lw_p32 : lw_okq (⟨"ClassPoolsModel", "attributes", "()LClassPoolsModel$Attributes;"⟩, 17) := ⟨⟨by decide +kernel, by decide +kernel⟩, List.mem_of_getElem? (i := 877) (by decide +kernel), List.mem_of_getElem? (i := 1047) (by decide +kernel), List.mem_of_getElem? (i := 1048) (by decide +kernel)⟩
theorem lw_p33 : lw_okq (⟨"ClassPoolsModel", "places", "()V"⟩, 17) := ⟨⟨by decide +kernel, by decide +kernel⟩, List.mem_of_getElem? (i := 877) (by decide +kernel), List.mem_of_getElem? (i := 1070) (by decide +kernel), List.mem_of_getElem? (i := 1071) (by decide +kernel)⟩
theorem lw_p34 : lw_okq (⟨"ClassPoolsModel", "place", "(II)V"⟩, 17) := ⟨⟨by decide +kernel, by decide +kernel⟩, List.mem_of_getElem? (i := 877) (by decide +kernel), List.mem_of_getElem? (i := 1074) (by decide +kernel), List.mem_of_getElem? (i := 1075) (by decide +kernel)⟩
theorem lw_p35 : lw_okq (⟨"ClassPoolsModel", "names", "(LClassPoolsModel$Attributes;)V"⟩, 17) := ⟨⟨by decide +kernel, by decide +kernel⟩, List.mem_of_getElem? (i := 877) (by decide +kernel), List.mem_of_getElem? (i := 1081) (by decide +kernel), List.mem_of_getElem? (i := 1082) (by decide +kernel)⟩
theorem lw_p36 : lw_okq (⟨"ClassPoolsModel", "sortOf", "(LClassPoolsModel$HeldFile;II)[B"⟩, 17) := ⟨⟨by decide +kernel, by decide +kernel⟩, List.mem_of_getElem? (i := 877) (by decide +kernel), List.mem_of_getElem? (i := 1085) (by decide +kernel), List.mem_of_getElem? (i := 1086) (by decide +kernel)⟩
theorem lw_p37 : lw_okq (⟨"ClassPoolsModel", "isFile", "(I)Z"⟩, 17) := ⟨⟨by decide +kernel, by decide +kernel⟩, List.mem_of_getElem? (i := 877) (by decide +kernel), List.mem_of_getElem? (i := 1188) (by decide +kernel), List.mem_of_getElem? (i := 1189) (by decide +kernel)⟩
theorem lw_p38 : lw_okq (⟨"ClassPoolsModel", "shows", "([B)I"⟩, 17) := ⟨⟨by decide +kernel, by decide +kernel⟩, List.mem_of_getElem? (i := 877) (by decide +kernel), List.mem_of_getElem? (i := 1222) (by decide +kernel), List.mem_of_getElem? (i := 1223) (by decide +kernel)⟩
theorem lw_p39 : lw_okq (⟨"ClassPoolsModel", "lay", "(LClassPoolsModel$HeldFile;[LClassPoolsModel$Meaning;I)I"⟩, 17) := ⟨⟨by decide +kernel, by decide +kernel⟩, List.mem_of_getElem? (i := 877) (by decide +kernel), List.mem_of_getElem? (i := 1249) (by decide +kernel), List.mem_of_getElem? (i := 1250) (by decide +kernel)⟩
theorem lw_p40 : lw_okq (⟨"ClassPoolsModel", "meaningOf", "(LClassPoolsModel$HeldFile;I)LClassPoolsModel$Meaning;"⟩, 17) := ⟨⟨by decide +kernel, by decide +kernel⟩, List.mem_of_getElem? (i := 877) (by decide +kernel), List.mem_of_getElem? (i := 1253) (by decide +kernel), List.mem_of_getElem? (i := 1254) (by decide +kernel)⟩
theorem lw_p41 : lw_okq (⟨"ClassPoolsModel", "isEntry", "(II)Z"⟩, 17) := ⟨⟨by decide +kernel, by decide +kernel⟩, List.mem_of_getElem? (i := 877) (by decide +kernel), List.mem_of_getElem? (i := 1297) (by decide +kernel), List.mem_of_getElem? (i := 1298) (by decide +kernel)⟩
theorem lw_p42 : lw_okq (⟨"ClassPoolsModel", "isAlike", "(LClassPoolsModel$HeldFile;LClassPoolsModel$HeldFile;)Z"⟩, 17) := ⟨⟨by decide +kernel, by decide +kernel⟩, List.mem_of_getElem? (i := 877) (by decide +kernel), List.mem_of_getElem? (i := 1310) (by decide +kernel), List.mem_of_getElem? (i := 1311) (by decide +kernel)⟩
theorem lw_p43 : lw_okq (⟨"ClassPoolsModel", "samePlace", "(LClassPoolsModel$HeldFile;ILClassPoolsModel$HeldFile;I)Z"⟩, 17) := ⟨⟨by decide +kernel, by decide +kernel⟩, List.mem_of_getElem? (i := 877) (by decide +kernel), List.mem_of_getElem? (i := 1314) (by decide +kernel), List.mem_of_getElem? (i := 1315) (by decide +kernel)⟩
theorem lw_p44 : lw_okq (⟨"ClassPoolsModel", "same", "(LClassPoolsModel$HeldFile;LClassPoolsModel$Attributes;LClassPoolsModel$HeldFile;LClassPoolsModel$Attributes;)Z"⟩, 17) := ⟨⟨by decide +kernel, by decide +kernel⟩, List.mem_of_getElem? (i := 877) (by decide +kernel), List.mem_of_getElem? (i := 1318) (by decide +kernel), List.mem_of_getElem? (i := 1319) (by decide +kernel)⟩
theorem lw_p45 : lw_okq (⟨"ClassPoolsModel", "sameBytes", "(LClassPoolsModel$HeldFile;ILClassPoolsModel$HeldFile;II)Z"⟩, 17) := ⟨⟨by decide +kernel, by decide +kernel⟩, List.mem_of_getElem? (i := 877) (by decide +kernel), List.mem_of_getElem? (i := 1322) (by decide +kernel), List.mem_of_getElem? (i := 1323) (by decide +kernel)⟩
theorem lw_p46 : lw_okq (⟨"ClassPoolsModel", "inOrder", "(LClassPoolsModel$HeldFile;)I"⟩, 17) := ⟨⟨by decide +kernel, by decide +kernel⟩, List.mem_of_getElem? (i := 877) (by decide +kernel), List.mem_of_getElem? (i := 1330) (by decide +kernel), List.mem_of_getElem? (i := 1331) (by decide +kernel)⟩
theorem lw_p47 : lw_okq (⟨"ClassPoolsModel", "addBytes", "([BII)V"⟩, 17) := ⟨⟨by decide +kernel, by decide +kernel⟩, List.mem_of_getElem? (i := 877) (by decide +kernel), List.mem_of_getElem? (i := 1334) (by decide +kernel), List.mem_of_getElem? (i := 1335) (by decide +kernel)⟩
def lw_privs_3 : List (MethodName × Nat) := [(⟨"ClassPoolsModel", "attributes", "()LClassPoolsModel$Attributes;"⟩, 17), (⟨"ClassPoolsModel", "places", "()V"⟩, 17), (⟨"ClassPoolsModel", "place", "(II)V"⟩, 17), (⟨"ClassPoolsModel", "names", "(LClassPoolsModel$Attributes;)V"⟩, 17), (⟨"ClassPoolsModel", "sortOf", "(LClassPoolsModel$HeldFile;II)[B"⟩, 17), (⟨"ClassPoolsModel", "isFile", "(I)Z"⟩, 17), (⟨"ClassPoolsModel", "shows", "([B)I"⟩, 17), (⟨"ClassPoolsModel", "lay", "(LClassPoolsModel$HeldFile;[LClassPoolsModel$Meaning;I)I"⟩, 17), (⟨"ClassPoolsModel", "meaningOf", "(LClassPoolsModel$HeldFile;I)LClassPoolsModel$Meaning;"⟩, 17), (⟨"ClassPoolsModel", "isEntry", "(II)Z"⟩, 17), (⟨"ClassPoolsModel", "isAlike", "(LClassPoolsModel$HeldFile;LClassPoolsModel$HeldFile;)Z"⟩, 17), (⟨"ClassPoolsModel", "samePlace", "(LClassPoolsModel$HeldFile;ILClassPoolsModel$HeldFile;I)Z"⟩, 17), (⟨"ClassPoolsModel", "same", "(LClassPoolsModel$HeldFile;LClassPoolsModel$Attributes;LClassPoolsModel$HeldFile;LClassPoolsModel$Attributes;)Z"⟩, 17), (⟨"ClassPoolsModel", "sameBytes", "(LClassPoolsModel$HeldFile;ILClassPoolsModel$HeldFile;II)Z"⟩, 17), (⟨"ClassPoolsModel", "inOrder", "(LClassPoolsModel$HeldFile;)I"⟩, 17), (⟨"ClassPoolsModel", "addBytes", "([BII)V"⟩, 17)]
theorem lw_r3 : ∀ q ∈ lw_privs_3, lw_okq q := List.forall_mem_cons.mpr ⟨lw_p32, List.forall_mem_cons.mpr ⟨lw_p33, List.forall_mem_cons.mpr ⟨lw_p34, List.forall_mem_cons.mpr ⟨lw_p35, List.forall_mem_cons.mpr ⟨lw_p36, List.forall_mem_cons.mpr ⟨lw_p37, List.forall_mem_cons.mpr ⟨lw_p38, List.forall_mem_cons.mpr ⟨lw_p39, List.forall_mem_cons.mpr ⟨lw_p40, List.forall_mem_cons.mpr ⟨lw_p41, List.forall_mem_cons.mpr ⟨lw_p42, List.forall_mem_cons.mpr ⟨lw_p43, List.forall_mem_cons.mpr ⟨lw_p44, List.forall_mem_cons.mpr ⟨lw_p45, List.forall_mem_cons.mpr ⟨lw_p46, List.forall_mem_cons.mpr ⟨lw_p47, fun _ h => absurd h List.not_mem_nil⟩⟩⟩⟩⟩⟩⟩⟩⟩⟩⟩⟩⟩⟩⟩⟩
theorem lw_p48 : lw_okq (⟨"ClassPoolsModel", "add", "(I)V"⟩, 17) := ⟨⟨by decide +kernel, by decide +kernel⟩, List.mem_of_getElem? (i := 877) (by decide +kernel), List.mem_of_getElem? (i := 1338) (by decide +kernel), List.mem_of_getElem? (i := 1339) (by decide +kernel)⟩
theorem lw_p49 : lw_okq (⟨"ClassPoolsModel", "addTwo", "(I)V"⟩, 17) := ⟨⟨by decide +kernel, by decide +kernel⟩, List.mem_of_getElem? (i := 877) (by decide +kernel), List.mem_of_getElem? (i := 1342) (by decide +kernel), List.mem_of_getElem? (i := 1343) (by decide +kernel)⟩
theorem lw_p50 : lw_okq (⟨"ClassPoolsModel", "addEntry", "(LClassPoolsModel$Meaning;)V"⟩, 17) := ⟨⟨by decide +kernel, by decide +kernel⟩, List.mem_of_getElem? (i := 877) (by decide +kernel), List.mem_of_getElem? (i := 1346) (by decide +kernel), List.mem_of_getElem? (i := 1347) (by decide +kernel)⟩
theorem lw_p51 : lw_okq (⟨"ClassPoolsModel", "addFour", "(I)V"⟩, 17) := ⟨⟨by decide +kernel, by decide +kernel⟩, List.mem_of_getElem? (i := 877) (by decide +kernel), List.mem_of_getElem? (i := 1351) (by decide +kernel), List.mem_of_getElem? (i := 1352) (by decide +kernel)⟩
theorem lw_p52 : lw_okq (⟨"ClassPoolsModel", "placeOf", "(I[B[B)I"⟩, 17) := ⟨⟨by decide +kernel, by decide +kernel⟩, List.mem_of_getElem? (i := 877) (by decide +kernel), List.mem_of_getElem? (i := 1355) (by decide +kernel), List.mem_of_getElem? (i := 1356) (by decide +kernel)⟩
theorem lw_p53 : lw_okq (⟨"ClassPoolsModel", "moved", "(LClassPoolsModel$HeldFile;I)I"⟩, 17) := ⟨⟨by decide +kernel, by decide +kernel⟩, List.mem_of_getElem? (i := 877) (by decide +kernel), List.mem_of_getElem? (i := 1359) (by decide +kernel), List.mem_of_getElem? (i := 1360) (by decide +kernel)⟩
theorem lw_p54 : lw_okq (⟨"ClassPoolsModel", "addAttributes", "(LClassPoolsModel$HeldFile;LClassPoolsModel$Attributes;)V"⟩, 17) := ⟨⟨by decide +kernel, by decide +kernel⟩, List.mem_of_getElem? (i := 877) (by decide +kernel), List.mem_of_getElem? (i := 1363) (by decide +kernel), List.mem_of_getElem? (i := 1364) (by decide +kernel)⟩
def lw_privs_4 : List (MethodName × Nat) := [(⟨"ClassPoolsModel", "add", "(I)V"⟩, 17), (⟨"ClassPoolsModel", "addTwo", "(I)V"⟩, 17), (⟨"ClassPoolsModel", "addEntry", "(LClassPoolsModel$Meaning;)V"⟩, 17), (⟨"ClassPoolsModel", "addFour", "(I)V"⟩, 17), (⟨"ClassPoolsModel", "placeOf", "(I[B[B)I"⟩, 17), (⟨"ClassPoolsModel", "moved", "(LClassPoolsModel$HeldFile;I)I"⟩, 17), (⟨"ClassPoolsModel", "addAttributes", "(LClassPoolsModel$HeldFile;LClassPoolsModel$Attributes;)V"⟩, 17)]
theorem lw_r4 : ∀ q ∈ lw_privs_4, lw_okq q := List.forall_mem_cons.mpr ⟨lw_p48, List.forall_mem_cons.mpr ⟨lw_p49, List.forall_mem_cons.mpr ⟨lw_p50, List.forall_mem_cons.mpr ⟨lw_p51, List.forall_mem_cons.mpr ⟨lw_p52, List.forall_mem_cons.mpr ⟨lw_p53, List.forall_mem_cons.mpr ⟨lw_p54, fun _ h => absurd h List.not_mem_nil⟩⟩⟩⟩⟩⟩⟩
def lw_privs : List (MethodName × Nat) := lw_privs_1 ++ (lw_privs_2 ++ (lw_privs_3 ++ (lw_privs_4)))
def lw_tbl : List Cond := k2_sels lw_privs ++ tables_1
theorem lw_privs_ok : ∀ q ∈ lw_privs, lw_okq q := by
  show ∀ q ∈ lw_privs_1 ++ (lw_privs_2 ++ (lw_privs_3 ++ (lw_privs_4))), lw_okq q
  exact List.forall_mem_append.mpr ⟨lw_r1, List.forall_mem_append.mpr ⟨lw_r2, List.forall_mem_append.mpr ⟨lw_r3, lw_r4⟩⟩⟩
theorem u01_end : True := trivial
end
section
/-! the abstract machine: cells by address, a step a function -/
abbrev Ce : Type := (Nat × vp_A) ⊕ (Nat × List Value)
abbrev Hp : Type := Nat × Nat × (Nat → Option (Bool × Ce))
abbrev hM (h : Hp) (a : Nat) : Option (Bool × Ce) := h.2.2 a
def hset (h : Hp) (a : Nat) (c : Ce) : Hp := (h.1, h.2.1, fun q => if q = a then some (true, c) else h.2.2 q)
def hnew (h : Hp) (k : Nat) (c : Ce) : Hp := (h.1 + 1, h.2.1 + k, fun q => if q = h.1 then some (true, c) else h.2.2 q)
def hskip (h : Hp) (n k : Nat) : Hp := (h.1 + n, h.2.1 + k, h.2.2)
def stw (st : List Value) : Nat := (st.map fun v => v.category).sum
abbrev Ls : Type := List (Option Value)
abbrev XStp : Type := (Nat × Ls × List Value × Hp) ⊕ (Option Value × Hp) ⊕ (Nat × List Value × Nat × Ls × List Value × Hp)
abbrev XOp : Type := Ls → List Value → Hp → Option XStp
abbrev Cd : Type := Nat → Option XOp
abbrev xgo (pc : Nat) (ls : Ls) (st : List Value) (h : Hp) : Option XStp := some (.inl (pc, ls, st, h))
def nd (k : Nat) (f g : Cd) : Cd := fun pc => cond (Nat.blt pc k) (f pc) (g pc)
def lf (k : Nat) (o : XOp) : Cd := fun pc => cond (Nat.beq pc k) (some o) none
def lget : Ls → Nat → Option Value
  | [], _ => none
  | x :: _, 0 => x
  | _ :: r, n + 1 => lget r n
def lclr (x : Option Value) : Option Value := match x with
  | some (.long _) => none
  | some (.double _) => none
  | y => y
def lset : Ls → Nat → Value → Ls
  | [], _, _ => []
  | _ :: r, 0, v => some v :: r
  | x :: r, 1, v => lclr x :: lset r 0 v
  | x :: r, n + 2, v => x :: lset r (n + 1) v
def lset2 : Ls → Nat → Value → Ls
  | [], _, _ => []
  | [_], 0, v => [some v]
  | _ :: _ :: r, 0, v => some v :: none :: r
  | x :: r, 1, v => lclr x :: lset2 r 0 v
  | x :: r, n + 2, v => x :: lset2 r (n + 1) v
/-- the arguments laid into locals -/
def lent : List Value → Ls
  | [] => []
  | .long v :: r => some (.long v) :: none :: lent r
  | .double v :: r => some (.double v) :: none :: lent r
  | v :: r => some v :: lent r
def lpad : Nat → Ls → Ls
  | 0, l => l
  | n + 1, [] => none :: lpad n []
  | n + 1, x :: l => x :: lpad n l
def o_il (k nx : Nat) : XOp := fun ls st h => match lget ls k with
  | some (.int x) => xgo nx ls (.int x :: st) h
  | _ => none
def o_ll (k nx : Nat) : XOp := fun ls st h => match lget ls k with
  | some (.long x) => xgo nx ls (.long x :: st) h
  | _ => none
def o_al (k nx : Nat) : XOp := fun ls st h => match lget ls k with
  | some (.ref x) => xgo nx ls (.ref x :: st) h
  | some .null => xgo nx ls (.null :: st) h
  | _ => none
def o_is (k nx : Nat) : XOp := fun ls st h => match st with
  | .int x :: r => xgo nx (lset ls k (.int x)) r h
  | _ => none
def o_ls (k nx : Nat) : XOp := fun ls st h => match st with
  | .long x :: r => xgo nx (lset2 ls k (.long x)) r h
  | _ => none
def o_as (k nx : Nat) : XOp := fun ls st h => match st with
  | .ref x :: r => xgo nx (lset ls k (.ref x)) r h
  | .null :: r => xgo nx (lset ls k .null) r h
  | _ => none
def o_inc (k : Nat) (n : Int32) (nx : Nat) : XOp := fun ls st h => match lget ls k with
  | some (.int x) => xgo nx (lset ls k (.int (x + n))) st h
  | _ => none
def o_ic (v : Int32) (nx : Nat) : XOp := fun ls st h => xgo nx ls (.int v :: st) h
def o_lc (v : Int64) (nx : Nat) : XOp := fun ls st h => xgo nx ls (.long v :: st) h
def o_nul (nx : Nat) : XOp := fun ls st h => xgo nx ls (.null :: st) h
def o_ref (a : Nat) (nx : Nat) : XOp := fun ls st h => xgo nx ls (.ref a :: st) h
def o_b (f : Int32 → Int32 → Int32) (nx : Nat) : XOp := fun ls st h => match st with
  | .int y :: .int x :: r => xgo nx ls (.int (f x y) :: r) h
  | _ => none
def o_iadd (nx : Nat) : XOp := o_b (fun x y => x + y) nx
def o_isub (nx : Nat) : XOp := o_b (fun x y => x - y) nx
def o_imul (nx : Nat) : XOp := o_b (fun x y => x * y) nx
def o_iand (nx : Nat) : XOp := o_b (fun x y => x &&& y) nx
def o_ior (nx : Nat) : XOp := o_b (fun x y => x ||| y) nx
def o_ishl (nx : Nat) : XOp := o_b (fun x y => x <<< (y &&& 31)) nx
def o_ishr (nx : Nat) : XOp := o_b (fun x y => x >>> (y &&& 31)) nx
def o_ineg (nx : Nat) : XOp := fun ls st h => match st with
  | .int x :: r => xgo nx ls (.int (-x) :: r) h
  | _ => none
def o_i2b (nx : Nat) : XOp := fun ls st h => match st with
  | .int x :: r => xgo nx ls (.int x.toInt8.toInt32 :: r) h
  | _ => none
def o_i2l (nx : Nat) : XOp := fun ls st h => match st with
  | .int x :: r => xgo nx ls (.long x.toInt64 :: r) h
  | _ => none
def o_l2i (nx : Nat) : XOp := fun ls st h => match st with
  | .long x :: r => xgo nx ls (.int x.toInt32 :: r) h
  | _ => none
def o_lb (f : Int64 → Int64 → Int64) (nx : Nat) : XOp := fun ls st h => match st with
  | .long y :: .long x :: r => xgo nx ls (.long (f x y) :: r) h
  | _ => none
def o_land (nx : Nat) : XOp := o_lb (fun x y => x &&& y) nx
def o_lor (nx : Nat) : XOp := o_lb (fun x y => x ||| y) nx
def o_lsh (f : Int64 → Int64 → Int64) (nx : Nat) : XOp := fun ls st h => match st with
  | .int y :: .long x :: r => xgo nx ls (.long (f x (y.toInt64 &&& 63)) :: r) h
  | _ => none
def o_lshl (nx : Nat) : XOp := o_lsh (fun x y => x <<< y) nx
def o_lshr (nx : Nat) : XOp := o_lsh (fun x y => x >>> y) nx

def o_lcmp (nx : Nat) : XOp := fun ls st h => match st with
  | .long y :: .long x :: r => xgo nx ls (.int (lg_cmp x y) :: r) h
  | _ => none
def o_dup (nx : Nat) : XOp := fun ls st h => match st with
  | .int x :: r => xgo nx ls (.int x :: .int x :: r) h
  | .ref x :: r => xgo nx ls (.ref x :: .ref x :: r) h
  | _ => none
def o_pop (nx : Nat) : XOp := fun ls st h => match st with
  | .int _ :: r => xgo nx ls r h
  | .ref _ :: r => xgo nx ls r h
  | _ => none
/-- a branch on the top, on the top two -/
def o_if (f : Int32 → Bool) (t nx : Nat) : XOp := fun ls st h => match st with
  | .int x :: r => xgo (cond (f x) t nx) ls r h
  | _ => none
def o_cmp (f : Int32 → Int32 → Bool) (t nx : Nat) : XOp := fun ls st h => match st with
  | .int y :: .int x :: r => xgo (cond (f x y) t nx) ls r h
  | _ => none
def o_ifeq (t nx : Nat) : XOp := o_if (fun x => decide (x = 0)) t nx
def o_ifne (t nx : Nat) : XOp := o_if (fun x => decide (¬ x = 0)) t nx
def o_iflt (t nx : Nat) : XOp := o_if (fun x => decide (x < 0)) t nx
def o_ifge (t nx : Nat) : XOp := o_if (fun x => decide (0 ≤ x)) t nx
def o_ifgt (t nx : Nat) : XOp := o_if (fun x => decide (0 < x)) t nx
def o_ifle (t nx : Nat) : XOp := o_if (fun x => decide (x ≤ 0)) t nx
def o_ceq (t nx : Nat) : XOp := o_cmp (fun x y => decide (x = y)) t nx
def o_cne (t nx : Nat) : XOp := o_cmp (fun x y => decide (¬ x = y)) t nx
def o_clt (t nx : Nat) : XOp := o_cmp (fun x y => decide (x < y)) t nx
def o_cge (t nx : Nat) : XOp := o_cmp (fun x y => decide (y ≤ x)) t nx
def o_cgt (t nx : Nat) : XOp := o_cmp (fun x y => decide (y < x)) t nx
def o_cle (t nx : Nat) : XOp := o_cmp (fun x y => decide (x ≤ y)) t nx
def o_ifn (t nx : Nat) : XOp := fun ls st h => match st with
  | .ref _ :: r => xgo nx ls r h
  | .null :: r => xgo t ls r h
  | _ => none
def o_ifnn (t nx : Nat) : XOp := fun ls st h => match st with
  | .ref _ :: r => xgo t ls r h
  | .null :: r => xgo nx ls r h
  | _ => none
def o_goto (t : Nat) : XOp := fun ls st h => xgo t ls st h
def o_swp (x : Int32) : List (Int32 × Nat) → Nat → Nat
  | [], d => d
  | (k, t) :: r, d => cond (decide (x = k)) t (o_swp x r d)
def o_sw (ps : List (Int32 × Nat)) (d : Nat) : XOp := fun ls st h => match st with
  | .int x :: r => xgo (o_swp x ps d) ls r h
  | _ => none
def o_getf (ci k nx : Nat) : XOp := fun ls st h => match st with
  | .ref a :: r => match h.2.2 a with
    | some (_, .inr (c, fs)) => cond (Nat.beq c ci) (match fs[k]? with
      | some v => xgo nx ls (v :: r) h
      | none => none) none
    | _ => none
  | _ => none
/-- what a field of a kind takes: 0 int, 1 long, 2 a reference -/
def o_ok (kd : Nat) (v : Value) : Bool := match v with
  | .int _ => Nat.beq kd 0
  | .long _ => Nat.beq kd 1
  | .ref _ => Nat.beq kd 2
  | .null => Nat.beq kd 2
  | _ => false
def o_putf (ci k kd nx : Nat) : XOp := fun ls st h => match st with
  | v :: .ref a :: r => match h.2.2 a with
    | some (true, .inr (c, fs)) => cond (Nat.beq c ci && o_ok kd v && Nat.blt k fs.length) (xgo nx ls r (hset h a (.inr (ci, fs.set k v)))) none
    | _ => none
  | _ => none
def o_alen (nx : Nat) : XOp := fun ls st h => match st with
  | .ref a :: r => match h.2.2 a with
    | some (_, .inl (k, n, _)) => cond (Nat.blt k 11) (xgo nx ls (.int (Int32.ofNat n) :: r) h) none
    | _ => none
  | _ => none
def inb (i : Int32) (n : Nat) : Bool := !(decide (i < 0)) && Nat.blt i.toNatClampNeg n
def o_iald (kd nx : Nat) : XOp := fun ls st h => match st with
  | .int i :: .ref a :: r => match h.2.2 a with
    | some (_, .inl (k, n, .inl f)) => cond (Nat.beq k kd && inb i n) (xgo nx ls (.int (f i.toNatClampNeg) :: r) h) none
    | _ => none
  | _ => none
def o_lald (nx : Nat) : XOp := fun ls st h => match st with
  | .int i :: .ref a :: r => match h.2.2 a with
    | some (_, .inl (k, n, .inr (.inl f))) => cond (Nat.beq k 2 && inb i n) (xgo nx ls (.long (f i.toNatClampNeg) :: r) h) none
    | _ => none
  | _ => none
def o_aald (nx : Nat) : XOp := fun ls st h => match st with
  | .int i :: .ref a :: r => match h.2.2 a with
    | some (_, .inl (k, n, .inr (.inr (.inr (.inr f))))) => cond (Nat.blt 2 k && Nat.blt k 11 && inb i n) (match f i.toNatClampNeg with
      | none => xgo nx ls (.null :: r) h
      | some q => xgo nx ls (.ref q :: r) h) none
    | _ => none
  | _ => none
def o_iast (nx : Nat) : XOp := fun ls st h => match st with
  | .int x :: .int i :: .ref a :: r => match h.2.2 a with
    | some (true, .inl (k, n, .inl f)) => cond (Nat.beq k 1 && inb i n) (xgo nx ls r (hset h a (.inl (1, n, .inl (upd f i.toNatClampNeg x))))) none
    | _ => none
  | _ => none
def o_bast (nx : Nat) : XOp := fun ls st h => match st with
  | .int x :: .int i :: .ref a :: r => match h.2.2 a with
    | some (true, .inl (k, n, .inl f)) => cond (Nat.beq k 0 && inb i n) (xgo nx ls r (hset h a (.inl (0, n, .inl (upd f i.toNatClampNeg x.toInt8.toInt32))))) none
    | _ => none
  | _ => none
def o_last (nx : Nat) : XOp := fun ls st h => match st with
  | .long x :: .int i :: .ref a :: r => match h.2.2 a with
    | some (true, .inl (k, n, .inr (.inl f))) => cond (Nat.beq k 2 && inb i n) (xgo nx ls r (hset h a (.inl (2, n, .inr (.inl (vp_updL f i.toNatClampNeg x)))))) none
    | _ => none
  | _ => none
/-- the kind of what a cell is: an array's kind doubled, the class of an object doubled and one -/
def kof (c : Ce) : Nat := match c with
  | .inl (k, _) => 2 * k
  | .inr (c, _) => 2 * c + 1
/-- a store of a reference into an array of kind kd whose elements are of kind ek -/
def o_aast (kd ek nx : Nat) : XOp := fun ls st h => match st with
  | .ref v :: .int i :: .ref a :: r => match h.2.2 a, h.2.2 v with
    | some (true, .inl (k, n, .inr (.inr (.inr (.inr f))))), some (_, c) => cond (Nat.beq k kd && inb i n && Nat.beq (kof c) ek) (xgo nx ls r (hset h a (.inl (kd, n, .inr (.inr (.inr (.inr (va_up f i.toNatClampNeg (some v))))))))) none
    | _, _ => none
  | .null :: .int i :: .ref a :: r => match h.2.2 a with
    | some (true, .inl (k, n, .inr (.inr (.inr (.inr f))))) => cond (Nat.beq k kd && inb i n) (xgo nx ls r (hset h a (.inl (kd, n, .inr (.inr (.inr (.inr (va_up f i.toNatClampNeg none)))))))) none
    | _ => none
  | _ => none
def o_new (ci N : Nat) (fs : List Value) (nx : Nat) : XOp := fun ls st h => xgo nx ls (.ref h.1 :: st) (hnew h N (.inr (ci, fs)))
def o_newi (kd nx : Nat) : XOp := fun ls st h => match st with
  | .int n :: r => cond (inb n 100000) (xgo nx ls (.ref h.1 :: r) (hnew h n.toNatClampNeg (.inl (kd, n.toNatClampNeg, .inl (fun _ => 0))))) none
  | _ => none
def o_newl (nx : Nat) : XOp := fun ls st h => match st with
  | .int n :: r => cond (inb n 100000) (xgo nx ls (.ref h.1 :: r) (hnew h n.toNatClampNeg (.inl (2, n.toNatClampNeg, .inr (.inl (fun _ => 0)))))) none
  | _ => none
def o_newq (kd nx : Nat) : XOp := fun ls st h => match st with
  | .int n :: r => cond (inb n 100000) (xgo nx ls (.ref h.1 :: r) (hnew h n.toNatClampNeg (.inl (kd, n.toNatClampNeg, .inr (.inr (.inr (.inr (fun _ => none)))))))) none
  | _ => none
/-- new int[n][k] -/
def hrow (k : Nat) (h : Hp) : Hp := hnew h k (.inl (1, k, .inl (fun _ => 0)))
def o_mna (nx : Nat) : XOp := fun ls st h => match st with
  | .int k :: .int n :: r => cond (decide (n = 2) && decide (k = 12)) (xgo nx ls (.ref h.1 :: r) (hrow 12 (hrow 12 (hnew h 2 (.inl (3, 2, .inr (.inr (.inr (.inr (fun i => if i < 2 then some (h.1 + 1 + i) else none)))))))))) none
  | _ => none
/-- System.arraycopy of bytes or ints -/
def o_acp (nx : Nat) : XOp := fun ls st h => match st with
  | .int n :: .int dp :: .ref d :: .int sp :: .ref a :: r => match h.2.2 a, h.2.2 d with
    | some (_, .inl (ka, na, .inl f)), some (true, .inl (kd, nd, .inl g)) =>
      cond (Nat.ble (stw r) 8 && Nat.beq ka kd && Nat.blt kd 2 && !(decide (n < 0)) && !(decide (sp < 0)) && !(decide (dp < 0)) && Nat.ble (sp.toNatClampNeg + n.toNatClampNeg) na && Nat.ble (dp.toNatClampNeg + n.toNatClampNeg) nd)
        (xgo nx ls r (hset h d (.inl (kd, nd, .inl (va_cpy f g sp.toNatClampNeg dp.toNatClampNeg n.toNatClampNeg))))) none
    | _, _ => none
  | _ => none
def o_pop0 (nx : Nat) : XOp := fun ls st h => match st with
  | .ref _ :: r => cond (Nat.ble (stw r) 8) (xgo nx ls r h) none
  | _ => none
def o_call (mid : Nat) (As : List Value) (nx : Nat) (ls : Ls) (r : List Value) (h : Hp) : Option XStp := cond (Nat.ble (stw r) 8) (some (.inr (.inr (mid, As, nx, ls, r, h)))) none
/-- a call of a static method of n arguments -/
def o_inv (mid n nx : Nat) : XOp := fun ls st h => cond (Nat.ble n st.length) (o_call mid (st.take n).reverse nx ls (st.drop n) h) none
/-- a call on an object whose class counts -/
def o_invV (mid ci n nx : Nat) : XOp := fun ls st h => match st.drop n with
  | .ref a :: r => match h.2.2 a with
    | some (_, .inr (c, _)) => cond (Nat.beq c ci && Nat.ble n st.length) (o_call mid (.ref a :: (st.take n).reverse) nx ls r h) none
    | _ => none
  | _ => none
/-- a constructor's call -/
def o_invI (mid n nx : Nat) : XOp := fun ls st h => match st.drop n with
  | .ref a :: r => cond (Nat.ble n st.length) (o_call mid (.ref a :: (st.take n).reverse) nx ls r h) none
  | _ => none
def o_ret (v : Option Value) (h : Hp) : Option XStp := some (.inr (.inl (v, h)))
def o_iret : XOp := fun _ st h => match st with
  | [.int x] => o_ret (some (.int x)) h
  | _ => none
def o_zret : XOp := fun _ st h => match st with
  | [.int x] => cond (decide (x = 0) || decide (x = 1)) (o_ret (some (.int x)) h) none
  | _ => none
def o_lret : XOp := fun _ st h => match st with
  | [.long x] => o_ret (some (.long x)) h
  | _ => none
def o_aret : XOp := fun _ st h => match st with
  | [.ref x] => o_ret (some (.ref x)) h
  | [.null] => o_ret (some .null) h
  | _ => none
def o_vret : XOp := fun _ st h => match st with
  | [] => o_ret none h
  | _ => none
/-- throw new E(text): the kind of E, told as an int, its cell's slots -/
def o_thr (kd : Int32) (sl : Nat) : XOp := fun _ _ h => some (.inr (.inl (some (.int kd), hskip h 1 sl)))
/-- a program: code, how many locals; a method by its number -/
abbrev Pg : Type := Nat → Cd × Nat
def hle (h h' : Hp) : Bool := Nat.ble h.1 h'.1 && Nat.ble h.2.1 h'.2.1
def xexec (P : Pg) : Nat → Cd → Nat → Ls → List Value → Hp → Option (Option Value × Hp)
  | 0, _, _, _, _, _ => none
  | f + 1, cd, pc, ls, st, h => match cd pc with
    | none => none
    | some o => match o ls st h with
      | none => none
      | some (.inl (pc', ls', st', h')) => cond (hle h h') (xexec P f cd pc' ls' st' h') none
      | some (.inr (.inl (v, h'))) => cond (hle h h') (some (v, h')) none
      | some (.inr (.inr (mid, As, pc', ls', st', h'))) => cond (hle h h' && Nat.ble (lent As).length (P mid).2) (match xexec P f (P mid).1 0 (lpad (P mid).2 (lent As)) [] h' with
        | some (v, h2) => xexec P f cd pc' ls' (v.toList ++ st') h2
        | none => none) none
end
section
/-! names: classes, fields, methods -/
def RX0 : String := "ClassPools$ClassFile"
def TX0 : u_T := fun k => match k with
  | 0 => ("ClassPools$ClassFile", "pool", "LClassPools$Pool;", true)
  | 1 => ("ClassPools$ClassFile", "row", "LClassPools$Row;", true)
  | 2 => ("ClassPools$ClassFile", "behind", "I", false)
  | 3 => ("ClassPools$ClassFile", "attributesAt", "I", false)
  | 4 => ("ClassPools$ClassFile", "memberStarts", "[[I", true)
  | 5 => ("ClassPools$ClassFile", "memberCounts", "[I", true)
  | 6 => ("ClassPools$ClassFile", "tells", "[I", true)
  | 7 => ("ClassPools$ClassFile", "wants", "[I", true)
  | _ => ("ClassPools$ClassFile", "tellCount", "I", false)
def tyX0 : Nat → FieldType := fun k => match k with
  | 0 => .object "ClassPools$Pool"
  | 1 => .object "ClassPools$Row"
  | 2 => .int
  | 3 => .int
  | 4 => .array (.array .int)
  | 5 => .array .int
  | 6 => .array .int
  | 7 => .array .int
  | _ => .int
abbrev wsX00 : List Cond := u_ws RX0 TX0 9
theorem nmX0 : ∀ a, a < 9 → ∀ b, b < 9 → a ≠ b → (TX0 a).2.1 ≠ (TX0 b).2.1 := by decide +kernel
theorem tyX0_ok : ∀ k, k < 9 → parseFieldDescriptor (TX0 k).2.2.1 = some (tyX0 k) := by decide +kernel
abbrev cX0_init : ByteArray := prog_2_method_1_code
def yX0_init : MethodName := ⟨RX0, "<init>", "()V"⟩
abbrev cX0_begin : ByteArray := prog_2_method_2_code
def yX0_begin : MethodName := ⟨RX0, "begin", "(LClassPools$Row;)V"⟩
abbrev cX0_addTell : ByteArray := prog_2_method_3_code
def yX0_addTell : MethodName := ⟨RX0, "addTell", "(II)V"⟩
abbrev cX0_tellCount : ByteArray := prog_2_method_4_code
def yX0_tellCount : MethodName := ⟨RX0, "tellCount", "()I"⟩
abbrev cX0_tellAt : ByteArray := prog_2_method_5_code
def yX0_tellAt : MethodName := ⟨RX0, "tellAt", "(I)I"⟩
abbrev cX0_wanted : ByteArray := prog_2_method_6_code
def yX0_wanted : MethodName := ⟨RX0, "wanted", "(I)I"⟩
abbrev cX0_firstBehind : ByteArray := prog_2_method_7_code
def yX0_firstBehind : MethodName := ⟨RX0, "firstBehind", "()I"⟩
abbrev cX0_addMember : ByteArray := prog_2_method_8_code
def yX0_addMember : MethodName := ⟨RX0, "addMember", "(II)V"⟩
abbrev cX0_members : ByteArray := prog_2_method_9_code
def yX0_members : MethodName := ⟨RX0, "members", "(I)I"⟩
abbrev cX0_memberAt : ByteArray := prog_2_method_10_code
def yX0_memberAt : MethodName := ⟨RX0, "memberAt", "(II)I"⟩
abbrev cX0_faces : ByteArray := prog_2_method_11_code
def yX0_faces : MethodName := ⟨RX0, "faces", "()I"⟩
abbrev cX0_classPlace : ByteArray := prog_2_method_12_code
def yX0_classPlace : MethodName := ⟨RX0, "classPlace", "(I)I"⟩
abbrev cX0_attributesOf : ByteArray := prog_2_method_13_code
def yX0_attributesOf : MethodName := ⟨RX0, "attributesOf", "(II)I"⟩
abbrev cX0_attributeAt : ByteArray := prog_2_method_14_code
def yX0_attributeAt : MethodName := ⟨RX0, "attributeAt", "(III)I"⟩
abbrev cX0_meansAs : ByteArray := prog_2_method_15_code
def yX0_meansAs : MethodName := ⟨RX0, "meansAs", "(LClassPools$ClassFile;)Z"⟩
def RX1 : String := "ClassPools$Pool"
def TX1 : u_T := fun k => match k with
  | 0 => ("ClassPools$Pool", "row", "LClassPools$Row;", true)
  | 1 => ("ClassPools$Pool", "starts", "[I", true)
  | _ => ("ClassPools$Pool", "places", "I", false)
def tyX1 : Nat → FieldType := fun k => match k with
  | 0 => .object "ClassPools$Row"
  | 1 => .array .int
  | _ => .int
abbrev wsX10 : List Cond := u_ws RX1 TX1 3
theorem nmX1 : ∀ a, a < 3 → ∀ b, b < 3 → a ≠ b → (TX1 a).2.1 ≠ (TX1 b).2.1 := by decide +kernel
theorem tyX1_ok : ∀ k, k < 3 → parseFieldDescriptor (TX1 k).2.2.1 = some (tyX1 k) := by decide +kernel
abbrev cX1_init : ByteArray := prog_3_method_1_code
def yX1_init : MethodName := ⟨RX1, "<init>", "()V"⟩
abbrev cX1_places : ByteArray := prog_3_method_2_code
def yX1_places : MethodName := ⟨RX1, "places", "()I"⟩
abbrev cX1_has : ByteArray := prog_3_method_3_code
def yX1_has : MethodName := ⟨RX1, "has", "(I)Z"⟩
abbrev cX1_begin : ByteArray := prog_3_method_4_code
def yX1_begin : MethodName := ⟨RX1, "begin", "(I)V"⟩
abbrev cX1_set : ByteArray := prog_3_method_5_code
def yX1_set : MethodName := ⟨RX1, "set", "(II)V"⟩
abbrev cX1_copy : ByteArray := prog_3_method_6_code
def yX1_copy : MethodName := ⟨RX1, "copy", "(LClassPools$Pool;)V"⟩
abbrev cX1_start : ByteArray := prog_3_method_7_code
def yX1_start : MethodName := ⟨RX1, "start", "(I)I"⟩
abbrev cX1_tag : ByteArray := prog_3_method_8_code
def yX1_tag : MethodName := ⟨RX1, "tag", "(I)I"⟩
abbrev cX1_twoOf : ByteArray := prog_3_method_9_code
def yX1_twoOf : MethodName := ⟨RX1, "twoOf", "(II)I"⟩
abbrev cX1_first : ByteArray := prog_3_method_10_code
def yX1_first : MethodName := ⟨RX1, "first", "(I)I"⟩
abbrev cX1_second : ByteArray := prog_3_method_11_code
def yX1_second : MethodName := ⟨RX1, "second", "(I)I"⟩
abbrev cX1_textAt : ByteArray := prog_3_method_12_code
def yX1_textAt : MethodName := ⟨RX1, "textAt", "(I)I"⟩
abbrev cX1_textSize : ByteArray := prog_3_method_13_code
def yX1_textSize : MethodName := ⟨RX1, "textSize", "(I)I"⟩
abbrev cX1_bits : ByteArray := prog_3_method_14_code
def yX1_bits : MethodName := ⟨RX1, "bits", "(I)J"⟩
abbrev cX1_bytesOf : ByteArray := prog_3_method_15_code
def yX1_bytesOf : MethodName := ⟨RX1, "bytesOf", "(I)I"⟩
abbrev cX1_wrong : ByteArray := prog_3_method_16_code
def yX1_wrong : MethodName := ⟨RX1, "wrong", "(II)I"⟩
abbrev cX1_textOf : ByteArray := prog_3_method_17_code
def yX1_textOf : MethodName := ⟨RX1, "textOf", "(II)I"⟩
abbrev cX1_order : ByteArray := prog_3_method_18_code
def yX1_order : MethodName := ⟨RX1, "order", "(ILClassPools$Pool;I)I"⟩
def RX2 : String := "ClassPools$Ranking"
def TX2 : u_T := fun k => match k with
  | 0 => ("ClassPools$Ranking", "pools", "[LClassPools$Pool;", true)
  | 1 => ("ClassPools$Ranking", "poolCount", "I", false)
  | 2 => ("ClassPools$Ranking", "owners", "[I", true)
  | 3 => ("ClassPools$Ranking", "places", "[I", true)
  | _ => ("ClassPools$Ranking", "size", "I", false)
def tyX2 : Nat → FieldType := fun k => match k with
  | 0 => .array (.object "ClassPools$Pool")
  | 1 => .int
  | 2 => .array .int
  | 3 => .array .int
  | _ => .int
abbrev wsX20 : List Cond := u_ws RX2 TX2 5
theorem nmX2 : ∀ a, a < 5 → ∀ b, b < 5 → a ≠ b → (TX2 a).2.1 ≠ (TX2 b).2.1 := by decide +kernel
theorem tyX2_ok : ∀ k, k < 5 → parseFieldDescriptor (TX2 k).2.2.1 = some (tyX2 k) := by decide +kernel
abbrev cX2_init : ByteArray := prog_4_method_1_code
def yX2_init : MethodName := ⟨RX2, "<init>", "()V"⟩
abbrev cX2_clear : ByteArray := prog_4_method_2_code
def yX2_clear : MethodName := ⟨RX2, "clear", "()V"⟩
abbrev cX2_size : ByteArray := prog_4_method_3_code
def yX2_size : MethodName := ⟨RX2, "size", "()I"⟩
abbrev cX2_add : ByteArray := prog_4_method_4_code
def yX2_add : MethodName := ⟨RX2, "add", "(LClassPools$Pool;)Z"⟩
abbrev cX2_insert : ByteArray := prog_4_method_5_code
def yX2_insert : MethodName := ⟨RX2, "insert", "(II)Z"⟩
abbrev cX2_find : ByteArray := prog_4_method_6_code
def yX2_find : MethodName := ⟨RX2, "find", "(LClassPools$Pool;I)I"⟩
abbrev cX2_firstNotBelow : ByteArray := prog_4_method_7_code
def yX2_firstNotBelow : MethodName := ⟨RX2, "firstNotBelow", "(LClassPools$Pool;I)I"⟩
abbrev cX2_orderOf : ByteArray := prog_4_method_8_code
def yX2_orderOf : MethodName := ⟨RX2, "orderOf", "(ILClassPools$Pool;I)I"⟩
abbrev cX2_poolOf : ByteArray := prog_4_method_9_code
def yX2_poolOf : MethodName := ⟨RX2, "poolOf", "(I)LClassPools$Pool;"⟩
abbrev cX2_placeOf : ByteArray := prog_4_method_10_code
def yX2_placeOf : MethodName := ⟨RX2, "placeOf", "(I)I"⟩
abbrev cX2_tag : ByteArray := prog_4_method_11_code
def yX2_tag : MethodName := ⟨RX2, "tag", "(I)I"⟩
abbrev cX2_tally : ByteArray := prog_4_method_12_code
def yX2_tally : MethodName := ⟨RX2, "tally", "(ILClassPools$Pool;)I"⟩
def RX3 : String := "ClassPools$Reader"
def TX3 : u_T := fun k => match k with
  | 0 => ("ClassPools$Reader", "fault", "I", false)
  | 1 => ("ClassPools$Reader", "where", "I", false)
  | 2 => ("ClassPools$Reader", "file", "LClassPools$ClassFile;", true)
  | 3 => ("ClassPools$Reader", "row", "LClassPools$Row;", true)
  | _ => ("ClassPools$Reader", "at", "I", false)
def tyX3 : Nat → FieldType := fun k => match k with
  | 0 => .int
  | 1 => .int
  | 2 => .object "ClassPools$ClassFile"
  | 3 => .object "ClassPools$Row"
  | _ => .int
abbrev wsX30 : List Cond := u_ws RX3 TX3 5
theorem nmX3 : ∀ a, a < 5 → ∀ b, b < 5 → a ≠ b → (TX3 a).2.1 ≠ (TX3 b).2.1 := by decide +kernel
theorem tyX3_ok : ∀ k, k < 5 → parseFieldDescriptor (TX3 k).2.2.1 = some (tyX3 k) := by decide +kernel
abbrev cX3_init : ByteArray := prog_5_method_1_code
def yX3_init : MethodName := ⟨RX3, "<init>", "(LClassPools$ClassFile;)V"⟩
abbrev cX3_fail : ByteArray := prog_5_method_2_code
def yX3_fail : MethodName := ⟨RX3, "fail", "(II)V"⟩
abbrev cX3_scan : ByteArray := prog_5_method_3_code
def yX3_scan : MethodName := ⟨RX3, "scan", "()V"⟩
abbrev cX3_skip : ByteArray := prog_5_method_4_code
def yX3_skip : MethodName := ⟨RX3, "skip", "(I)V"⟩
abbrev cX3_tell : ByteArray := prog_5_method_5_code
def yX3_tell : MethodName := ⟨RX3, "tell", "(I)V"⟩
abbrev cX3_two : ByteArray := prog_5_method_6_code
def yX3_two : MethodName := ⟨RX3, "two", "()I"⟩
abbrev cX3_many : ByteArray := prog_5_method_7_code
def yX3_many : MethodName := ⟨RX3, "many", "(I)I"⟩
abbrev cX3_magic : ByteArray := prog_5_method_8_code
def yX3_magic : MethodName := ⟨RX3, "magic", "()V"⟩
abbrev cX3_entries : ByteArray := prog_5_method_9_code
def yX3_entries : MethodName := ⟨RX3, "entries", "()V"⟩
abbrev cX3_anEntry : ByteArray := prog_5_method_10_code
def yX3_anEntry : MethodName := ⟨RX3, "anEntry", "(Z)V"⟩
abbrev cX3_classAbove : ByteArray := prog_5_method_11_code
def yX3_classAbove : MethodName := ⟨RX3, "classAbove", "()V"⟩
abbrev cX3_members : ByteArray := prog_5_method_12_code
def yX3_members : MethodName := ⟨RX3, "members", "(I)V"⟩
abbrev cX3_attributes : ByteArray := prog_5_method_13_code
def yX3_attributes : MethodName := ⟨RX3, "attributes", "()V"⟩
abbrev cX3_checkTells : ByteArray := prog_5_method_14_code
def yX3_checkTells : MethodName := ⟨RX3, "checkTells", "()V"⟩
abbrev cX3_checkSorts : ByteArray := prog_5_method_15_code
def yX3_checkSorts : MethodName := ⟨RX3, "checkSorts", "(I)V"⟩
def RX4 : String := "ClassPools$Row"
def TX4 : u_T := fun k => match k with
  | 0 => ("ClassPools$Row", "bytes", "[B", true)
  | _ => ("ClassPools$Row", "size", "I", false)
def tyX4 : Nat → FieldType := fun k => match k with
  | 0 => .array .byte
  | _ => .int
abbrev wsX40 : List Cond := u_ws RX4 TX4 2
theorem nmX4 : ∀ a, a < 2 → ∀ b, b < 2 → a ≠ b → (TX4 a).2.1 ≠ (TX4 b).2.1 := by decide +kernel
theorem tyX4_ok : ∀ k, k < 2 → parseFieldDescriptor (TX4 k).2.2.1 = some (tyX4 k) := by decide +kernel
abbrev cX4_init : ByteArray := prog_6_method_1_code
def yX4_init : MethodName := ⟨RX4, "<init>", "()V"⟩
abbrev cX4_size : ByteArray := prog_6_method_2_code
def yX4_size : MethodName := ⟨RX4, "size", "()I"⟩
abbrev cX4_has : ByteArray := prog_6_method_3_code
def yX4_has : MethodName := ⟨RX4, "has", "(II)Z"⟩
abbrev cX4_one : ByteArray := prog_6_method_4_code
def yX4_one : MethodName := ⟨RX4, "one", "(I)I"⟩
abbrev cX4_two : ByteArray := prog_6_method_5_code
def yX4_two : MethodName := ⟨RX4, "two", "(I)I"⟩
abbrev cX4_four : ByteArray := prog_6_method_6_code
def yX4_four : MethodName := ⟨RX4, "four", "(I)I"⟩
abbrev cX4_clear : ByteArray := prog_6_method_7_code
def yX4_clear : MethodName := ⟨RX4, "clear", "()V"⟩
abbrev cX4_push : ByteArray := prog_6_method_8_code
def yX4_push : MethodName := ⟨RX4, "push", "(I)V"⟩
abbrev cX4_pushTwo : ByteArray := prog_6_method_9_code
def yX4_pushTwo : MethodName := ⟨RX4, "pushTwo", "(I)V"⟩
abbrev cX4_putTwo : ByteArray := prog_6_method_10_code
def yX4_putTwo : MethodName := ⟨RX4, "putTwo", "(II)V"⟩
abbrev cX4_append : ByteArray := prog_6_method_11_code
def yX4_append : MethodName := ⟨RX4, "append", "(LClassPools$Row;II)V"⟩
abbrev cX4_take : ByteArray := prog_6_method_12_code
def yX4_take : MethodName := ⟨RX4, "take", "(LClassPools$Row;II)I"⟩
abbrev cX4_order : ByteArray := prog_6_method_13_code
def yX4_order : MethodName := ⟨RX4, "order", "(IILClassPools$Row;II)I"⟩
def RX5 : String := "ClassPools$Sorts"
def TX5 : u_T := fun k => match k with
  | _ => ("", "", "", false)
def tyX5 : Nat → FieldType := fun k => match k with
  | _ => .int
abbrev wsX50 : List Cond := u_ws RX5 TX5 0
theorem nmX5 : ∀ a, a < 0 → ∀ b, b < 0 → a ≠ b → (TX5 a).2.1 ≠ (TX5 b).2.1 := by decide +kernel
theorem tyX5_ok : ∀ k, k < 0 → parseFieldDescriptor (TX5 k).2.2.1 = some (tyX5 k) := by decide +kernel
abbrev cX5_isType : ByteArray := prog_7_method_2_code
def yX5_isType : MethodName := ⟨RX5, "isType", "(LClassPools$Row;II)Z"⟩
abbrev cX5_isMethod : ByteArray := prog_7_method_3_code
def yX5_isMethod : MethodName := ⟨RX5, "isMethod", "(LClassPools$Row;II)Z"⟩
abbrev cX5_width : ByteArray := prog_7_method_4_code
def yX5_width : MethodName := ⟨RX5, "width", "(LClassPools$Row;I)I"⟩
abbrev cX5_sum : ByteArray := prog_7_method_5_code
def yX5_sum : MethodName := ⟨RX5, "sum", "(LClassPools$Row;IIZ)I"⟩
abbrev cX5_closing : ByteArray := prog_7_method_6_code
def yX5_closing : MethodName := ⟨RX5, "closing", "(LClassPools$Row;II)I"⟩
abbrev cX5_typeEnd : ByteArray := prog_7_method_7_code
def yX5_typeEnd : MethodName := ⟨RX5, "typeEnd", "(LClassPools$Row;II)I"⟩
abbrev cX5_nameEnd : ByteArray := prog_7_method_8_code
def yX5_nameEnd : MethodName := ⟨RX5, "nameEnd", "(LClassPools$Row;II)I"⟩
def RX6 : String := "ClassPools$Writer"
def TX6 : u_T := fun k => match k with
  | 0 => ("ClassPools$Writer", "row", "LClassPools$Row;", true)
  | 1 => ("ClassPools$Writer", "heads", "[I", true)
  | _ => ("ClassPools$Writer", "moved", "[I", true)
def tyX6 : Nat → FieldType := fun k => match k with
  | 0 => .object "ClassPools$Row"
  | 1 => .array .int
  | _ => .array .int
abbrev wsX60 : List Cond := u_ws RX6 TX6 3
theorem nmX6 : ∀ a, a < 3 → ∀ b, b < 3 → a ≠ b → (TX6 a).2.1 ≠ (TX6 b).2.1 := by decide +kernel
theorem tyX6_ok : ∀ k, k < 3 → parseFieldDescriptor (TX6 k).2.2.1 = some (tyX6 k) := by decide +kernel
abbrev cX6_init : ByteArray := prog_8_method_1_code
def yX6_init : MethodName := ⟨RX6, "<init>", "(LClassPools$Row;)V"⟩
abbrev cX6_movePlaces : ByteArray := prog_8_method_2_code
def yX6_movePlaces : MethodName := ⟨RX6, "movePlaces", "(LClassPools$ClassFile;LClassPools$Ranking;)I"⟩
abbrev cX6_push : ByteArray := prog_8_method_3_code
def yX6_push : MethodName := ⟨RX6, "push", "(LClassPools$ClassFile;LClassPools$Ranking;I)I"⟩
abbrev cX6_movedTo : ByteArray := prog_8_method_4_code
def yX6_movedTo : MethodName := ⟨RX6, "movedTo", "(I)I"⟩
abbrev cX6_pushEntry : ByteArray := prog_8_method_5_code
def yX6_pushEntry : MethodName := ⟨RX6, "pushEntry", "(LClassPools$Pool;I)V"⟩
abbrev cX6_pushRest : ByteArray := prog_8_method_6_code
def yX6_pushRest : MethodName := ⟨RX6, "pushRest", "(LClassPools$ClassFile;)V"⟩
def RX7 : String := "ClassPools"
def TX7 : u_T := fun k => match k with
  | 0 => ("ClassPools", "tape", "LClassPools$Row;", true)
  | 1 => ("ClassPools", "shown", "LClassPools$Row;", true)
  | 2 => ("ClassPools", "files", "[LClassPools$ClassFile;", true)
  | 3 => ("ClassPools", "count", "I", false)
  | 4 => ("ClassPools", "faultPlace", "I", false)
  | 5 => ("ClassPools", "reckoned", "LClassPools$Ranking;", false)
  | 6 => ("ClassPools", "trial", "LClassPools$Ranking;", false)
  | _ => ("ClassPools", "writer", "LClassPools$Writer;", true)
def tyX7 : Nat → FieldType := fun k => match k with
  | 0 => .object "ClassPools$Row"
  | 1 => .object "ClassPools$Row"
  | 2 => .array (.object "ClassPools$ClassFile")
  | 3 => .int
  | 4 => .int
  | 5 => .object "ClassPools$Ranking"
  | 6 => .object "ClassPools$Ranking"
  | _ => .object "ClassPools$Writer"
abbrev wsX70 : List Cond := u_ws RX7 TX7 8
theorem nmX7 : ∀ a, a < 8 → ∀ b, b < 8 → a ≠ b → (TX7 a).2.1 ≠ (TX7 b).2.1 := by decide +kernel
theorem tyX7_ok : ∀ k, k < 8 → parseFieldDescriptor (TX7 k).2.2.1 = some (tyX7 k) := by decide +kernel
abbrev cX7_init : ByteArray := prog_1_method_1_code
def yX7_init : MethodName := ⟨RX7, "<init>", "()V"⟩
abbrev cX7_feed : ByteArray := prog_1_method_2_code
def yX7_feed : MethodName := ⟨RX7, "feed", "(JI)I"⟩
abbrev cX7_read : ByteArray := prog_1_method_3_code
def yX7_read : MethodName := ⟨RX7, "read", "()I"⟩
abbrev cX7_place : ByteArray := prog_1_method_4_code
def yX7_place : MethodName := ⟨RX7, "place", "()I"⟩
abbrev cX7_drop : ByteArray := prog_1_method_5_code
def yX7_drop : MethodName := ⟨RX7, "drop", "(I)I"⟩
abbrev cX7_file : ByteArray := prog_1_method_6_code
def yX7_file : MethodName := ⟨RX7, "file", "(II)I"⟩
abbrev cX7_entry : ByteArray := prog_1_method_7_code
def yX7_entry : MethodName := ⟨RX7, "entry", "(III)I"⟩
abbrev cX7_number : ByteArray := prog_1_method_8_code
def yX7_number : MethodName := ⟨RX7, "number", "(II)J"⟩
abbrev cX7_text : ByteArray := prog_1_method_9_code
def yX7_text : MethodName := ⟨RX7, "text", "(III)I"⟩
abbrev cX7_member : ByteArray := prog_1_method_10_code
def yX7_member : MethodName := ⟨RX7, "member", "(IIII)I"⟩
abbrev cX7_told : ByteArray := prog_1_method_11_code
def yX7_told : MethodName := ⟨RX7, "told", "(IIII)I"⟩
abbrev cX7_attribute : ByteArray := prog_1_method_12_code
def yX7_attribute : MethodName := ⟨RX7, "attribute", "(IIIII)I"⟩
abbrev cX7_out : ByteArray := prog_1_method_13_code
def yX7_out : MethodName := ⟨RX7, "out", "(I)I"⟩
abbrev cX7_join : ByteArray := prog_1_method_14_code
def yX7_join : MethodName := ⟨RX7, "join", "()I"⟩
abbrev cX7_joined : ByteArray := prog_1_method_15_code
def yX7_joined : MethodName := ⟨RX7, "joined", "(II)I"⟩
abbrev cX7_meaning : ByteArray := prog_1_method_16_code
def yX7_meaning : MethodName := ⟨RX7, "meaning", "(II)I"⟩
abbrev cX7_alike : ByteArray := prog_1_method_17_code
def yX7_alike : MethodName := ⟨RX7, "alike", "(II)I"⟩
abbrev cX7_write : ByteArray := prog_1_method_18_code
def yX7_write : MethodName := ⟨RX7, "write", "(II)I"⟩
abbrev cX7_back : ByteArray := prog_1_method_19_code
def yX7_back : MethodName := ⟨RX7, "back", "()I"⟩
abbrev cX7_fileAt : ByteArray := prog_1_method_20_code
def yX7_fileAt : MethodName := ⟨RX7, "fileAt", "(I)LClassPools$ClassFile;"⟩
abbrev cX7_showText : ByteArray := prog_1_method_21_code
def yX7_showText : MethodName := ⟨RX7, "showText", "(LClassPools$ClassFile;I)I"⟩
abbrev cX7_showClass : ByteArray := prog_1_method_22_code
def yX7_showClass : MethodName := ⟨RX7, "showClass", "(LClassPools$ClassFile;II)I"⟩
abbrev cX7_placesOf : ByteArray := prog_1_method_23_code
def yX7_placesOf : MethodName := ⟨RX7, "placesOf", "(I)I"⟩
abbrev cX7_isNumber : ByteArray := prog_1_method_24_code
def yX7_isNumber : MethodName := ⟨RX7, "isNumber", "(I)Z"⟩
abbrev cX7_isWide : ByteArray := prog_1_method_25_code
def yX7_isWide : MethodName := ⟨RX7, "isWide", "(I)Z"⟩
abbrev cX7_isTag : ByteArray := prog_1_method_26_code
def yX7_isTag : MethodName := ⟨RX7, "isTag", "(I)Z"⟩
def RX8 : String := "ClassPoolsModel$Attributes"
def TX8 : u_T := fun k => match k with
  | 0 => ("ClassPoolsModel$Attributes", "count", "I", false)
  | _ => ("ClassPoolsModel$Attributes", "at", "[I", true)
def tyX8 : Nat → FieldType := fun k => match k with
  | 0 => .int
  | _ => .array .int
abbrev wsX80 : List Cond := u_ws RX8 TX8 2
theorem nmX8 : ∀ a, a < 2 → ∀ b, b < 2 → a ≠ b → (TX8 a).2.1 ≠ (TX8 b).2.1 := by decide +kernel
theorem tyX8_ok : ∀ k, k < 2 → parseFieldDescriptor (TX8 k).2.2.1 = some (tyX8 k) := by decide +kernel
abbrev cX8_init : ByteArray := prog_11_method_1_code
def yX8_init : MethodName := ⟨RX8, "<init>", "()V"⟩
def RX9 : String := "ClassPoolsModel$HeldFile"
def TX9 : u_T := fun k => match k with
  | 0 => ("ClassPoolsModel$HeldFile", "b", "[B", false)
  | 1 => ("ClassPoolsModel$HeldFile", "places", "I", false)
  | 2 => ("ClassPoolsModel$HeldFile", "tags", "[I", true)
  | 3 => ("ClassPoolsModel$HeldFile", "at", "[I", true)
  | 4 => ("ClassPoolsModel$HeldFile", "texts", "[[B", true)
  | 5 => ("ClassPoolsModel$HeldFile", "behind", "I", false)
  | 6 => ("ClassPoolsModel$HeldFile", "faces", "I", false)
  | 7 => ("ClassPoolsModel$HeldFile", "members", "[[LClassPoolsModel$Member;", true)
  | 8 => ("ClassPoolsModel$HeldFile", "counts", "[I", true)
  | _ => ("ClassPoolsModel$HeldFile", "own", "LClassPoolsModel$Attributes;", false)
def tyX9 : Nat → FieldType := fun k => match k with
  | 0 => .array .byte
  | 1 => .int
  | 2 => .array .int
  | 3 => .array .int
  | 4 => .array (.array .byte)
  | 5 => .int
  | 6 => .int
  | 7 => .array (.array (.object "ClassPoolsModel$Member"))
  | 8 => .array .int
  | _ => .object "ClassPoolsModel$Attributes"
abbrev wsX90 : List Cond := u_ws RX9 TX9 10
theorem nmX9 : ∀ a, a < 10 → ∀ b, b < 10 → a ≠ b → (TX9 a).2.1 ≠ (TX9 b).2.1 := by decide +kernel
theorem tyX9_ok : ∀ k, k < 10 → parseFieldDescriptor (TX9 k).2.2.1 = some (tyX9 k) := by decide +kernel
abbrev cX9_init : ByteArray := prog_12_method_1_code
def yX9_init : MethodName := ⟨RX9, "<init>", "()V"⟩
abbrev cX9_two : ByteArray := prog_12_method_2_code
def yX9_two : MethodName := ⟨RX9, "two", "(I)I"⟩
abbrev cX9_four : ByteArray := prog_12_method_3_code
def yX9_four : MethodName := ⟨RX9, "four", "(I)I"⟩
abbrev cX9_bits : ByteArray := prog_12_method_4_code
def yX9_bits : MethodName := ⟨RX9, "bits", "(I)J"⟩
abbrev cX9_first : ByteArray := prog_12_method_5_code
def yX9_first : MethodName := ⟨RX9, "first", "(I)I"⟩
abbrev cX9_second : ByteArray := prog_12_method_6_code
def yX9_second : MethodName := ⟨RX9, "second", "(I)I"⟩
def RX10 : String := "ClassPoolsModel$Meaning"
def TX10 : u_T := fun k => match k with
  | 0 => ("ClassPoolsModel$Meaning", "tag", "I", false)
  | 1 => ("ClassPoolsModel$Meaning", "bits", "J", false)
  | 2 => ("ClassPoolsModel$Meaning", "a", "[B", false)
  | 3 => ("ClassPoolsModel$Meaning", "b", "[B", false)
  | _ => ("ClassPoolsModel$Meaning", "c", "[B", false)
def tyX10 : Nat → FieldType := fun k => match k with
  | 0 => .int
  | 1 => .long
  | 2 => .array .byte
  | 3 => .array .byte
  | _ => .array .byte
abbrev wsX100 : List Cond := u_ws RX10 TX10 5
theorem nmX10 : ∀ a, a < 5 → ∀ b, b < 5 → a ≠ b → (TX10 a).2.1 ≠ (TX10 b).2.1 := by decide +kernel
theorem tyX10_ok : ∀ k, k < 5 → parseFieldDescriptor (TX10 k).2.2.1 = some (tyX10 k) := by decide +kernel
abbrev cX10_init : ByteArray := prog_13_method_1_code
def yX10_init : MethodName := ⟨RX10, "<init>", "()V"⟩
def RX11 : String := "ClassPoolsModel$Member"
def TX11 : u_T := fun k => match k with
  | 0 => ("ClassPoolsModel$Member", "at", "I", false)
  | _ => ("ClassPoolsModel$Member", "attributes", "LClassPoolsModel$Attributes;", false)
def tyX11 : Nat → FieldType := fun k => match k with
  | 0 => .int
  | _ => .object "ClassPoolsModel$Attributes"
abbrev wsX110 : List Cond := u_ws RX11 TX11 2
theorem nmX11 : ∀ a, a < 2 → ∀ b, b < 2 → a ≠ b → (TX11 a).2.1 ≠ (TX11 b).2.1 := by decide +kernel
theorem tyX11_ok : ∀ k, k < 2 → parseFieldDescriptor (TX11 k).2.2.1 = some (tyX11 k) := by decide +kernel
abbrev cX11_init : ByteArray := prog_14_method_1_code
def yX11_init : MethodName := ⟨RX11, "<init>", "()V"⟩
def RX12 : String := "ClassPoolsModel"
def TX12 : u_T := fun k => match k with
  | 0 => ("ClassPoolsModel", "code", "I", false)
  | 1 => ("ClassPoolsModel", "files", "[LClassPoolsModel$HeldFile;", true)
  | 2 => ("ClassPoolsModel", "count", "I", false)
  | 3 => ("ClassPoolsModel", "tape", "[B", true)
  | 4 => ("ClassPoolsModel", "taped", "I", false)
  | 5 => ("ClassPoolsModel", "out", "[B", false)
  | 6 => ("ClassPoolsModel", "now", "LClassPoolsModel$HeldFile;", false)
  | 7 => ("ClassPoolsModel", "at", "I", false)
  | 8 => ("ClassPoolsModel", "fault", "I", false)
  | 9 => ("ClassPoolsModel", "faultPlace", "I", false)
  | 10 => ("ClassPoolsModel", "joined", "[LClassPoolsModel$Meaning;", false)
  | 11 => ("ClassPoolsModel", "joinedCount", "I", false)
  | 12 => ("ClassPoolsModel", "made", "[B", true)
  | 13 => ("ClassPoolsModel", "madeSize", "I", false)
  | 14 => ("ClassPoolsModel", "ordered", "[LClassPoolsModel$Meaning;", false)
  | 15 => ("ClassPoolsModel", "orderedCount", "I", false)
  | _ => ("ClassPoolsModel", "newPlaces", "[I", true)
def tyX12 : Nat → FieldType := fun k => match k with
  | 0 => .int
  | 1 => .array (.object "ClassPoolsModel$HeldFile")
  | 2 => .int
  | 3 => .array .byte
  | 4 => .int
  | 5 => .array .byte
  | 6 => .object "ClassPoolsModel$HeldFile"
  | 7 => .int
  | 8 => .int
  | 9 => .int
  | 10 => .array (.object "ClassPoolsModel$Meaning")
  | 11 => .int
  | 12 => .array .byte
  | 13 => .int
  | 14 => .array (.object "ClassPoolsModel$Meaning")
  | 15 => .int
  | _ => .array .int
abbrev wsX120 : List Cond := u_ws RX12 TX12 17
theorem nmX12 : ∀ a, a < 17 → ∀ b, b < 17 → a ≠ b → (TX12 a).2.1 ≠ (TX12 b).2.1 := by decide +kernel
theorem tyX12_ok : ∀ k, k < 17 → parseFieldDescriptor (TX12 k).2.2.1 = some (tyX12 k) := by decide +kernel
abbrev cX12_init : ByteArray := prog_10_method_1_code
def yX12_init : MethodName := ⟨RX12, "<init>", "()V"⟩
abbrev cX12_thrown : ByteArray := prog_10_method_2_code
def yX12_thrown : MethodName := ⟨RX12, "thrown", "()I"⟩
abbrev cX12_isIn : ByteArray := prog_10_method_3_code
def yX12_isIn : MethodName := ⟨RX12, "isIn", "(III)Z"⟩
abbrev cX12_isFile : ByteArray := prog_10_method_4_code
def yX12_isFile : MethodName := ⟨RX12, "isFile", "(I)Z"⟩
abbrev cX12_feed : ByteArray := prog_10_method_5_code
def yX12_feed : MethodName := ⟨RX12, "feed", "(JI)I"⟩
abbrev cX12_fails : ByteArray := prog_10_method_6_code
def yX12_fails : MethodName := ⟨RX12, "fails", "(II)V"⟩
abbrev cX12_goes : ByteArray := prog_10_method_7_code
def yX12_goes : MethodName := ⟨RX12, "goes", "(I)Z"⟩
abbrev cX12_nextTwo : ByteArray := prog_10_method_8_code
def yX12_nextTwo : MethodName := ⟨RX12, "nextTwo", "()I"⟩
abbrev cX12_many : ByteArray := prog_10_method_9_code
def yX12_many : MethodName := ⟨RX12, "many", "(I)I"⟩
abbrev cX12_parse : ByteArray := prog_10_method_10_code
def yX12_parse : MethodName := ⟨RX12, "parse", "()V"⟩
abbrev cX12_attributes : ByteArray := prog_10_method_11_code
def yX12_attributes : MethodName := ⟨RX12, "attributes", "()LClassPoolsModel$Attributes;"⟩
abbrev cX12_entry : ByteArray := prog_10_method_12_code
def yX12_entry : MethodName := ⟨RX12, "entry", "(I)I"⟩
abbrev cX12_part : ByteArray := prog_10_method_13_code
def yX12_part : MethodName := ⟨RX12, "part", "([BII)[B"⟩
abbrev cX12_wrongPlace : ByteArray := prog_10_method_14_code
def yX12_wrongPlace : MethodName := ⟨RX12, "wrongPlace", "(LClassPoolsModel$HeldFile;II)I"⟩
abbrev cX12_place : ByteArray := prog_10_method_15_code
def yX12_place : MethodName := ⟨RX12, "place", "(II)V"⟩
abbrev cX12_names : ByteArray := prog_10_method_16_code
def yX12_names : MethodName := ⟨RX12, "names", "(LClassPoolsModel$Attributes;)V"⟩
abbrev cX12_places : ByteArray := prog_10_method_17_code
def yX12_places : MethodName := ⟨RX12, "places", "()V"⟩
abbrev cX12_type : ByteArray := prog_10_method_18_code
def yX12_type : MethodName := ⟨RX12, "type", "([BI)I"⟩
abbrev cX12_slotsOf : ByteArray := prog_10_method_19_code
def yX12_slotsOf : MethodName := ⟨RX12, "slotsOf", "([BI)I"⟩
abbrev cX12_isSort : ByteArray := prog_10_method_20_code
def yX12_isSort : MethodName := ⟨RX12, "isSort", "([BI)Z"⟩
abbrev cX12_sortOf : ByteArray := prog_10_method_21_code
def yX12_sortOf : MethodName := ⟨RX12, "sortOf", "(LClassPoolsModel$HeldFile;II)[B"⟩
abbrev cX12_read : ByteArray := prog_10_method_22_code
def yX12_read : MethodName := ⟨RX12, "read", "()I"⟩
abbrev cX12_place_ : ByteArray := prog_10_method_23_code
def yX12_place_ : MethodName := ⟨RX12, "place", "()I"⟩
abbrev cX12_drop : ByteArray := prog_10_method_24_code
def yX12_drop : MethodName := ⟨RX12, "drop", "(I)I"⟩
abbrev cX12_file : ByteArray := prog_10_method_25_code
def yX12_file : MethodName := ⟨RX12, "file", "(II)I"⟩
abbrev cX12_entry_ : ByteArray := prog_10_method_26_code
def yX12_entry_ : MethodName := ⟨RX12, "entry", "(III)I"⟩
abbrev cX12_number : ByteArray := prog_10_method_27_code
def yX12_number : MethodName := ⟨RX12, "number", "(II)J"⟩
abbrev cX12_shows : ByteArray := prog_10_method_28_code
def yX12_shows : MethodName := ⟨RX12, "shows", "([B)I"⟩
abbrev cX12_text : ByteArray := prog_10_method_29_code
def yX12_text : MethodName := ⟨RX12, "text", "(III)I"⟩
abbrev cX12_member : ByteArray := prog_10_method_30_code
def yX12_member : MethodName := ⟨RX12, "member", "(IIII)I"⟩
abbrev cX12_told : ByteArray := prog_10_method_31_code
def yX12_told : MethodName := ⟨RX12, "told", "(IIII)I"⟩
abbrev cX12_attribute : ByteArray := prog_10_method_32_code
def yX12_attribute : MethodName := ⟨RX12, "attribute", "(IIIII)I"⟩
abbrev cX12_out : ByteArray := prog_10_method_33_code
def yX12_out : MethodName := ⟨RX12, "out", "(I)I"⟩
abbrev cX12_meaningOf : ByteArray := prog_10_method_34_code
def yX12_meaningOf : MethodName := ⟨RX12, "meaningOf", "(LClassPoolsModel$HeldFile;I)LClassPoolsModel$Meaning;"⟩
abbrev cX12_compare : ByteArray := prog_10_method_35_code
def yX12_compare : MethodName := ⟨RX12, "compare", "([B[B)I"⟩
abbrev cX12_compare_ : ByteArray := prog_10_method_36_code
def yX12_compare_ : MethodName := ⟨RX12, "compare", "(LClassPoolsModel$Meaning;LClassPoolsModel$Meaning;)I"⟩
abbrev cX12_find : ByteArray := prog_10_method_37_code
def yX12_find : MethodName := ⟨RX12, "find", "([LClassPoolsModel$Meaning;ILClassPoolsModel$Meaning;)I"⟩
abbrev cX12_lay : ByteArray := prog_10_method_38_code
def yX12_lay : MethodName := ⟨RX12, "lay", "(LClassPoolsModel$HeldFile;[LClassPoolsModel$Meaning;I)I"⟩
abbrev cX12_join : ByteArray := prog_10_method_39_code
def yX12_join : MethodName := ⟨RX12, "join", "()I"⟩
abbrev cX12_isEntry : ByteArray := prog_10_method_40_code
def yX12_isEntry : MethodName := ⟨RX12, "isEntry", "(II)Z"⟩
abbrev cX12_joined : ByteArray := prog_10_method_41_code
def yX12_joined : MethodName := ⟨RX12, "joined", "(II)I"⟩
abbrev cX12_meaning : ByteArray := prog_10_method_42_code
def yX12_meaning : MethodName := ⟨RX12, "meaning", "(II)I"⟩
abbrev cX12_sameBytes : ByteArray := prog_10_method_43_code
def yX12_sameBytes : MethodName := ⟨RX12, "sameBytes", "(LClassPoolsModel$HeldFile;ILClassPoolsModel$HeldFile;II)Z"⟩
abbrev cX12_samePlace : ByteArray := prog_10_method_44_code
def yX12_samePlace : MethodName := ⟨RX12, "samePlace", "(LClassPoolsModel$HeldFile;ILClassPoolsModel$HeldFile;I)Z"⟩
abbrev cX12_same : ByteArray := prog_10_method_45_code
def yX12_same : MethodName := ⟨RX12, "same", "(LClassPoolsModel$HeldFile;LClassPoolsModel$Attributes;LClassPoolsModel$HeldFile;LClassPoolsModel$Attributes;)Z"⟩
abbrev cX12_isAlike : ByteArray := prog_10_method_46_code
def yX12_isAlike : MethodName := ⟨RX12, "isAlike", "(LClassPoolsModel$HeldFile;LClassPoolsModel$HeldFile;)Z"⟩
abbrev cX12_alike : ByteArray := prog_10_method_47_code
def yX12_alike : MethodName := ⟨RX12, "alike", "(II)I"⟩
abbrev cX12_add : ByteArray := prog_10_method_48_code
def yX12_add : MethodName := ⟨RX12, "add", "(I)V"⟩
abbrev cX12_addTwo : ByteArray := prog_10_method_49_code
def yX12_addTwo : MethodName := ⟨RX12, "addTwo", "(I)V"⟩
abbrev cX12_addFour : ByteArray := prog_10_method_50_code
def yX12_addFour : MethodName := ⟨RX12, "addFour", "(I)V"⟩
abbrev cX12_addBytes : ByteArray := prog_10_method_51_code
def yX12_addBytes : MethodName := ⟨RX12, "addBytes", "([BII)V"⟩
abbrev cX12_moved : ByteArray := prog_10_method_52_code
def yX12_moved : MethodName := ⟨RX12, "moved", "(LClassPoolsModel$HeldFile;I)I"⟩
abbrev cX12_placeOf : ByteArray := prog_10_method_53_code
def yX12_placeOf : MethodName := ⟨RX12, "placeOf", "(I[B[B)I"⟩
abbrev cX12_addEntry : ByteArray := prog_10_method_54_code
def yX12_addEntry : MethodName := ⟨RX12, "addEntry", "(LClassPoolsModel$Meaning;)V"⟩
abbrev cX12_addAttributes : ByteArray := prog_10_method_55_code
def yX12_addAttributes : MethodName := ⟨RX12, "addAttributes", "(LClassPoolsModel$HeldFile;LClassPoolsModel$Attributes;)V"⟩
abbrev cX12_inOrder : ByteArray := prog_10_method_56_code
def yX12_inOrder : MethodName := ⟨RX12, "inOrder", "(LClassPoolsModel$HeldFile;)I"⟩
abbrev cX12_write : ByteArray := prog_10_method_57_code
def yX12_write : MethodName := ⟨RX12, "write", "(II)I"⟩
abbrev cX12_back : ByteArray := prog_10_method_58_code
def yX12_back : MethodName := ⟨RX12, "back", "()I"⟩
def RJ6 : String := "java/lang/Integer"
abbrev cJ6_compare_7cf53 : ByteArray := prog_21_method_40_code
def yJ6_compare_7cf53 : MethodName := ⟨RJ6, "compare", "(II)I"⟩
def RJ13 : String := "java/lang/Long"
abbrev cJ13_compare_74951 : ByteArray := prog_22_method_42_code
def yJ13_compare_74951 : MethodName := ⟨RJ13, "compare", "(JJ)I"⟩
def RJ9 : String := "java/lang/Math"
abbrev cJ9_max_7cf53 : ByteArray := prog_23_method_65_code
def yJ9_max_7cf53 : MethodName := ⟨RJ9, "max", "(II)I"⟩
abbrev cJ9_min_7cf53 : ByteArray := prog_23_method_69_code
def yJ9_min_7cf53 : MethodName := ⟨RJ9, "min", "(II)I"⟩
def RJ7 : String := "java/util/Arrays"
abbrev cJ7_fill_53178 : ByteArray := prog_31_method_103_code
def yJ7_fill_53178 : MethodName := ⟨RJ7, "fill", "([II)V"⟩
def RJ0 : String := "java/lang/String"
def TJ0 : u_T := fun k => match k with
  | 0 => ("java/lang/String", "value", "[B", true)
  | _ => ("java/lang/String", "coder", "B", true)
def tyJ0 : Nat → FieldType := fun k => match k with
  | 0 => .array .byte
  | _ => .byte
abbrev wsJ00 : List Cond := u_ws RJ0 TJ0 2
theorem nmJ0 : ∀ a, a < 2 → ∀ b, b < 2 → a ≠ b → (TJ0 a).2.1 ≠ (TJ0 b).2.1 := by decide +kernel
theorem tyJ0_ok : ∀ k, k < 2 → parseFieldDescriptor (TJ0 k).2.2.1 = some (tyJ0 k) := by decide +kernel
abbrev cJ0_length_8abf5 : ByteArray := prog_26_method_54_code
def yJ0_length_8abf5 : MethodName := ⟨RJ0, "length", "()I"⟩
abbrev cJ0_indexOf_0f7a4 : ByteArray := prog_26_method_79_code
def yJ0_indexOf_0f7a4 : MethodName := ⟨RJ0, "indexOf", "(I)I"⟩
abbrev cJ0_indexOf_7cf53 : ByteArray := prog_26_method_80_code
def yJ0_indexOf_7cf53 : MethodName := ⟨RJ0, "indexOf", "(II)I"⟩
abbrev cJ0_coder_7d493 : ByteArray := prog_26_method_152_code
def yJ0_coder_7d493 : MethodName := ⟨RJ0, "coder", "()B"⟩
abbrev cJ0_isLatin1_aae02 : ByteArray := prog_26_method_154_code
def yJ0_isLatin1_aae02 : MethodName := ⟨RJ0, "isLatin1", "()Z"⟩
def RJ1 : String := "java/lang/StringLatin1"
abbrev cJ1_canEncode_9a6ad : ByteArray := prog_27_method_4_code
def yJ1_canEncode_9a6ad : MethodName := ⟨RJ1, "canEncode", "(I)Z"⟩
abbrev cJ1_indexOf_4cfef : ByteArray := prog_27_method_22_code
def yJ1_indexOf_4cfef : MethodName := ⟨RJ1, "indexOf", "([BIII)I"⟩
abbrev cJ1_indexOfChar_4cfef : ByteArray := prog_27_method_23_code
def yJ1_indexOfChar_4cfef : MethodName := ⟨RJ1, "indexOfChar", "([BIII)I"⟩
def RL : String := "ClassPoolsLaw"
abbrev cL_number : ByteArray := method_3_code
def yL_number : MethodName := ⟨RL, "number", "(LClassPools;II[J)I"⟩
abbrev cL_law : ByteArray := code
def yL_law : MethodName := ⟨RL, "law", "([I)Z"⟩
abbrev classes : List vw_C := [(RX0, TX0, 9), (RX1, TX1, 3), (RX2, TX2, 5), (RX3, TX3, 5), (RX4, TX4, 2), (RX6, TX6, 3), (RX7, TX7, 8), (RX8, TX8, 2), (RX9, TX9, 10), (RX10, TX10, 5), (RX11, TX11, 2), (RX12, TX12, 17), (RJ0, TJ0, 2)]
/-- a method: its name, its bytes, its locals, what it answers -/
abbrev MI : Type := MethodName × ByteArray × Nat × Option FieldType
abbrev m_CF_init : Nat := 0
abbrev m_CF_begin : Nat := 1
abbrev m_CF_addTell : Nat := 2
abbrev m_CF_tellCount : Nat := 3
abbrev m_CF_tellAt : Nat := 4
abbrev m_CF_wanted : Nat := 5
abbrev m_CF_firstBehind : Nat := 6
abbrev m_CF_addMember : Nat := 7
abbrev m_CF_members : Nat := 8
abbrev m_CF_memberAt : Nat := 9
abbrev m_CF_faces : Nat := 10
abbrev m_CF_classPlace : Nat := 11
abbrev m_CF_attributesOf : Nat := 12
abbrev m_CF_attributeAt : Nat := 13
abbrev m_CF_meansAs : Nat := 14
abbrev m_PL_init : Nat := 15
abbrev m_PL_places : Nat := 16
abbrev m_PL_has : Nat := 17
abbrev m_PL_begin : Nat := 18
abbrev m_PL_set : Nat := 19
abbrev m_PL_copy : Nat := 20
abbrev m_PL_start : Nat := 21
abbrev m_PL_tag : Nat := 22
abbrev m_PL_twoOf : Nat := 23
abbrev m_PL_first : Nat := 24
abbrev m_PL_second : Nat := 25
abbrev m_PL_textAt : Nat := 26
abbrev m_PL_textSize : Nat := 27
abbrev m_PL_bits : Nat := 28
abbrev m_PL_bytesOf : Nat := 29
abbrev m_PL_wrong : Nat := 30
abbrev m_PL_textOf : Nat := 31
abbrev m_PL_order : Nat := 32
abbrev m_RK_init : Nat := 33
abbrev m_RK_clear : Nat := 34
abbrev m_RK_size : Nat := 35
abbrev m_RK_add : Nat := 36
abbrev m_RK_insert : Nat := 37
abbrev m_RK_find : Nat := 38
abbrev m_RK_firstNotBelow : Nat := 39
abbrev m_RK_orderOf : Nat := 40
abbrev m_RK_poolOf : Nat := 41
abbrev m_RK_placeOf : Nat := 42
abbrev m_RK_tag : Nat := 43
abbrev m_RK_tally : Nat := 44
abbrev m_RD_init : Nat := 45
abbrev m_RD_fail : Nat := 46
abbrev m_RD_scan : Nat := 47
abbrev m_RD_skip : Nat := 48
abbrev m_RD_tell : Nat := 49
abbrev m_RD_two : Nat := 50
abbrev m_RD_many : Nat := 51
abbrev m_RD_magic : Nat := 52
abbrev m_RD_entries : Nat := 53
abbrev m_RD_anEntry : Nat := 54
abbrev m_RD_classAbove : Nat := 55
abbrev m_RD_members : Nat := 56
abbrev m_RD_attributes : Nat := 57
abbrev m_RD_checkTells : Nat := 58
abbrev m_RD_checkSorts : Nat := 59
abbrev m_RW_init : Nat := 60
abbrev m_RW_size : Nat := 61
abbrev m_RW_has : Nat := 62
abbrev m_RW_one : Nat := 63
abbrev m_RW_two : Nat := 64
abbrev m_RW_four : Nat := 65
abbrev m_RW_clear : Nat := 66
abbrev m_RW_push : Nat := 67
abbrev m_RW_pushTwo : Nat := 68
abbrev m_RW_putTwo : Nat := 69
abbrev m_RW_append : Nat := 70
abbrev m_RW_take : Nat := 71
abbrev m_RW_order : Nat := 72
abbrev m_SO_isType : Nat := 73
abbrev m_SO_isMethod : Nat := 74
abbrev m_SO_width : Nat := 75
abbrev m_SO_sum : Nat := 76
abbrev m_SO_closing : Nat := 77
abbrev m_SO_typeEnd : Nat := 78
abbrev m_SO_nameEnd : Nat := 79
abbrev m_WR_init : Nat := 80
abbrev m_WR_movePlaces : Nat := 81
abbrev m_WR_push : Nat := 82
abbrev m_WR_movedTo : Nat := 83
abbrev m_WR_pushEntry : Nat := 84
abbrev m_WR_pushRest : Nat := 85
abbrev m_CP_init : Nat := 86
abbrev m_CP_feed : Nat := 87
abbrev m_CP_read : Nat := 88
abbrev m_CP_place : Nat := 89
abbrev m_CP_drop : Nat := 90
abbrev m_CP_file : Nat := 91
abbrev m_CP_entry : Nat := 92
abbrev m_CP_number : Nat := 93
abbrev m_CP_text : Nat := 94
abbrev m_CP_member : Nat := 95
abbrev m_CP_told : Nat := 96
abbrev m_CP_attribute : Nat := 97
abbrev m_CP_out : Nat := 98
abbrev m_CP_join : Nat := 99
abbrev m_CP_joined : Nat := 100
abbrev m_CP_meaning : Nat := 101
abbrev m_CP_alike : Nat := 102
abbrev m_CP_write : Nat := 103
abbrev m_CP_back : Nat := 104
abbrev m_CP_fileAt : Nat := 105
abbrev m_CP_showText : Nat := 106
abbrev m_CP_showClass : Nat := 107
abbrev m_CP_placesOf : Nat := 108
abbrev m_CP_isNumber : Nat := 109
abbrev m_CP_isWide : Nat := 110
abbrev m_CP_isTag : Nat := 111
abbrev m_MA_init : Nat := 112
abbrev m_MH_init : Nat := 113
abbrev m_MH_two : Nat := 114
abbrev m_MH_four : Nat := 115
abbrev m_MH_bits : Nat := 116
abbrev m_MH_first : Nat := 117
abbrev m_MH_second : Nat := 118
abbrev m_MM_init : Nat := 119
abbrev m_MB_init : Nat := 120
abbrev m_MO_init : Nat := 121
abbrev m_MO_thrown : Nat := 122
abbrev m_MO_isIn : Nat := 123
abbrev m_MO_isFile : Nat := 124
abbrev m_MO_feed : Nat := 125
abbrev m_MO_fails : Nat := 126
abbrev m_MO_goes : Nat := 127
abbrev m_MO_nextTwo : Nat := 128
abbrev m_MO_many : Nat := 129
abbrev m_MO_parse : Nat := 130
abbrev m_MO_attributes : Nat := 131
abbrev m_MO_entry : Nat := 132
abbrev m_MO_part : Nat := 133
abbrev m_MO_wrongPlace : Nat := 134
abbrev m_MO_place : Nat := 135
abbrev m_MO_names : Nat := 136
abbrev m_MO_places : Nat := 137
abbrev m_MO_type : Nat := 138
abbrev m_MO_slotsOf : Nat := 139
abbrev m_MO_isSort : Nat := 140
abbrev m_MO_sortOf : Nat := 141
abbrev m_MO_read : Nat := 142
abbrev m_MO_place_ : Nat := 143
abbrev m_MO_drop : Nat := 144
abbrev m_MO_file : Nat := 145
abbrev m_MO_entry_ : Nat := 146
abbrev m_MO_number : Nat := 147
abbrev m_MO_shows : Nat := 148
abbrev m_MO_text : Nat := 149
abbrev m_MO_member : Nat := 150
abbrev m_MO_told : Nat := 151
abbrev m_MO_attribute : Nat := 152
abbrev m_MO_out : Nat := 153
abbrev m_MO_meaningOf : Nat := 154
abbrev m_MO_compare : Nat := 155
abbrev m_MO_compare_ : Nat := 156
abbrev m_MO_find : Nat := 157
abbrev m_MO_lay : Nat := 158
abbrev m_MO_join : Nat := 159
abbrev m_MO_isEntry : Nat := 160
abbrev m_MO_joined : Nat := 161
abbrev m_MO_meaning : Nat := 162
abbrev m_MO_sameBytes : Nat := 163
abbrev m_MO_samePlace : Nat := 164
abbrev m_MO_same : Nat := 165
abbrev m_MO_isAlike : Nat := 166
abbrev m_MO_alike : Nat := 167
abbrev m_MO_add : Nat := 168
abbrev m_MO_addTwo : Nat := 169
abbrev m_MO_addFour : Nat := 170
abbrev m_MO_addBytes : Nat := 171
abbrev m_MO_moved : Nat := 172
abbrev m_MO_placeOf : Nat := 173
abbrev m_MO_addEntry : Nat := 174
abbrev m_MO_addAttributes : Nat := 175
abbrev m_MO_inOrder : Nat := 176
abbrev m_MO_write : Nat := 177
abbrev m_MO_back : Nat := 178
abbrev m_JI_compare : Nat := 179
abbrev m_JL_compare : Nat := 180
abbrev m_JM_max : Nat := 181
abbrev m_JM_min : Nat := 182
abbrev m_JS_length : Nat := 183
abbrev m_JS_indexOf : Nat := 184
abbrev m_JS_indexOf_ : Nat := 185
abbrev m_JS_coder : Nat := 186
abbrev m_JS_isLatin1 : Nat := 187
abbrev m_JT_canEncode : Nat := 188
abbrev m_JT_indexOf : Nat := 189
abbrev m_JT_indexOfChar : Nat := 190
abbrev m_JA_fill : Nat := 191
abbrev m_LW_number : Nat := 192
abbrev m_LW_law : Nat := 193
def mtab : List MI := [(yX0_init, cX0_init, 1, none), (yX0_begin, cX0_begin, 2, none), (yX0_addTell, cX0_addTell, 3, none), (yX0_tellCount, cX0_tellCount, 1, some .int), (yX0_tellAt, cX0_tellAt, 2, some .int), (yX0_wanted, cX0_wanted, 2, some .int), (yX0_firstBehind, cX0_firstBehind, 2, some .int), (yX0_addMember, cX0_addMember, 4, none), (yX0_members, cX0_members, 2, some .int), (yX0_memberAt, cX0_memberAt, 3, some .int), (yX0_faces, cX0_faces, 1, some .int), (yX0_classPlace, cX0_classPlace, 2, some .int), (yX0_attributesOf, cX0_attributesOf, 4, some .int), (yX0_attributeAt, cX0_attributeAt, 7, some .int), (yX0_meansAs, cX0_meansAs, 10, some .boolean), (yX1_init, cX1_init, 1, none), (yX1_places, cX1_places, 1, some .int), (yX1_has, cX1_has, 2, some .boolean), (yX1_begin, cX1_begin, 2, none), (yX1_set, cX1_set, 3, none), (yX1_copy, cX1_copy, 2, none), (yX1_start, cX1_start, 2, some .int), (yX1_tag, cX1_tag, 3, some .int), (yX1_twoOf, cX1_twoOf, 4, some .int), (yX1_first, cX1_first, 2, some .int), (yX1_second, cX1_second, 2, some .int), (yX1_textAt, cX1_textAt, 2, some .int), (yX1_textSize, cX1_textSize, 2, some .int), (yX1_bits, cX1_bits, 5, some .long), (yX1_bytesOf, cX1_bytesOf, 2, some .int), (yX1_wrong, cX1_wrong, 4, some .int), (yX1_textOf, cX1_textOf, 3, some .int), (yX1_order, cX1_order, 10, some .int), (yX2_init, cX2_init, 2, none), (yX2_clear, cX2_clear, 1, none), (yX2_size, cX2_size, 1, some .int), (yX2_add, cX2_add, 6, some .boolean), (yX2_insert, cX2_insert, 3, some .boolean), (yX2_find, cX2_find, 4, some .int), (yX2_firstNotBelow, cX2_firstNotBelow, 8, some .int), (yX2_orderOf, cX2_orderOf, 5, some .int), (yX2_poolOf, cX2_poolOf, 3, some (.object "ClassPools$Pool")), (yX2_placeOf, cX2_placeOf, 2, some .int), (yX2_tag, cX2_tag, 3, some .int), (yX2_tally, cX2_tally, 5, some .int), (yX3_init, cX3_init, 2, none), (yX3_fail, cX3_fail, 3, none), (yX3_scan, cX3_scan, 3, none), (yX3_skip, cX3_skip, 2, none), (yX3_tell, cX3_tell, 3, none), (yX3_two, cX3_two, 2, some .int), (yX3_many, cX3_many, 4, some .int), (yX3_magic, cX3_magic, 2, none), (yX3_entries, cX3_entries, 5, none), (yX3_anEntry, cX3_anEntry, 4, none), (yX3_classAbove, cX3_classAbove, 1, none), (yX3_members, cX3_members, 4, none), (yX3_attributes, cX3_attributes, 5, none), (yX3_checkTells, cX3_checkTells, 4, none), (yX3_checkSorts, cX3_checkSorts, 8, none), (yX4_init, cX4_init, 1, none), (yX4_size, cX4_size, 1, some .int), (yX4_has, cX4_has, 3, some .boolean), (yX4_one, cX4_one, 2, some .int), (yX4_two, cX4_two, 2, some .int), (yX4_four, cX4_four, 2, some .int), (yX4_clear, cX4_clear, 1, none), (yX4_push, cX4_push, 2, none), (yX4_pushTwo, cX4_pushTwo, 2, none), (yX4_putTwo, cX4_putTwo, 3, none), (yX4_append, cX4_append, 4, none), (yX4_take, cX4_take, 4, some .int), (yX4_order, cX4_order, 9, some .int), (yX5_isType, cX5_isType, 3, some .boolean), (yX5_isMethod, cX5_isMethod, 5, some .boolean), (yX5_width, cX5_width, 3, some .int), (yX5_sum, cX5_sum, 7, some .int), (yX5_closing, cX5_closing, 5, some .int), (yX5_typeEnd, cX5_typeEnd, 4, some .int), (yX5_nameEnd, cX5_nameEnd, 4, some .int), (yX6_init, cX6_init, 2, none), (yX6_movePlaces, cX6_movePlaces, 6, some .int), (yX6_push, cX6_push, 5, some .int), (yX6_movedTo, cX6_movedTo, 2, some .int), (yX6_pushEntry, cX6_pushEntry, 5, none), (yX6_pushRest, cX6_pushRest, 5, none), (yX7_init, cX7_init, 2, none), (yX7_feed, cX7_feed, 5, some .int), (yX7_read, cX7_read, 3, some .int), (yX7_place, cX7_place, 1, some .int), (yX7_drop, cX7_drop, 4, some .int), (yX7_file, cX7_file, 4, some .int), (yX7_entry, cX7_entry, 5, some .int), (yX7_number, cX7_number, 5, some .long), (yX7_text, cX7_text, 7, some .int), (yX7_member, cX7_member, 7, some .int), (yX7_told, cX7_told, 10, some .int), (yX7_attribute, cX7_attribute, 8, some .int), (yX7_out, cX7_out, 2, some .int), (yX7_join, cX7_join, 4, some .int), (yX7_joined, cX7_joined, 4, some .int), (yX7_meaning, cX7_meaning, 3, some .int), (yX7_alike, cX7_alike, 5, some .int), (yX7_write, cX7_write, 5, some .int), (yX7_back, cX7_back, 1, some .int), (yX7_fileAt, cX7_fileAt, 2, some (.object "ClassPools$ClassFile")), (yX7_showText, cX7_showText, 3, some .int), (yX7_showClass, cX7_showClass, 5, some .int), (yX7_placesOf, cX7_placesOf, 5, some .int), (yX7_isNumber, cX7_isNumber, 1, some .boolean), (yX7_isWide, cX7_isWide, 1, some .boolean), (yX7_isTag, cX7_isTag, 1, some .boolean), (yX8_init, cX8_init, 1, none), (yX9_init, cX9_init, 1, none), (yX9_two, cX9_two, 2, some .int), (yX9_four, cX9_four, 2, some .int), (yX9_bits, cX9_bits, 3, some .long), (yX9_first, cX9_first, 2, some .int), (yX9_second, cX9_second, 2, some .int), (yX10_init, cX10_init, 1, none), (yX11_init, cX11_init, 1, none), (yX12_init, cX12_init, 1, none), (yX12_thrown, cX12_thrown, 1, some .int), (yX12_isIn, cX12_isIn, 3, some .boolean), (yX12_isFile, cX12_isFile, 2, some .boolean), (yX12_feed, cX12_feed, 5, some .int), (yX12_fails, cX12_fails, 3, none), (yX12_goes, cX12_goes, 2, some .boolean), (yX12_nextTwo, cX12_nextTwo, 1, some .int), (yX12_many, cX12_many, 3, some .int), (yX12_parse, cX12_parse, 7, none), (yX12_attributes, cX12_attributes, 5, some (.object "ClassPoolsModel$Attributes")), (yX12_entry, cX12_entry, 7, some .int), (yX12_part, cX12_part, 4, some (.array .byte)), (yX12_wrongPlace, cX12_wrongPlace, 3, some .int), (yX12_place, cX12_place, 4, none), (yX12_names, cX12_names, 3, none), (yX12_places, cX12_places, 5, none), (yX12_type, cX12_type, 4, some .int), (yX12_slotsOf, cX12_slotsOf, 2, some .int), (yX12_isSort, cX12_isSort, 4, some .boolean), (yX12_sortOf, cX12_sortOf, 4, some (.array .byte)), (yX12_read, cX12_read, 3, some .int), (yX12_place_, cX12_place_, 1, some .int), (yX12_drop, cX12_drop, 3, some .int), (yX12_file, cX12_file, 4, some .int), (yX12_entry_, cX12_entry_, 6, some .int), (yX12_number, cX12_number, 4, some .long), (yX12_shows, cX12_shows, 2, some .int), (yX12_text, cX12_text, 6, some .int), (yX12_member, cX12_member, 7, some .int), (yX12_told, cX12_told, 11, some .int), (yX12_attribute, cX12_attribute, 9, some .int), (yX12_out, cX12_out, 2, some .int), (yX12_meaningOf, cX12_meaningOf, 5, some (.object "ClassPoolsModel$Meaning")), (yX12_compare, cX12_compare, 3, some .int), (yX12_compare_, cX12_compare_, 3, some .int), (yX12_find, cX12_find, 5, some .int), (yX12_lay, cX12_lay, 9, some .int), (yX12_join, cX12_join, 4, some .int), (yX12_isEntry, cX12_isEntry, 3, some .boolean), (yX12_joined, cX12_joined, 3, some .int), (yX12_meaning, cX12_meaning, 6, some .int), (yX12_sameBytes, cX12_sameBytes, 8, some .boolean), (yX12_samePlace, cX12_samePlace, 7, some .boolean), (yX12_same, cX12_same, 8, some .boolean), (yX12_isAlike, cX12_isAlike, 8, some .boolean), (yX12_alike, cX12_alike, 5, some .int), (yX12_add, cX12_add, 2, none), (yX12_addTwo, cX12_addTwo, 2, none), (yX12_addFour, cX12_addFour, 2, none), (yX12_addBytes, cX12_addBytes, 5, none), (yX12_moved, cX12_moved, 3, some .int), (yX12_placeOf, cX12_placeOf, 5, some .int), (yX12_addEntry, cX12_addEntry, 3, none), (yX12_addAttributes, cX12_addAttributes, 5, none), (yX12_inOrder, cX12_inOrder, 7, some .int), (yX12_write, cX12_write, 3, some .int), (yX12_back, cX12_back, 2, some .int), (yJ6_compare_7cf53, cJ6_compare_7cf53, 2, some .int), (yJ13_compare_74951, cJ13_compare_74951, 4, some .int), (yJ9_max_7cf53, cJ9_max_7cf53, 2, some .int), (yJ9_min_7cf53, cJ9_min_7cf53, 2, some .int), (yJ0_length_8abf5, cJ0_length_8abf5, 1, some .int), (yJ0_indexOf_0f7a4, cJ0_indexOf_0f7a4, 2, some .int), (yJ0_indexOf_7cf53, cJ0_indexOf_7cf53, 3, some .int), (yJ0_coder_7d493, cJ0_coder_7d493, 1, some .byte), (yJ0_isLatin1_aae02, cJ0_isLatin1_aae02, 1, some .boolean), (yJ1_canEncode_9a6ad, cJ1_canEncode_9a6ad, 1, some .boolean), (yJ1_indexOf_4cfef, cJ1_indexOf_4cfef, 4, some .int), (yJ1_indexOfChar_4cfef, cJ1_indexOfChar_4cfef, 6, some .int), (yJ7_fill_53178, cJ7_fill_53178, 4, none), (yL_number, cL_number, 5, some .int), (yL_law, cL_law, 8, some .boolean)]
def mI (mid : Nat) : MI := mtab.getD mid (yX4_one, cX4_one, 0, none)
def lvtab : List (MethodName × Nat) := [(yX0_init, 3), (yX0_begin, 4), (yX0_addTell, 1), (yX0_tellCount, 1), (yX0_tellAt, 1), (yX0_wanted, 1), (yX0_firstBehind, 2), (yX0_addMember, 2), (yX0_members, 1), (yX0_memberAt, 2), (yX0_faces, 2), (yX0_classPlace, 3), (yX0_attributesOf, 3), (yX0_attributeAt, 4), (yX0_meansAs, 5), (yX1_init, 2), (yX1_places, 1), (yX1_has, 1), (yX1_begin, 2), (yX1_set, 2), (yX1_copy, 4), (yX1_start, 1), (yX1_tag, 2), (yX1_twoOf, 2), (yX1_first, 3), (yX1_second, 3), (yX1_textAt, 2), (yX1_textSize, 3), (yX1_bits, 3), (yX1_bytesOf, 4), (yX1_wrong, 3), (yX1_textOf, 3), (yX1_order, 4), (yX2_init, 3), (yX2_clear, 1), (yX2_size, 1), (yX2_add, 6), (yX2_insert, 1), (yX2_find, 6), (yX2_firstNotBelow, 5), (yX2_orderOf, 5), (yX2_poolOf, 1), (yX2_placeOf, 1), (yX2_tag, 3), (yX2_tally, 6), (yX3_init, 1), (yX3_fail, 1), (yX3_scan, 6), (yX3_skip, 2), (yX3_tell, 3), (yX3_two, 3), (yX3_many, 3), (yX3_magic, 3), (yX3_entries, 5), (yX3_anEntry, 4), (yX3_classAbove, 4), (yX3_members, 5), (yX3_attributes, 4), (yX3_checkTells, 4), (yX3_checkSorts, 6), (yX4_init, 1), (yX4_size, 1), (yX4_has, 1), (yX4_one, 1), (yX4_two, 1), (yX4_four, 2), (yX4_clear, 1), (yX4_push, 1), (yX4_pushTwo, 2), (yX4_putTwo, 2), (yX4_append, 2), (yX4_take, 3), (yX4_order, 2), (yX5_isType, 4), (yX5_isMethod, 5), (yX5_width, 2), (yX5_sum, 4), (yX5_closing, 4), (yX5_typeEnd, 3), (yX5_nameEnd, 2), (yX6_init, 1), (yX6_movePlaces, 7), (yX6_push, 6), (yX6_movedTo, 1), (yX6_pushEntry, 5), (yX6_pushRest, 3), (yX7_init, 4), (yX7_feed, 2), (yX7_read, 7), (yX7_place, 1), (yX7_drop, 2), (yX7_file, 3), (yX7_entry, 4), (yX7_number, 4), (yX7_text, 5), (yX7_member, 6), (yX7_told, 5), (yX7_attribute, 5), (yX7_out, 2), (yX7_join, 7), (yX7_joined, 7), (yX7_meaning, 8), (yX7_alike, 6), (yX7_write, 8), (yX7_back, 4), (yX7_fileAt, 1), (yX7_showText, 4), (yX7_showClass, 5), (yX7_placesOf, 7), (yX7_isNumber, 1), (yX7_isWide, 1), (yX7_isTag, 1), (yX8_init, 1), (yX9_init, 1), (yX9_two, 1), (yX9_four, 2), (yX9_bits, 3), (yX9_first, 2), (yX9_second, 2), (yX10_init, 1), (yX11_init, 1), (yX12_init, 1), (yX12_thrown, 1), (yX12_isIn, 1), (yX12_isFile, 2), (yX12_feed, 2), (yX12_fails, 1), (yX12_goes, 2), (yX12_nextTwo, 3), (yX12_many, 4), (yX12_parse, 6), (yX12_attributes, 5), (yX12_entry, 4), (yX12_part, 1), (yX12_wrongPlace, 1), (yX12_place, 2), (yX12_names, 3), (yX12_places, 4), (yX12_type, 5), (yX12_slotsOf, 1), (yX12_isSort, 6), (yX12_sortOf, 2), (yX12_read, 7), (yX12_place_, 1), (yX12_drop, 3), (yX12_file, 3), (yX12_entry_, 3), (yX12_number, 4), (yX12_shows, 1), (yX12_text, 3), (yX12_member, 3), (yX12_told, 6), (yX12_attribute, 3), (yX12_out, 2), (yX12_meaningOf, 4), (yX12_compare, 2), (yX12_compare_, 3), (yX12_find, 4), (yX12_lay, 5), (yX12_join, 6), (yX12_isEntry, 3), (yX12_joined, 5), (yX12_meaning, 5), (yX12_sameBytes, 1), (yX12_samePlace, 5), (yX12_same, 6), (yX12_isAlike, 7), (yX12_alike, 8), (yX12_add, 1), (yX12_addTwo, 2), (yX12_addFour, 3), (yX12_addBytes, 2), (yX12_moved, 5), (yX12_placeOf, 5), (yX12_addEntry, 6), (yX12_addAttributes, 6), (yX12_inOrder, 7), (yX12_write, 8), (yX12_back, 1), (yJ6_compare_7cf53, 1), (yJ13_compare_74951, 1), (yJ9_max_7cf53, 1), (yJ9_min_7cf53, 1), (yJ0_length_8abf5, 2), (yJ0_indexOf_0f7a4, 4), (yJ0_indexOf_7cf53, 3), (yJ0_coder_7d493, 1), (yJ0_isLatin1_aae02, 1), (yJ1_canEncode_9a6ad, 1), (yJ1_indexOf_4cfef, 2), (yJ1_indexOfChar_4cfef, 1), (yJ7_fill_53178, 1), (yL_number, 5), (yL_law, 9)]
def lvO (y : MethodName) : Nat := match lvtab.find? (fun q => decide (q.1 = y)) with
  | some q => q.2
  | none => 0
/-- the words that a callee may be told -/
def lwg : List Cond := lw_tbl.filter goodWord
theorem lwg_in {w : Cond} (h : w ∈ lwg) : w ∈ lw_tbl := (List.mem_filter.mp h).1
theorem lwg_good {w : Cond} (h : w ∈ lwg) : goodWord w = true := (List.mem_filter.mp h).2
theorem lwg_of (w : Cond) (k : Nat) (h : tables_1[k]? = some w) (g : goodWord w = true) : w ∈ lwg := List.mem_filter.mpr ⟨List.mem_append_right _ (List.mem_of_getElem? h), g⟩
theorem lwg_ofS (w : Cond) (k : Nat) (h : (k2_sels lw_privs)[k]? = some w) (g : goodWord w = true) : w ∈ lwg := List.mem_filter.mpr ⟨List.mem_append_left _ (List.mem_of_getElem? h), g⟩
end
section
/-! what a step says of the machine -/
theorem lget_lset : ∀ (L : Ls) (i : Nat) (v : Value) (j : Nat) (w : Value), lget (lset L i v) j = some w → (j = i ∧ w = v) ∨ (j ≠ i ∧ lget L j = some w ∧ ¬ (j + 1 = i ∧ w.category = 2))
  | [], i, v, j, w, h => by simp [lset, lget] at h
  | x :: r, 0, v, 0, w, h => by simp [lset, lget] at h; exact Or.inl ⟨rfl, h.symm⟩
  | x :: r, 0, v, j + 1, w, h => by simp [lset, lget] at h; exact Or.inr ⟨by omega, by simpa [lget] using h, by omega⟩
  | x :: r, 1, v, 0, w, h => by
    simp only [lset, lget] at h
    refine Or.inr ⟨by omega, ?_, ?_⟩
    · cases x with
      | none => simp [lclr] at h
      | some y => cases y <;> simp [lclr] at h <;> simp [lget, h]
    · rintro ⟨-, hc⟩
      cases x with
      | none => simp [lclr] at h
      | some y => cases y <;> simp [lclr] at h <;> subst h <;> simp [Value.category] at hc
  | x :: r, 1, v, j + 1, w, h => by
    simp only [lset, lget] at h
    rcases lget_lset r 0 v j w h with ⟨rfl, rfl⟩ | ⟨h1, h2, h3⟩
    · exact Or.inl ⟨rfl, rfl⟩
    · exact Or.inr ⟨by omega, by simpa [lget] using h2, by omega⟩
  | x :: r, n + 2, v, 0, w, h => by
    simp only [lset, lget] at h
    exact Or.inr ⟨by omega, by simpa [lget] using h, by omega⟩
  | x :: r, n + 2, v, j + 1, w, h => by
    simp only [lset, lget] at h
    rcases lget_lset r (n + 1) v j w h with ⟨rfl, rfl⟩ | ⟨h1, h2, h3⟩
    · exact Or.inl ⟨rfl, rfl⟩
    · exact Or.inr ⟨by omega, by simpa [lget] using h2, fun q => h3 ⟨by omega, q.2⟩⟩
theorem lget_lset2 : ∀ (L : Ls) (i : Nat) (v : Value) (j : Nat) (w : Value), lget (lset2 L i v) j = some w → (j = i ∧ w = v) ∨ (j ≠ i ∧ j ≠ i + 1 ∧ lget L j = some w ∧ ¬ (j + 1 = i ∧ w.category = 2))
  | [], i, v, j, w, h => by simp [lset2, lget] at h
  | [x], 0, v, 0, w, h => by simp [lset2, lget] at h; exact Or.inl ⟨rfl, h.symm⟩
  | [x], 0, v, j + 1, w, h => by simp [lset2, lget] at h
  | x :: y :: r, 0, v, 0, w, h => by simp [lset2, lget] at h; exact Or.inl ⟨rfl, h.symm⟩
  | x :: y :: r, 0, v, 1, w, h => by simp [lset2, lget] at h
  | x :: y :: r, 0, v, j + 2, w, h => by simp [lset2, lget] at h; exact Or.inr ⟨by omega, by omega, by simpa [lget] using h, by omega⟩
  | x :: r, 1, v, 0, w, h => by
    simp only [lset2, lget] at h
    refine Or.inr ⟨by omega, by omega, ?_, ?_⟩
    · cases x with
      | none => simp [lclr] at h
      | some y => cases y <;> simp [lclr] at h <;> simp [lget, h]
    · rintro ⟨-, hc⟩
      cases x with
      | none => simp [lclr] at h
      | some y => cases y <;> simp [lclr] at h <;> subst h <;> simp [Value.category] at hc
  | x :: r, 1, v, j + 1, w, h => by
    simp only [lset2, lget] at h
    rcases lget_lset2 r 0 v j w h with ⟨rfl, rfl⟩ | ⟨h1, h2, h3, h4⟩
    · exact Or.inl ⟨rfl, rfl⟩
    · exact Or.inr ⟨by omega, by omega, by simpa [lget] using h3, by omega⟩
  | x :: r, n + 2, v, 0, w, h => by
    simp only [lset2, lget] at h
    exact Or.inr ⟨by omega, by omega, by simpa [lget] using h, by omega⟩
  | x :: r, n + 2, v, j + 1, w, h => by
    simp only [lset2, lget] at h
    rcases lget_lset2 r (n + 1) v j w h with ⟨rfl, rfl⟩ | ⟨h1, h2, h3, h4⟩
    · exact Or.inl ⟨rfl, rfl⟩
    · exact Or.inr ⟨by omega, by omega, by simpa [lget] using h3, fun q => h4 ⟨by omega, q.2⟩⟩
theorem lset_len : ∀ (L : Ls) (i : Nat) (v : Value), (lset L i v).length = L.length
  | [], _, _ => rfl
  | _ :: r, 0, v => rfl
  | x :: r, 1, v => by simp [lset, lset_len r 0 v]
  | x :: r, n + 2, v => by simp [lset, lset_len r (n + 1) v]
theorem lset2_len : ∀ (L : Ls) (i : Nat) (v : Value), (lset2 L i v).length = L.length
  | [], _, _ => rfl
  | [_], 0, v => rfl
  | _ :: _ :: r, 0, v => rfl
  | x :: r, 1, v => by simp [lset2, lset2_len r 0 v]
  | x :: r, n + 2, v => by simp [lset2, lset2_len r (n + 1) v]
def toA : Nat → Ls → List (Nat × Value)
  | _, [] => []
  | i, none :: r => toA (i + 1) r
  | i, some v :: r => (i, v) :: toA (i + 1) r
theorem toA_mem : ∀ (L : Ls) (i : Nat) (q : Nat × Value), q ∈ toA i L ↔ ∃ k, q.1 = i + k ∧ lget L k = some q.2
  | [], i, q => by simp [toA, lget]
  | none :: r, i, q => by
    rw [toA, toA_mem r (i + 1) q]
    constructor
    · rintro ⟨k, h1, h2⟩; exact ⟨k + 1, by omega, by simpa [lget] using h2⟩
    · rintro ⟨k, h1, h2⟩
      cases k with
      | zero => simp [lget] at h2
      | succ k => exact ⟨k, by omega, by simpa [lget] using h2⟩
  | some v :: r, i, q => by
    rw [toA, List.mem_cons, toA_mem r (i + 1) q]
    constructor
    · rintro (rfl | ⟨k, h1, h2⟩)
      · exact ⟨0, by simp, by simp [lget]⟩
      · exact ⟨k + 1, by omega, by simpa [lget] using h2⟩
    · rintro ⟨k, h1, h2⟩
      cases k with
      | zero => left; simp [lget] at h2; exact Prod.ext (by simpa using h1) h2.symm
      | succ k => exact Or.inr ⟨k, by omega, by simpa [lget] using h2⟩
/-- the locals as the abstract ones say -/
def LV (ls : Array Slot) (nL : Nat) (L : Ls) : Prop := lv_has ls nL (toA 0 L) ∧ L.length = nL
theorem LV.get {ls : Array Slot} {nL : Nat} {L : Ls} (h : LV ls nL L) {i : Nat} {v : Value} (e : lget L i = some v) : ls[i]? = some (.val v) := h.1.2.2 (i, v) ((toA_mem L 0 (i, v)).mpr ⟨i, by simp, e⟩)
theorem lget_lt : ∀ (L : Ls) (i : Nat) (v : Value), lget L i = some v → i < L.length
  | [], i, v, h => by simp [lget] at h
  | x :: r, 0, v, h => by simp
  | x :: r, i + 1, v, h => by simp only [lget] at h; have := lget_lt r i v h; simp; omega
theorem LV.of1 {ls : Array Slot} {nL i : Nat} {L : Ls} {v : Value} (hn : L.length = nL) (h : lv_has ls nL ((i, v) :: (toA 0 L).filter (fun q => !(q.1 == i) && !(q.1 + 1 == i && q.2.category == 2)))) : LV ls nL (lset L i v) := by
  refine ⟨⟨h.1, h.2.1, fun q hq => h.2.2 q ?_⟩, by rw [lset_len]; exact hn⟩
  obtain ⟨k, h1, h2⟩ := (toA_mem _ 0 q).mp hq
  rcases lget_lset L i v k q.2 h2 with ⟨e1, e2⟩ | ⟨e1, e2, e3⟩
  · rw [show q = (i, v) from Prod.ext (by simp [h1, e1]) e2]; exact List.mem_cons_self
  · refine List.mem_cons_of_mem _ (List.mem_filter.mpr ⟨(toA_mem L 0 q).mpr ⟨k, h1, e2⟩, ?_⟩)
    have hk : q.1 = k := by omega
    simp only [hk, Bool.and_eq_true, Bool.not_eq_true', beq_eq_false_iff_ne, Bool.and_eq_false_iff]
    refine ⟨e1, ?_⟩
    by_cases hz : k + 1 = i
    · exact Or.inr (fun hc => e3 ⟨hz, hc⟩)
    · exact Or.inl hz
theorem LV.of2 {ls : Array Slot} {nL i : Nat} {L : Ls} {v : Value} (hn : L.length = nL) (h : lv_has ls nL ((i, v) :: (toA 0 L).filter (fun q => !(q.1 == i) && (!(q.1 == i + 1) && !(q.1 + 1 == i && q.2.category == 2))))) : LV ls nL (lset2 L i v) := by
  refine ⟨⟨h.1, h.2.1, fun q hq => h.2.2 q ?_⟩, by rw [lset2_len]; exact hn⟩
  obtain ⟨k, h1, h2⟩ := (toA_mem _ 0 q).mp hq
  rcases lget_lset2 L i v k q.2 h2 with ⟨e1, e2⟩ | ⟨e1, e1', e2, e3⟩
  · rw [show q = (i, v) from Prod.ext (by simp [h1, e1]) e2]; exact List.mem_cons_self
  · refine List.mem_cons_of_mem _ (List.mem_filter.mpr ⟨(toA_mem L 0 q).mpr ⟨k, h1, e2⟩, ?_⟩)
    have hk : q.1 = k := by omega
    simp only [hk, Bool.and_eq_true, Bool.not_eq_true', beq_eq_false_iff_ne, Bool.and_eq_false_iff]
    refine ⟨e1, e1', ?_⟩
    by_cases hz : k + 1 = i
    · exact Or.inr (fun hc => e3 ⟨hz, hc⟩)
    · exact Or.inl hz
theorem lent_args : ∀ (vs : List Value) (i k : Nat) (v : Value), lget (lent vs) k = some v → (i + k, v) ∈ lv_args i vs
  | [], i, k, v, h => by simp [lent, lget] at h
  | w :: r, i, k, v, h => by
    by_cases hc : w.category = 2
    · have e : lent (w :: r) = some w :: none :: lent r := by cases w <;> simp [Value.category] at hc <;> rfl
      rw [e] at h
      match k, h with
      | 0, h => simp [lget] at h; subst h; simp [lv_args]
      | 1, h => simp [lget] at h
      | k + 2, h =>
        simp only [lget] at h
        have := lent_args r (i + 2) k v h
        simp only [lv_args, hc, if_true]
        exact List.mem_cons_of_mem _ (by rw [show i + (k + 2) = i + 2 + k by omega]; exact this)
    · have e : lent (w :: r) = some w :: lent r := by cases w <;> simp [Value.category] at hc <;> rfl
      rw [e] at h
      match k, h with
      | 0, h => simp [lget] at h; subst h; simp [lv_args]
      | k + 1, h =>
        simp only [lget] at h
        have := lent_args r (i + 1) k v h
        simp only [lv_args, hc, if_false]
        exact List.mem_cons_of_mem _ (by rw [show i + (k + 1) = i + 1 + k by omega]; exact this)
theorem lpad_get : ∀ (n : Nat) (L : Ls) (k : Nat) (v : Value), lget (lpad n L) k = some v → lget L k = some v
  | 0, L, k, v, h => h
  | n + 1, [], 0, v, h => by simp [lpad, lget] at h
  | n + 1, [], k + 1, v, h => by simp only [lpad, lget] at h; have := lpad_get n [] k v h; simp [lget] at this
  | n + 1, x :: r, 0, v, h => by simpa [lpad, lget] using h
  | n + 1, x :: r, k + 1, v, h => by simp only [lpad, lget] at h ⊢; exact lpad_get n r k v h
theorem lpad_len : ∀ (n : Nat) (L : Ls), L.length ≤ n → (lpad n L).length = n
  | 0, [], _ => rfl
  | 0, _ :: _, h => by simp at h
  | n + 1, [], _ => by simp [lpad, lpad_len n [] (by simp)]
  | n + 1, x :: r, h => by simp [lpad]; exact lpad_len n r (by simpa using h)
theorem lent_len : ∀ (vs : List Value), (lent vs).length = (lg_sl vs).length
  | [] => rfl
  | w :: r => by
    have ih := lent_len r
    cases w <;> simp [lent, lg_sl, Value.category] at ih ⊢ <;> omega
theorem LV.entry (vs : List Value) {n : Nat} (h : (lent vs).length ≤ n) : LV ((lg_sl vs ++ List.replicate (n - (lg_sl vs).length) Slot.unset).toArray) n (lpad n (lent vs)) := by
  have h1 := lv_entry vs (n := n) (by rw [← lent_len]; exact h)
  refine ⟨⟨h1.1, h1.2.1, fun q hq => ?_⟩, lpad_len n _ h⟩
  obtain ⟨k, e1, e2⟩ := (toA_mem _ 0 q).mp hq
  have := lent_args vs 0 k q.2 (lpad_get _ _ _ _ e2)
  exact h1.2.2 q (by rw [show q = (0 + k, q.2) from Prod.ext e1 rfl]; exact this)
/-! the heap as the abstract one says; what is known of the tables -/
/-- base; the cells of NO_BYTES and of the text; classes, kinds of arrays -/
abbrev XE : Type := Nat × Nat × Nat × va_G × (Nat → ClassId)
def tysOf (dA : Nat → ClassId) : List (ClassId × FieldType) := [(dA 0, .byte), (dA 1, .int), (dA 2, .long), (dA 3, .array .int), (dA 4, .array .byte), (dA 5, .object RX0), (dA 6, .object RX1), (dA 7, .object RX9), (dA 8, .object RX11), (dA 9, .array (.object RX11)), (dA 10, .object RX10)]
def cvE (dA : Nat → ClassId) (c : Ce) : va_E := match c with
  | .inl (k, x) => .inl (dA k, x)
  | .inr o => .inr o
/-- an array of bytes holds bytes -/
def cok (c : Ce) : Prop := match c with
  | .inl (k, _, .inl f) => k = 0 → ∀ j, fits .byte (.int (f j)) = true
  | _ => True
def HR (E : XE) (h : Hp) (H : Heap) : Prop := H.size = h.1 ∧ ∀ (a : Nat) (w : Bool) (c : Ce), h.2.2 a = some (w, c) → va_at E.2.2.2.1 classes (a, cvE E.2.2.2.2 c) H ∧ (w = true → E.1 ≤ a) ∧ cok c
def nestW : List Cond := [.methodLinkNest RX7 11 yX4_init RX7, .methodLinkNest RX2 31 yX1_init RX7, .methodLinkNest RX1 11 yX4_init RX7, .methodLinkNest RX7 51 yX0_init RX7, .methodLinkNest RX0 11 yX1_init RX7, .methodLinkNest RX3 108 yX7_isTag RX7, .methodLinkNest RX3 104 yX7_isWide RX7, .methodLinkNest RX3 113 yX7_isNumber RX7, .methodLinkNest RX1 67 yX7_isNumber RX7, .methodLinkNest RX1 73 yX7_isWide RX7, .methodLinkNest RX6 32 yX7_isWide RX7, .methodLinkNest RX12 166 yX9_init RX12, .methodLinkNest RX12 101 yX11_init RX12, .methodLinkNest RX12 119 yX8_init RX12, .methodLinkNest RX12 200 yX10_init RX12]
def overO : List String := [RX0, RX1, RX9, RX10, RX11]
def overA : List FieldType := [.int, .byte, .object RX11]
abbrev XA (E : XE) : Nat → Prop := fun q => E.1 ≤ q
def KX (E : XE) (U : State) (H : Heap) : Prop := va_K E.2.2.2.1 classes (tysOf E.2.2.2.2) U ∧ (∀ w ∈ nestW, va_Nw w U) ∧ va_Nw (.fieldLinkNest RX10 7 RX12 "NO_BYTES" "[B" RX12) U ∧ va_Z RX12 "NO_BYTES" "[B" (.ref E.2.1) (XA E) U H ∧ va_Z RJ0 "COMPACT_STRINGS" "Z" (.int 1) (XA E) U H ∧ vk_R RX12 155 "BCDFIJSZ" E.2.2.1 U ∧ (∀ C ∈ overO, va_AO C U) ∧ ∀ t ∈ overA, (Cond.arrayOver (.array t)).before #[] U = true
end
section
/-! each step is sound -/
theorem KX.warm {E : XE} {s U : State} {H : Heap} (hW : s.WarmedH U.vm) (h : KX E s s.heap) (hq : ∀ q : Nat, q < s.heap.size → ¬ XA E q → H[q]? = s.heap[q]?) : KX E U H := by
  obtain ⟨h1, h2, h3, h4, h5, h6, h7, h8⟩ := h
  refine ⟨h1.moved hW.alike, ?_, h3.warmF hW, ((va_Z.moved hW.alike h4).kept hq), ((va_Z.moved hW.alike h5).kept hq), h6.warm hW, fun C hC => (h7 C hC).moved hW.alike, fun t ht => over_moved hW.alike (h8 t ht)⟩
  intro w hw
  have hz := h2 w hw
  simp only [nestW, List.mem_cons, List.not_mem_nil, or_false] at hw
  rcases hw with rfl | rfl | rfl | rfl | rfl | rfl | rfl | rfl | rfl | rfl | rfl | rfl | rfl | rfl | rfl <;> exact hz.warmM hW
theorem KX.same {E : XE} {u U : State} {H : Heap} (hv : u.vm = U.vm) (h : KX E u H) : KX E U H := by
  obtain ⟨h1, h2, h3, h4, h5, h6, h7, h8⟩ := h
  have ha : u.vm.Alike U.vm := by rw [hv]; exact Vm.Alike.refl _
  refine ⟨h1.moved ha, ?_, h3.same rfl hv, va_Z.moved ha h4, va_Z.moved ha h5, h6.same hv.symm, fun C hC => (h7 C hC).moved ha, fun t ht => over_moved ha (h8 t ht)⟩
  intro w hw
  have hz := h2 w hw
  simp only [nestW, List.mem_cons, List.not_mem_nil, or_false] at hw
  rcases hw with rfl | rfl | rfl | rfl | rfl | rfl | rfl | rfl | rfl | rfl | rfl | rfl | rfl | rfl | rfl <;> exact va_Nw.same rfl hv hz
/-- a method's frame of facts -/
def XC (E : XE) (I : MI) (R : Room) (p : Program) (s : State) (m : MethodId) (args : Array Value) (meth : Method) (c : Code) : Prop :=
  p.tables.exec = Jvm.exec ∧ c.code = I.2.1 ∧ c.maxLocals = I.2.2.1 ∧ s.vm.findClass I.1.cls = some m.cls ∧ meth.name = I.1.name ∧ meth.sig.returnType = I.2.2.2 ∧ meth.locks = false ∧ (∀ w ∈ lwg, w.before args s = true) ∧ KX E s s.heap ∧ E.1 ≤ s.heap.size ∧ 1 ≤ R.frames ∧ 64 ≤ R.locals
def wsOf (mid : Nat) : List Cond := Cond.code (mI mid).1 (mI mid).2.1 (mI mid).2.2.1 (mI mid).2.2.2 :: lwg
/-- from a state on, a step on -/
def SK (E : XE) (I : MI) (p : Program) (l : Launch) (e : Env) (R : Room) (s : State) (m : MethodId) (args : Array Value) (below : List Frame) (meth : Method) (c : Code) (pc : Nat) (L : Ls) (st : List Value) (h : Hp) (H : Heap) (ls : Array Slot) (locs : List Loc) (cells slots : Nat) (S : XStp) : Prop := match S with
  | .inl (pc', L', st', h') => h.1 ≤ h'.1 ∧ h.2.1 ≤ h'.2.1 ∧ ∀ Q : State → Prop, cells + (h'.1 - h.1) ≤ R.cells → slots + (h'.2.1 - h.2.1) ≤ R.slots → (∀ (H' : Heap) (ls' : Array Slot) (locs' : List Loc), HR E h' H' → LV ls' I.2.2.1 L' → va_S (XA E) s.heap H' locs' → W p l e R s m args below meth c H' locs' (cells + (h'.1 - h.1)) (slots + (h'.2.1 - h.2.1)) Q (F0 m pc' ls' st')) → W p l e R s m args below meth c H locs cells slots Q (F0 m pc ls st)
  | .inr (.inl (v, h')) => h' = h ∧ ∀ (Qc : Array Value → State → Outcome → State → Prop) (free : Addr → Prop), (∀ t : State, t.heap = H → s.WarmedH t.vm → Qc args s (.returned v) t) → (∀ q ∈ locs, free q.base) → W p l e R s m args below meth c H locs cells slots (MQ below Qc args s cells slots free) (F0 m pc ls st)
  | .inr (.inr (mid, As, pc', L', st', h')) => h' = h ∧ L' = L ∧ pc' = pc + 3 ∧ lvO (mI mid).1 < lvO I.1 ∧ ∀ (rm : Room) (Pc : Array Value → State → Prop) (Qc : Array Value → State → Outcome → State → Prop) (mc ms : Nat) (free : Addr → Prop), Met l (mI mid).1 (wsOf mid) rm Pc Qc mc ms free → rm.cells = mc → rm.slots = ms → rm.frames + 1 ≤ R.frames → 8 + ((mI mid).2.2.1 + 11) + rm.locals ≤ R.locals → FrameBlind Pc → (∀ U : State, U.heap = H → s.WarmedH U.vm → Pc As.toArray U) → cells + mc ≤ R.cells → slots + ms ≤ R.slots → va_Run p l e R s m args below meth c H locs cells slots mc ms (F0 m pc ls st) st' (Qc As.toArray) free
def SG (E : XE) (I : MI) (pc : Nat) (o : XOp) : Prop := ∀ (p : Program) (l : Launch) (e : Env) (R : Room) (s : State) (m : MethodId) (args : Array Value) (below : List Frame) (meth : Method) (c : Code), XC E I R p s m args meth c → ∀ (L : Ls) (st : List Value) (h : Hp) (S : XStp), o L st h = some S → ∀ (H : Heap) (ls : Array Slot) (locs : List Loc) (cells slots : Nat), HR E h H → LV ls I.2.2.1 L → va_S (XA E) s.heap H locs → SK E I p l e R s m args below meth c pc L st h H ls locs cells slots S
/-- a step that only moves values -/
theorem SG.mv {E : XE} {I : MI} {pc : Nat} {o : XOp} (hh : ∀ (p : Program) (l : Launch) (e : Env) (R : Room) (s : State) (m : MethodId) (args : Array Value) (below : List Frame) (meth : Method) (c : Code), XC E I R p s m args meth c → ∀ (L : Ls) (st : List Value) (h : Hp) (S : XStp), o L st h = some S → ∃ (pc' : Nat) (st' : List Value), S = .inl (pc', L, st', h) ∧ ∀ (H : Heap) (ls : Array Slot) (locs : List Loc) (cells slots : Nat) (Q : State → Prop), HR E h H → LV ls I.2.2.1 L → va_S (XA E) s.heap H locs → W p l e R s m args below meth c H locs cells slots Q (F0 m pc' ls st') → W p l e R s m args below meth c H locs cells slots Q (F0 m pc ls st)) : SG E I pc o := by
  intro p l e R s m args below meth c C L st h S hS H ls locs cells slots hH hL hs
  obtain ⟨pc', st', rfl, k⟩ := hh p l e R s m args below meth c C L st h S hS
  refine ⟨Nat.le_refl _, Nat.le_refl _, fun Q _ _ kk => k H ls locs cells slots Q hH hL hs ?_⟩
  have := kk H ls locs hH hL hs
  simpa using this
section SGS
variable {E : XE} {I : MI} {pc : Nat}
theorem sg_iconst {n : Int} {v : Int32} (d : decode I.2.1 pc = .ok (.iconst n, 1)) (hv : Int32.ofInt n = v) : SG E I pc (o_ic v (pc + 1)) := by
  refine SG.mv fun p l e R s m args below meth c C L st h S hS => ?_
  simp only [o_ic, Option.some.injEq] at hS; subst hS
  exact ⟨_, _, rfl, fun H ls locs cells slots Q hH hL hs k => lv_iconst C.1 C.2.1 d hv k⟩
theorem sg_bipush {n : Int} {v : Int32} (d : decode I.2.1 pc = .ok (.bipush n, 2)) (hv : (Int8.ofInt n).toInt32 = v) : SG E I pc (o_ic v (pc + 2)) := by
  refine SG.mv fun p l e R s m args below meth c C L st h S hS => ?_
  simp only [o_ic, Option.some.injEq] at hS; subst hS
  exact ⟨_, _, rfl, fun H ls locs cells slots Q hH hL hs k => lv_bipush C.1 C.2.1 d hv k⟩
theorem sg_sipush {n : Int} {v : Int32} (d : decode I.2.1 pc = .ok (.sipush n, 3)) (hv : (Int16.ofInt n).toInt32 = v) : SG E I pc (o_ic v (pc + 3)) := by
  refine SG.mv fun p l e R s m args below meth c C L st h S hS => ?_
  simp only [o_ic, Option.some.injEq] at hS; subst hS
  exact ⟨_, _, rfl, fun H ls locs cells slots Q hH hL hs k => lv_sipush C.1 C.2.1 d hv k⟩
theorem sg_ldc {i : Nat} {v : Int32} (d : decode I.2.1 pc = .ok (.ldc i, 2)) (hw : Cond.constant I.1.cls i v ∈ lwg) : SG E I pc (o_ic v (pc + 2)) := by
  refine SG.mv fun p l e R s m args below meth c C L st h S hS => ?_
  simp only [o_ic, Option.some.injEq] at hS; subst hS
  obtain ⟨hx, hb, hml, hown, hnm, hr, hlk, hts, hK, hbs⟩ := C
  exact ⟨_, _, rfl, fun H ls locs cells slots Q hH hL hs k => lv_ldc hx hb hown (hts _ hw) d k⟩
theorem sg_ldc2 {i : Nat} {v : Int64} (d : decode I.2.1 pc = .ok (.ldc2_w i, 3)) (hw : Cond.constantLong I.1.cls i v ∈ lwg) : SG E I pc (o_lc v (pc + 3)) := by
  refine SG.mv fun p l e R s m args below meth c C L st h S hS => ?_
  simp only [o_lc, Option.some.injEq] at hS; subst hS
  obtain ⟨hx, hb, hml, hown, hnm, hr, hlk, hts, hK, hbs⟩ := C
  exact ⟨_, _, rfl, fun H ls locs cells slots Q hH hL hs k => lv_ldc2 hx hb hown (hts _ hw) d k⟩
theorem sg_lconst {n : Fin 2} {v : Int64} (d : decode I.2.1 pc = .ok (.lconst n, 1)) (hv : Int64.ofNat (n : Nat) = v) : SG E I pc (o_lc v (pc + 1)) := by
  refine SG.mv fun p l e R s m args below meth c C L st h S hS => ?_
  simp only [o_lc, Option.some.injEq] at hS; subst hS
  exact ⟨_, _, rfl, fun H ls locs cells slots Q hH hL hs k => lv_lconst C.1 C.2.1 d hv k⟩
theorem sg_null (d : decode I.2.1 pc = .ok (.aconst_null, 1)) : SG E I pc (o_nul (pc + 1)) := by
  refine SG.mv fun p l e R s m args below meth c C L st h S hS => ?_
  simp only [o_nul, Option.some.injEq] at hS; subst hS
  exact ⟨_, _, rfl, fun H ls locs cells slots Q hH hL hs k => lv_null C.1 C.2.1 d k⟩
theorem sg_iload_n {k : Fin 4} {i : Nat} (d : decode I.2.1 pc = .ok (.iload_n k, 1)) (hi : (k : Nat) = i) : SG E I pc (o_il i (pc + 1)) := by
  refine SG.mv fun p l e R s m args below meth c C L st h S hS => ?_
  simp only [o_il] at hS; split at hS
  next x hx => simp only [Option.some.injEq] at hS; subst hS; exact ⟨_, _, rfl, fun H ls locs cells slots Q hH hL hs k => lv_iload_n C.1 C.2.1 d hi (hL.get hx) k⟩
  all_goals cases hS
theorem sg_iload {i : Nat} (d : decode I.2.1 pc = .ok (.iload i, 2)) : SG E I pc (o_il i (pc + 2)) := by
  refine SG.mv fun p l e R s m args below meth c C L st h S hS => ?_
  simp only [o_il] at hS; split at hS
  next x hx => simp only [Option.some.injEq] at hS; subst hS; exact ⟨_, _, rfl, fun H ls locs cells slots Q hH hL hs k => lv_iload C.1 C.2.1 d (hL.get hx) k⟩
  all_goals cases hS
theorem sg_lload_n {k : Fin 4} {i : Nat} (d : decode I.2.1 pc = .ok (.lload_n k, 1)) (hi : (k : Nat) = i) : SG E I pc (o_ll i (pc + 1)) := by
  refine SG.mv fun p l e R s m args below meth c C L st h S hS => ?_
  simp only [o_ll] at hS; split at hS
  next x hx => simp only [Option.some.injEq] at hS; subst hS; exact ⟨_, _, rfl, fun H ls locs cells slots Q hH hL hs k => lv_lload_n C.1 C.2.1 d hi (hL.get hx) k⟩
  all_goals cases hS
theorem sg_lload {i : Nat} (d : decode I.2.1 pc = .ok (.lload i, 2)) : SG E I pc (o_ll i (pc + 2)) := by
  refine SG.mv fun p l e R s m args below meth c C L st h S hS => ?_
  simp only [o_ll] at hS; split at hS
  next x hx => simp only [Option.some.injEq] at hS; subst hS; exact ⟨_, _, rfl, fun H ls locs cells slots Q hH hL hs k => lv_lload C.1 C.2.1 d (hL.get hx) k⟩
  all_goals cases hS
theorem sg_aload_n {k : Fin 4} {i : Nat} (d : decode I.2.1 pc = .ok (.aload_n k, 1)) (hi : (k : Nat) = i) : SG E I pc (o_al i (pc + 1)) := by
  refine SG.mv fun p l e R s m args below meth c C L st h S hS => ?_
  simp only [o_al] at hS; split at hS
  next x hx => simp only [Option.some.injEq] at hS; subst hS; exact ⟨_, _, rfl, fun H ls locs cells slots Q hH hL hs k => lv_aload_n C.1 C.2.1 d hi (hL.get hx) k⟩
  next hx => simp only [Option.some.injEq] at hS; subst hS; exact ⟨_, _, rfl, fun H ls locs cells slots Q hH hL hs k => lv_aload_nN C.1 C.2.1 d hi (hL.get hx) k⟩
  all_goals cases hS
theorem sg_aload {i : Nat} (d : decode I.2.1 pc = .ok (.aload i, 2)) : SG E I pc (o_al i (pc + 2)) := by
  refine SG.mv fun p l e R s m args below meth c C L st h S hS => ?_
  simp only [o_al] at hS; split at hS
  next x hx => simp only [Option.some.injEq] at hS; subst hS; exact ⟨_, _, rfl, fun H ls locs cells slots Q hH hL hs k => lv_aload C.1 C.2.1 d (hL.get hx) k⟩
  next hx => simp only [Option.some.injEq] at hS; subst hS; exact ⟨_, _, rfl, fun H ls locs cells slots Q hH hL hs k => lv_aloadN C.1 C.2.1 d (hL.get hx) k⟩
  all_goals cases hS
end SGS
end
section
/-! each step is sound: stores, arithmetic, branches -/
section SGT
variable {E : XE} {I : MI} {pc : Nat}
/-- a step that sets a local -/
theorem SG.lc {o : XOp} (hh : ∀ (p : Program) (l : Launch) (e : Env) (R : Room) (s : State) (m : MethodId) (args : Array Value) (below : List Frame) (meth : Method) (c : Code), XC E I R p s m args meth c → ∀ (L : Ls) (st : List Value) (h : Hp) (S : XStp), o L st h = some S → ∃ (pc' : Nat) (L' : Ls) (st' : List Value), S = .inl (pc', L', st', h) ∧ ∀ (H : Heap) (ls : Array Slot) (locs : List Loc) (cells slots : Nat) (Q : State → Prop), LV ls I.2.2.1 L → (∀ ls' : Array Slot, LV ls' I.2.2.1 L' → W p l e R s m args below meth c H locs cells slots Q (F0 m pc' ls' st')) → W p l e R s m args below meth c H locs cells slots Q (F0 m pc ls st)) : SG E I pc o := by
  intro p l e R s m args below meth c C L st h S hS H ls locs cells slots hH hL hs
  obtain ⟨pc', L', st', rfl, k⟩ := hh p l e R s m args below meth c C L st h S hS
  refine ⟨Nat.le_refl _, Nat.le_refl _, fun Q _ _ kk => k H ls locs cells slots Q hL fun ls' hl' => ?_⟩
  have := kk H ls' locs hH hl' hs
  simpa using this
theorem sg_istore_n {k : Fin 4} {i : Nat} (d : decode I.2.1 pc = .ok (.istore_n k, 1)) (hi : (k : Nat) = i) (hn : i < I.2.2.1) : SG E I pc (o_is i (pc + 1)) := by
  refine SG.lc fun p l e R s m args below meth c C L st h S hS => ?_
  simp only [o_is] at hS; split at hS
  next x r => simp only [Option.some.injEq] at hS; subst hS; exact ⟨_, _, _, rfl, fun H ls locs cells slots Q hL kk => lv_istore_n C.1 C.2.1 d hi hL.1 hn rfl (fun ls' hl' => kk ls' (LV.of1 hL.2 hl'))⟩
  all_goals cases hS
theorem sg_istore {i : Nat} (d : decode I.2.1 pc = .ok (.istore i, 2)) (hn : i < I.2.2.1) : SG E I pc (o_is i (pc + 2)) := by
  refine SG.lc fun p l e R s m args below meth c C L st h S hS => ?_
  simp only [o_is] at hS; split at hS
  next x r => simp only [Option.some.injEq] at hS; subst hS; exact ⟨_, _, _, rfl, fun H ls locs cells slots Q hL kk => lv_istore C.1 C.2.1 d hL.1 hn rfl (fun ls' hl' => kk ls' (LV.of1 hL.2 hl'))⟩
  all_goals cases hS
theorem sg_lstore_n {k : Fin 4} {i : Nat} (d : decode I.2.1 pc = .ok (.lstore_n k, 1)) (hi : (k : Nat) = i) (hn : i + 1 < I.2.2.1) : SG E I pc (o_ls i (pc + 1)) := by
  refine SG.lc fun p l e R s m args below meth c C L st h S hS => ?_
  simp only [o_ls] at hS; split at hS
  next x r => simp only [Option.some.injEq] at hS; subst hS; exact ⟨_, _, _, rfl, fun H ls locs cells slots Q hL kk => lv_lstore_n C.1 C.2.1 d hi hL.1 hn rfl (fun ls' hl' => kk ls' (LV.of2 hL.2 hl'))⟩
  all_goals cases hS
theorem sg_lstore {i : Nat} (d : decode I.2.1 pc = .ok (.lstore i, 2)) (hn : i + 1 < I.2.2.1) : SG E I pc (o_ls i (pc + 2)) := by
  refine SG.lc fun p l e R s m args below meth c C L st h S hS => ?_
  simp only [o_ls] at hS; split at hS
  next x r => simp only [Option.some.injEq] at hS; subst hS; exact ⟨_, _, _, rfl, fun H ls locs cells slots Q hL kk => lv_lstore C.1 C.2.1 d hL.1 hn rfl (fun ls' hl' => kk ls' (LV.of2 hL.2 hl'))⟩
  all_goals cases hS
theorem sg_astore_n {k : Fin 4} {i : Nat} (d : decode I.2.1 pc = .ok (.astore_n k, 1)) (hi : (k : Nat) = i) (hn : i < I.2.2.1) : SG E I pc (o_as i (pc + 1)) := by
  refine SG.lc fun p l e R s m args below meth c C L st h S hS => ?_
  simp only [o_as] at hS; split at hS
  next x r => simp only [Option.some.injEq] at hS; subst hS; exact ⟨_, _, _, rfl, fun H ls locs cells slots Q hL kk => lv_astore_n C.1 C.2.1 d hi hL.1 hn rfl (fun ls' hl' => kk ls' (LV.of1 hL.2 hl'))⟩
  next r => simp only [Option.some.injEq] at hS; subst hS; exact ⟨_, _, _, rfl, fun H ls locs cells slots Q hL kk => lv_astore_nN C.1 C.2.1 d hi hL.1 hn rfl (fun ls' hl' => kk ls' (LV.of1 hL.2 hl'))⟩
  all_goals cases hS
theorem sg_astore {i : Nat} (d : decode I.2.1 pc = .ok (.astore i, 2)) (hn : i < I.2.2.1) : SG E I pc (o_as i (pc + 2)) := by
  refine SG.lc fun p l e R s m args below meth c C L st h S hS => ?_
  simp only [o_as] at hS; split at hS
  next x r => simp only [Option.some.injEq] at hS; subst hS; exact ⟨_, _, _, rfl, fun H ls locs cells slots Q hL kk => lv_astore C.1 C.2.1 d hL.1 hn rfl (fun ls' hl' => kk ls' (LV.of1 hL.2 hl'))⟩
  next r => simp only [Option.some.injEq] at hS; subst hS; exact ⟨_, _, _, rfl, fun H ls locs cells slots Q hL kk => lv_astoreN C.1 C.2.1 d hL.1 hn rfl (fun ls' hl' => kk ls' (LV.of1 hL.2 hl'))⟩
  all_goals cases hS
theorem sg_iinc {i : Nat} {n : Int} {v : Int32} (d : decode I.2.1 pc = .ok (.iinc i n, 3)) (hv : Int32.ofInt n = v) (hn : i < I.2.2.1) : SG E I pc (o_inc i v (pc + 3)) := by
  refine SG.lc fun p l e R s m args below meth c C L st h S hS => ?_
  simp only [o_inc] at hS; split at hS
  next x hx =>
    simp only [Option.some.injEq] at hS; subst hS
    refine ⟨_, _, _, rfl, fun H ls locs cells slots Q hL kk => ?_⟩
    obtain ⟨k, hk⟩ := List.getElem?_of_mem ((toA_mem L 0 (i, .int x)).mpr ⟨i, by simp, hx⟩)
    exact lv_iinc C.1 C.2.1 d hL.1 hk (by rw [hv]) hn rfl (fun ls' hl' => kk ls' (LV.of1 hL.2 hl'))
  all_goals cases hS
theorem sg_iadd (d : decode I.2.1 pc = .ok (.iadd, 1)) : SG E I pc (o_iadd (pc + 1)) := by
  refine SG.mv fun p l e R s m args below meth c C L st h S hS => ?_
  simp only [o_iadd, o_b] at hS; split at hS
  next y x r => simp only [Option.some.injEq] at hS; subst hS; exact ⟨_, _, rfl, fun H ls locs cells slots Q hH hL hs k => lv_iadd C.1 C.2.1 d k⟩
  all_goals cases hS
theorem sg_isub (d : decode I.2.1 pc = .ok (.isub, 1)) : SG E I pc (o_isub (pc + 1)) := by
  refine SG.mv fun p l e R s m args below meth c C L st h S hS => ?_
  simp only [o_isub, o_b] at hS; split at hS
  next y x r => simp only [Option.some.injEq] at hS; subst hS; exact ⟨_, _, rfl, fun H ls locs cells slots Q hH hL hs k => lv_isub C.1 C.2.1 d k⟩
  all_goals cases hS
theorem sg_imul (d : decode I.2.1 pc = .ok (.imul, 1)) : SG E I pc (o_imul (pc + 1)) := by
  refine SG.mv fun p l e R s m args below meth c C L st h S hS => ?_
  simp only [o_imul, o_b] at hS; split at hS
  next y x r => simp only [Option.some.injEq] at hS; subst hS; exact ⟨_, _, rfl, fun H ls locs cells slots Q hH hL hs k => lv_imul C.1 C.2.1 d k⟩
  all_goals cases hS
theorem sg_iand (d : decode I.2.1 pc = .ok (.iand, 1)) : SG E I pc (o_iand (pc + 1)) := by
  refine SG.mv fun p l e R s m args below meth c C L st h S hS => ?_
  simp only [o_iand, o_b] at hS; split at hS
  next y x r => simp only [Option.some.injEq] at hS; subst hS; exact ⟨_, _, rfl, fun H ls locs cells slots Q hH hL hs k => lv_iand C.1 C.2.1 d k⟩
  all_goals cases hS
theorem sg_ior (d : decode I.2.1 pc = .ok (.ior, 1)) : SG E I pc (o_ior (pc + 1)) := by
  refine SG.mv fun p l e R s m args below meth c C L st h S hS => ?_
  simp only [o_ior, o_b] at hS; split at hS
  next y x r => simp only [Option.some.injEq] at hS; subst hS; exact ⟨_, _, rfl, fun H ls locs cells slots Q hH hL hs k => lv_ior C.1 C.2.1 d k⟩
  all_goals cases hS
theorem sg_ishl (d : decode I.2.1 pc = .ok (.ishl, 1)) : SG E I pc (o_ishl (pc + 1)) := by
  refine SG.mv fun p l e R s m args below meth c C L st h S hS => ?_
  simp only [o_ishl, o_b] at hS; split at hS
  next y x r => simp only [Option.some.injEq] at hS; subst hS; exact ⟨_, _, rfl, fun H ls locs cells slots Q hH hL hs k => lv_ishl C.1 C.2.1 d k⟩
  all_goals cases hS
theorem sg_ishr (d : decode I.2.1 pc = .ok (.ishr, 1)) : SG E I pc (o_ishr (pc + 1)) := by
  refine SG.mv fun p l e R s m args below meth c C L st h S hS => ?_
  simp only [o_ishr, o_b] at hS; split at hS
  next y x r => simp only [Option.some.injEq] at hS; subst hS; exact ⟨_, _, rfl, fun H ls locs cells slots Q hH hL hs k => lv_ishr C.1 C.2.1 d k⟩
  all_goals cases hS
theorem sg_ineg (d : decode I.2.1 pc = .ok (.ineg, 1)) : SG E I pc (o_ineg (pc + 1)) := by
  refine SG.mv fun p l e R s m args below meth c C L st h S hS => ?_
  simp only [o_ineg] at hS; split at hS
  next x r => simp only [Option.some.injEq] at hS; subst hS; exact ⟨_, _, rfl, fun H ls locs cells slots Q hH hL hs k => lv_ineg C.1 C.2.1 d k⟩
  all_goals cases hS
theorem sg_i2b (d : decode I.2.1 pc = .ok (.i2b, 1)) : SG E I pc (o_i2b (pc + 1)) := by
  refine SG.mv fun p l e R s m args below meth c C L st h S hS => ?_
  simp only [o_i2b] at hS; split at hS
  next x r => simp only [Option.some.injEq] at hS; subst hS; exact ⟨_, _, rfl, fun H ls locs cells slots Q hH hL hs k => lv_i2b C.1 C.2.1 d rfl k⟩
  all_goals cases hS
theorem sg_i2l (d : decode I.2.1 pc = .ok (.i2l, 1)) : SG E I pc (o_i2l (pc + 1)) := by
  refine SG.mv fun p l e R s m args below meth c C L st h S hS => ?_
  simp only [o_i2l] at hS; split at hS
  next x r => simp only [Option.some.injEq] at hS; subst hS; exact ⟨_, _, rfl, fun H ls locs cells slots Q hH hL hs k => lv_i2l C.1 C.2.1 d rfl k⟩
  all_goals cases hS
theorem sg_l2i (d : decode I.2.1 pc = .ok (.l2i, 1)) : SG E I pc (o_l2i (pc + 1)) := by
  refine SG.mv fun p l e R s m args below meth c C L st h S hS => ?_
  simp only [o_l2i] at hS; split at hS
  next x r => simp only [Option.some.injEq] at hS; subst hS; exact ⟨_, _, rfl, fun H ls locs cells slots Q hH hL hs k => lv_l2i C.1 C.2.1 d rfl k⟩
  all_goals cases hS
theorem sg_land (d : decode I.2.1 pc = .ok (.land, 1)) : SG E I pc (o_land (pc + 1)) := by
  refine SG.mv fun p l e R s m args below meth c C L st h S hS => ?_
  simp only [o_land, o_lb] at hS; split at hS
  next y x r => simp only [Option.some.injEq] at hS; subst hS; exact ⟨_, _, rfl, fun H ls locs cells slots Q hH hL hs k => lv_land C.1 C.2.1 d k⟩
  all_goals cases hS
theorem sg_lor (d : decode I.2.1 pc = .ok (.lor, 1)) : SG E I pc (o_lor (pc + 1)) := by
  refine SG.mv fun p l e R s m args below meth c C L st h S hS => ?_
  simp only [o_lor, o_lb] at hS; split at hS
  next y x r => simp only [Option.some.injEq] at hS; subst hS; exact ⟨_, _, rfl, fun H ls locs cells slots Q hH hL hs k => lv_lor C.1 C.2.1 d k⟩
  all_goals cases hS
theorem sg_lshl (d : decode I.2.1 pc = .ok (.lshl, 1)) : SG E I pc (o_lshl (pc + 1)) := by
  refine SG.mv fun p l e R s m args below meth c C L st h S hS => ?_
  simp only [o_lshl, o_lsh] at hS; split at hS
  next y x r => simp only [Option.some.injEq] at hS; subst hS; exact ⟨_, _, rfl, fun H ls locs cells slots Q hH hL hs k => lv_lshl C.1 C.2.1 d rfl k⟩
  all_goals cases hS
theorem sg_lshr (d : decode I.2.1 pc = .ok (.lshr, 1)) : SG E I pc (o_lshr (pc + 1)) := by
  refine SG.mv fun p l e R s m args below meth c C L st h S hS => ?_
  simp only [o_lshr, o_lsh] at hS; split at hS
  next y x r => simp only [Option.some.injEq] at hS; subst hS; exact ⟨_, _, rfl, fun H ls locs cells slots Q hH hL hs k => lv_lshr C.1 C.2.1 d rfl k⟩
  all_goals cases hS
theorem sg_lcmp (d : decode I.2.1 pc = .ok (.lcmp, 1)) : SG E I pc (o_lcmp (pc + 1)) := by
  refine SG.mv fun p l e R s m args below meth c C L st h S hS => ?_
  simp only [o_lcmp] at hS; split at hS
  next y x r => simp only [Option.some.injEq] at hS; subst hS; exact ⟨_, _, rfl, fun H ls locs cells slots Q hH hL hs k => W.lcmp C.1 C.2.1 d k⟩
  all_goals cases hS
theorem sg_dup (d : decode I.2.1 pc = .ok (.dup, 1)) : SG E I pc (o_dup (pc + 1)) := by
  refine SG.mv fun p l e R s m args below meth c C L st h S hS => ?_
  simp only [o_dup] at hS; split at hS
  next x r => simp only [Option.some.injEq] at hS; subst hS; exact ⟨_, _, rfl, fun H ls locs cells slots Q hH hL hs k => lv_dup C.1 C.2.1 d rfl k⟩
  next x r => simp only [Option.some.injEq] at hS; subst hS; exact ⟨_, _, rfl, fun H ls locs cells slots Q hH hL hs k => lv_dup C.1 C.2.1 d rfl k⟩
  all_goals cases hS
theorem sg_pop (d : decode I.2.1 pc = .ok (.pop, 1)) : SG E I pc (o_pop (pc + 1)) := by
  refine SG.mv fun p l e R s m args below meth c C L st h S hS => ?_
  simp only [o_pop] at hS; split at hS
  next x r => simp only [Option.some.injEq] at hS; subst hS; exact ⟨_, _, rfl, fun H ls locs cells slots Q hH hL hs k => lv_pop C.1 C.2.1 d rfl k⟩
  next x r => simp only [Option.some.injEq] at hS; subst hS; exact ⟨_, _, rfl, fun H ls locs cells slots Q hH hL hs k => lv_pop C.1 C.2.1 d rfl k⟩
  all_goals cases hS
theorem sg_ifeq {off : Int} {t : Nat} (d : decode I.2.1 pc = .ok (.ifCond .eq off, 3)) (ht : (pc : Int) + off = (t : Int)) : SG E I pc (o_ifeq t (pc + 3)) := by
  refine SG.mv fun p l e R s m args below meth c C L st h S hS => ?_
  simp only [o_ifeq, o_if] at hS; split at hS
  next x r =>
    simp only [Option.some.injEq] at hS; subst hS
    refine ⟨_, _, rfl, fun H ls locs cells slots Q hH hL hs k => lv_if_eq C.1 C.2.1 d ht (fun q => ?_) (fun q => ?_)⟩
    · simpa [q] using k
    · simpa [q] using k
  all_goals cases hS
theorem sg_ifne {off : Int} {t : Nat} (d : decode I.2.1 pc = .ok (.ifCond .ne off, 3)) (ht : (pc : Int) + off = (t : Int)) : SG E I pc (o_ifne t (pc + 3)) := by
  refine SG.mv fun p l e R s m args below meth c C L st h S hS => ?_
  simp only [o_ifne, o_if] at hS; split at hS
  next x r =>
    simp only [Option.some.injEq] at hS; subst hS
    refine ⟨_, _, rfl, fun H ls locs cells slots Q hH hL hs k => lv_if_ne C.1 C.2.1 d ht (fun q => ?_) (fun q => ?_)⟩
    · simpa [q] using k
    · simpa [q] using k
  all_goals cases hS
theorem sg_iflt {off : Int} {t : Nat} (d : decode I.2.1 pc = .ok (.ifCond .lt off, 3)) (ht : (pc : Int) + off = (t : Int)) : SG E I pc (o_iflt t (pc + 3)) := by
  refine SG.mv fun p l e R s m args below meth c C L st h S hS => ?_
  simp only [o_iflt, o_if] at hS; split at hS
  next x r =>
    simp only [Option.some.injEq] at hS; subst hS
    refine ⟨_, _, rfl, fun H ls locs cells slots Q hH hL hs k => lv_if_lt C.1 C.2.1 d ht (fun q => ?_) (fun q => ?_)⟩
    · simpa [q] using k
    · simpa [q] using k
  all_goals cases hS
theorem sg_ifge {off : Int} {t : Nat} (d : decode I.2.1 pc = .ok (.ifCond .ge off, 3)) (ht : (pc : Int) + off = (t : Int)) : SG E I pc (o_ifge t (pc + 3)) := by
  refine SG.mv fun p l e R s m args below meth c C L st h S hS => ?_
  simp only [o_ifge, o_if] at hS; split at hS
  next x r =>
    simp only [Option.some.injEq] at hS; subst hS
    refine ⟨_, _, rfl, fun H ls locs cells slots Q hH hL hs k => lv_if_ge C.1 C.2.1 d ht (fun q => ?_) (fun q => ?_)⟩
    · simpa [q] using k
    · simpa [q] using k
  all_goals cases hS
theorem sg_ifgt {off : Int} {t : Nat} (d : decode I.2.1 pc = .ok (.ifCond .gt off, 3)) (ht : (pc : Int) + off = (t : Int)) : SG E I pc (o_ifgt t (pc + 3)) := by
  refine SG.mv fun p l e R s m args below meth c C L st h S hS => ?_
  simp only [o_ifgt, o_if] at hS; split at hS
  next x r =>
    simp only [Option.some.injEq] at hS; subst hS
    refine ⟨_, _, rfl, fun H ls locs cells slots Q hH hL hs k => lv_if_gt C.1 C.2.1 d ht (fun q => ?_) (fun q => ?_)⟩
    · simpa [q] using k
    · simpa [q] using k
  all_goals cases hS
theorem sg_ifle {off : Int} {t : Nat} (d : decode I.2.1 pc = .ok (.ifCond .le off, 3)) (ht : (pc : Int) + off = (t : Int)) : SG E I pc (o_ifle t (pc + 3)) := by
  refine SG.mv fun p l e R s m args below meth c C L st h S hS => ?_
  simp only [o_ifle, o_if] at hS; split at hS
  next x r =>
    simp only [Option.some.injEq] at hS; subst hS
    refine ⟨_, _, rfl, fun H ls locs cells slots Q hH hL hs k => lv_if_le C.1 C.2.1 d ht (fun q => ?_) (fun q => ?_)⟩
    · simpa [q] using k
    · simpa [q] using k
  all_goals cases hS
theorem sg_ceq {off : Int} {t : Nat} (d : decode I.2.1 pc = .ok (.if_icmp .eq off, 3)) (ht : (pc : Int) + off = (t : Int)) : SG E I pc (o_ceq t (pc + 3)) := by
  refine SG.mv fun p l e R s m args below meth c C L st h S hS => ?_
  simp only [o_ceq, o_cmp] at hS; split at hS
  next y x r =>
    simp only [Option.some.injEq] at hS; subst hS
    refine ⟨_, _, rfl, fun H ls locs cells slots Q hH hL hs k => lv_icmp_eq C.1 C.2.1 d ht (fun q => ?_) (fun q => ?_)⟩
    · simpa [q] using k
    · simpa [q] using k
  all_goals cases hS
theorem sg_cne {off : Int} {t : Nat} (d : decode I.2.1 pc = .ok (.if_icmp .ne off, 3)) (ht : (pc : Int) + off = (t : Int)) : SG E I pc (o_cne t (pc + 3)) := by
  refine SG.mv fun p l e R s m args below meth c C L st h S hS => ?_
  simp only [o_cne, o_cmp] at hS; split at hS
  next y x r =>
    simp only [Option.some.injEq] at hS; subst hS
    refine ⟨_, _, rfl, fun H ls locs cells slots Q hH hL hs k => lv_icmp_ne C.1 C.2.1 d ht (fun q => ?_) (fun q => ?_)⟩
    · simpa [q] using k
    · simpa [q] using k
  all_goals cases hS
theorem sg_clt {off : Int} {t : Nat} (d : decode I.2.1 pc = .ok (.if_icmp .lt off, 3)) (ht : (pc : Int) + off = (t : Int)) : SG E I pc (o_clt t (pc + 3)) := by
  refine SG.mv fun p l e R s m args below meth c C L st h S hS => ?_
  simp only [o_clt, o_cmp] at hS; split at hS
  next y x r =>
    simp only [Option.some.injEq] at hS; subst hS
    refine ⟨_, _, rfl, fun H ls locs cells slots Q hH hL hs k => lv_icmp_lt C.1 C.2.1 d ht (fun q => ?_) (fun q => ?_)⟩
    · simpa [q] using k
    · simpa [q] using k
  all_goals cases hS
theorem sg_cge {off : Int} {t : Nat} (d : decode I.2.1 pc = .ok (.if_icmp .ge off, 3)) (ht : (pc : Int) + off = (t : Int)) : SG E I pc (o_cge t (pc + 3)) := by
  refine SG.mv fun p l e R s m args below meth c C L st h S hS => ?_
  simp only [o_cge, o_cmp] at hS; split at hS
  next y x r =>
    simp only [Option.some.injEq] at hS; subst hS
    refine ⟨_, _, rfl, fun H ls locs cells slots Q hH hL hs k => lv_icmp_ge C.1 C.2.1 d ht (fun q => ?_) (fun q => ?_)⟩
    · simpa [q] using k
    · simpa [q] using k
  all_goals cases hS
theorem sg_cgt {off : Int} {t : Nat} (d : decode I.2.1 pc = .ok (.if_icmp .gt off, 3)) (ht : (pc : Int) + off = (t : Int)) : SG E I pc (o_cgt t (pc + 3)) := by
  refine SG.mv fun p l e R s m args below meth c C L st h S hS => ?_
  simp only [o_cgt, o_cmp] at hS; split at hS
  next y x r =>
    simp only [Option.some.injEq] at hS; subst hS
    refine ⟨_, _, rfl, fun H ls locs cells slots Q hH hL hs k => lv_icmp_gt C.1 C.2.1 d ht (fun q => ?_) (fun q => ?_)⟩
    · simpa [q] using k
    · simpa [q] using k
  all_goals cases hS
theorem sg_cle {off : Int} {t : Nat} (d : decode I.2.1 pc = .ok (.if_icmp .le off, 3)) (ht : (pc : Int) + off = (t : Int)) : SG E I pc (o_cle t (pc + 3)) := by
  refine SG.mv fun p l e R s m args below meth c C L st h S hS => ?_
  simp only [o_cle, o_cmp] at hS; split at hS
  next y x r =>
    simp only [Option.some.injEq] at hS; subst hS
    refine ⟨_, _, rfl, fun H ls locs cells slots Q hH hL hs k => lv_icmp_le C.1 C.2.1 d ht (fun q => ?_) (fun q => ?_)⟩
    · simpa [q] using k
    · simpa [q] using k
  all_goals cases hS
theorem sg_goto {off : Int} {t : Nat} (d : decode I.2.1 pc = .ok (.goto off, 3)) (ht : (pc : Int) + off = (t : Int)) : SG E I pc (o_goto t) := by
  refine SG.mv fun p l e R s m args below meth c C L st h S hS => ?_
  simp only [o_goto, Option.some.injEq] at hS; subst hS
  exact ⟨_, _, rfl, fun H ls locs cells slots Q hH hL hs k => lv_goto C.1 C.2.1 d ht k⟩
theorem sg_ifnull {off : Int} {t : Nat} (d : decode I.2.1 pc = .ok (.ifnull off, 3)) (ht : (pc : Int) + off = (t : Int)) : SG E I pc (o_ifn t (pc + 3)) := by
  refine SG.mv fun p l e R s m args below meth c C L st h S hS => ?_
  simp only [o_ifn] at hS; split at hS
  next x r => simp only [Option.some.injEq] at hS; subst hS; exact ⟨_, _, rfl, fun H ls locs cells slots Q hH hL hs k => lv_ifnull C.1 C.2.1 d k⟩
  next r => simp only [Option.some.injEq] at hS; subst hS; exact ⟨_, _, rfl, fun H ls locs cells slots Q hH hL hs k => lv_ifnullN C.1 C.2.1 d ht k⟩
  all_goals cases hS
theorem sg_ifnonnull {off : Int} {t : Nat} (d : decode I.2.1 pc = .ok (.ifnonnull off, 3)) (ht : (pc : Int) + off = (t : Int)) : SG E I pc (o_ifnn t (pc + 3)) := by
  refine SG.mv fun p l e R s m args below meth c C L st h S hS => ?_
  simp only [o_ifnn] at hS; split at hS
  next x r => simp only [Option.some.injEq] at hS; subst hS; exact ⟨_, _, rfl, fun H ls locs cells slots Q hH hL hs k => lv_ifnonnull C.1 C.2.1 d ht k⟩
  next r => simp only [Option.some.injEq] at hS; subst hS; exact ⟨_, _, rfl, fun H ls locs cells slots Q hH hL hs k => lv_ifnonnullN C.1 C.2.1 d k⟩
  all_goals cases hS
/-- the switch by offsets, and by targets -/
theorem swp_lookup (x : Int32) (pc : Nat) : ∀ (qs : List (Int × Int)) (ps : List (Int32 × Nat)) (dflt : Int) (df : Nat), qs.length = ps.length → (∀ (k : Nat) (a : Int × Int) (b : Int32 × Nat), qs[k]? = some a → ps[k]? = some b → a.1 = b.1.toInt ∧ (pc : Int) + a.2 = (b.2 : Int)) → (pc : Int) + dflt = (df : Int) → (pc : Int) + Op.lookupswitch.offset qs dflt x.toInt = (o_swp x ps df : Int)
  | [], [], dflt, df, _, _, hd => by simpa [Op.lookupswitch.offset, o_swp] using hd
  | [], _ :: _, _, _, h, _, _ => by simp at h
  | _ :: _, [], _, _, h, _, _ => by simp at h
  | (a, oa) :: qs, (b, tb) :: ps, dflt, df, hl, hk, hd => by
    have h0 := hk 0 (a, oa) (b, tb) rfl rfl
    have ih := swp_lookup x pc qs ps dflt df (by simpa using hl) (fun k u v hu hv => hk (k + 1) u v (by simpa using hu) (by simpa using hv)) hd
    simp only [o_swp]
    by_cases e : x = b
    · subst e
      rw [Op.lookupswitch.offset_cons, if_pos (show a = x.toInt from h0.1)]
      simpa using h0.2
    · rw [lv_osw e h0.1.symm]
      simpa [e] using ih
theorem sg_lookup {dflt : Int} {qs : Array (Int × Int)} {len : Nat} {ps : List (Int32 × Nat)} {df : Nat} (d : decode I.2.1 pc = .ok (.lookupswitch dflt qs, len)) (hp : (qs.toList.zip (qs.toList.drop 1)).all (fun (a, next) => a.1 < next.1) = true) (hl : qs.toList.length = ps.length) (hk : (qs.toList.zip ps).all (fun (a, b) => decide (a.1 = b.1.toInt) && decide ((pc : Int) + a.2 = (b.2 : Int))) = true) (hd : (pc : Int) + dflt = (df : Int)) : SG E I pc (o_sw ps df) := by
  refine SG.mv fun p l e R s m args below meth c C L st h S hS => ?_
  simp only [o_sw] at hS; split at hS
  next x r =>
    simp only [Option.some.injEq] at hS; subst hS
    refine ⟨_, _, rfl, fun H ls locs cells slots Q hH hL hs k => lv_lookup C.1 C.2.1 d hp rfl (swp_lookup x pc qs.toList ps dflt df hl (fun k a b ha hb => ?_) hd) k⟩
    have hm : (a, b) ∈ qs.toList.zip ps := List.mem_of_getElem? (i := k) (by rw [List.getElem?_zip_eq_some]; exact ⟨ha, hb⟩)
    have := List.all_eq_true.mp hk _ hm
    simpa using this
  all_goals cases hS
theorem swp_at (x : Int32) : ∀ (ps : List (Int32 × Nat)) (df k : Nat) (b : Int32 × Nat), ps[k]? = some b → x = b.1 → (∀ (j : Nat) (b' : Int32 × Nat), j < k → ps[j]? = some b' → ¬ x = b'.1) → o_swp x ps df = b.2
  | [], df, k, b, h, _, _ => by simp at h
  | (u, t) :: ps, df, 0, b, h, hx, _ => by simp at h; subst h; simp [o_swp, hx]
  | (u, t) :: ps, df, k + 1, b, h, hx, hn => by
    have h0 := hn 0 (u, t) (by omega) rfl
    simp only at h0
    simp only [o_swp, h0, decide_false, cond_false]
    exact swp_at x ps df k b (by simpa using h) hx (fun j b' hj hb => hn (j + 1) b' (by omega) (by simpa using hb))
theorem swp_out (x : Int32) : ∀ (ps : List (Int32 × Nat)) (df : Nat), (∀ (j : Nat) (b' : Int32 × Nat), ps[j]? = some b' → ¬ x = b'.1) → o_swp x ps df = df
  | [], df, _ => rfl
  | (u, t) :: ps, df, hn => by
    have h0 := hn 0 (u, t) rfl
    simp only at h0
    simp only [o_swp, h0, decide_false, cond_false]
    exact swp_out x ps df (fun j b' hb => hn (j + 1) b' (by simpa using hb))
theorem sg_table {dflt lo hi : Int} {offs : Array Int} {len : Nat} {ps : List (Int32 × Nat)} {df : Nat} (d : decode I.2.1 pc = .ok (.tableswitch dflt lo hi offs, len)) (hl : offs.toList.length = ps.length) (hh : (ps.length : Int) = hi - lo + 1) (hk : ((offs.toList.zip ps).zip (List.range ps.length)).all (fun (a, k) => decide (a.2.1.toInt = lo + (k : Int)) && decide ((pc : Int) + a.1 = (a.2.2 : Int))) = true) (hd : (pc : Int) + dflt = (df : Int)) : SG E I pc (o_sw ps df) := by
  have key : ∀ (k : Nat) (b : Int32 × Nat), ps[k]? = some b → b.1.toInt = lo + (k : Int) ∧ ∃ a, offs.toList[k]? = some a ∧ (pc : Int) + a = (b.2 : Int) := by
    intro k b hb
    have hkl : k < ps.length := (List.getElem?_eq_some_iff.mp hb).1
    have ho : offs.toList[k]? = some (offs.toList[k]'(by omega)) := List.getElem?_eq_getElem (by omega)
    have hm : ((offs.toList[k]'(by omega), b), k) ∈ (offs.toList.zip ps).zip (List.range ps.length) := List.mem_of_getElem? (i := k) (by rw [List.getElem?_zip_eq_some, List.getElem?_zip_eq_some]; exact ⟨⟨ho, hb⟩, by simp [hkl]⟩)
    have := List.all_eq_true.mp hk _ hm
    simp only [Bool.and_eq_true, decide_eq_true_eq] at this
    exact ⟨this.1, _, ho, this.2⟩
  refine SG.mv fun p l e R s m args below meth c C L st h S hS => ?_
  simp only [o_sw] at hS; split at hS
  next x r =>
    simp only [Option.some.injEq] at hS; subst hS
    refine ⟨_, _, rfl, fun H ls locs cells slots Q hH hL hs k => ?_⟩
    by_cases hout : x.toInt < lo ∨ hi < x.toInt
    · have e : o_swp x ps df = df := swp_out x ps df fun j b hb hx => by
        have h1 := (key j b hb).1
        have h2 : j < ps.length := (List.getElem?_eq_some_iff.mp hb).1
        rw [← hx] at h1
        omega
      rw [e] at k
      exact lv_tableOut C.1 C.2.1 d hout hd k
    · have hj : (x.toInt - lo).toNat < ps.length := by omega
      obtain ⟨b, hb⟩ : ∃ b, ps[(x.toInt - lo).toNat]? = some b := ⟨_, List.getElem?_eq_getElem hj⟩
      obtain ⟨h1, a, h2, h3⟩ := key _ b hb
      have e : o_swp x ps df = b.2 := swp_at x ps df _ b hb (Int32.toInt_inj.mp (by omega)) fun j b' hjl hb' hx => by
        have h4 := (key j b' hb').1
        rw [← hx] at h4
        omega
      rw [e] at k
      exact lv_tableIn C.1 C.2.1 d (fun q => hout (Or.inl q)) (fun q => hout (Or.inr q)) (by rw [← Array.getElem?_toList]; exact h2) h3 k
  all_goals cases hS
end SGT
end
section
/-! each step is sound: the heap -/
theorem HR.lt {E : XE} {h : Hp} {H : Heap} (hH : HR E h H) {a : Nat} {w : Bool} {c : Ce} (e : h.2.2 a = some (w, c)) : a < h.1 := by
  rw [← hH.1]; exact (hH.2 a w c e).1.lt
theorem HR.one {E : XE} {h : Hp} {H : Heap} (hH : HR E h H) {a : Nat} {w : Bool} {c : Ce} (e : h.2.2 a = some (w, c)) : va_P E.2.2.2.1 classes [(a, cvE E.2.2.2.2 c)] H := by
  intro k q hk
  have hz : k < 1 := (List.getElem?_eq_some_iff.mp hk).1
  rw [show k = 0 by omega] at hk
  cases hk
  exact (hH.2 a w c e).1
theorem HR.set {E : XE} {h : Hp} {H H' : Heap} (hH : HR E h H) {a : Nat} {c0 c : Ce} (e : h.2.2 a = some (true, c0)) (hz : H'.size = H.size) (ho : ∀ q : Nat, q ≠ a → H'[q]? = H[q]?) (hc : va_at E.2.2.2.1 classes (a, cvE E.2.2.2.2 c) H') (hk : cok c) : HR E (hset h a c) H' := by
  refine ⟨by rw [hz]; exact hH.1, fun b w d hb => ?_⟩
  simp only [hset] at hb
  by_cases hba : b = a
  · subst hba
    simp at hb
    obtain ⟨rfl, rfl⟩ := hb
    exact ⟨hc, (hH.2 b true c0 e).2.1, hk⟩
  · rw [if_neg hba] at hb
    obtain ⟨h1, h2, h3⟩ := hH.2 b w d hb
    exact ⟨h1.kept (ho b hba), h2, h3⟩
theorem HR.new {E : XE} {h : Hp} {H H' : Heap} (hH : HR E h H) (hb : E.1 ≤ H.size) {n : Nat} {c : Ce} (hz : H'.size = H.size + 1) (ho : ∀ q : Nat, q < H.size → H'[q]? = H[q]?) (hc : va_at E.2.2.2.1 classes (h.1, cvE E.2.2.2.2 c) H') (hk : cok c) : HR E (hnew h n c) H' := by
  refine ⟨by rw [hz, hH.1]; rfl, fun b w d hbd => ?_⟩
  simp only [hnew] at hbd
  by_cases hba : b = h.1
  · subst hba
    simp at hbd
    obtain ⟨rfl, rfl⟩ := hbd
    exact ⟨hc, fun _ => by rw [← hH.1]; exact hb, hk⟩
  · rw [if_neg hba] at hbd
    obtain ⟨h1, h2, h3⟩ := hH.2 b w d hbd
    exact ⟨h1.kept (ho b h1.lt), h2, h3⟩
theorem XA_S {E : XE} {H0 H H' : Heap} {locs : List Loc} (hS : va_S (XA E) H0 H locs) (hb : E.1 ≤ H0.size) (hz : H'.size = H.size + 1) (ho : ∀ q : Nat, q < H.size → H'[q]? = H[q]?) : va_S (XA E) H0 H' locs := ⟨Nat.le_trans hS.1 (by omega), fun x h1 h2 => (ho x (Nat.lt_of_lt_of_le h1 hS.1)).trans (hS.2.1 x h1 h2), hS.2.2⟩
section SGH
variable {E : XE} {I : MI} {pc : Nat}
theorem sg_getf {C : String} {T : u_T} {N ci k i : Nat} (d : decode I.2.1 pc = .ok (.getfield i, 3)) (hc : classes[ci]? = some (C, T, N)) (hin : ∀ w ∈ u_ws C T N, w ∈ lwg) (hk : k < N) (hw : Cond.fieldLink I.1.cls i (T k).1 (T k).2.1 (T k).2.2.1 ∈ lwg) : SG E I pc (o_getf ci k (pc + 3)) := by
  refine SG.mv fun p l e R s m args below meth c C L st h S hS => ?_
  obtain ⟨hx, hb, hml, hown, hnm, hr, hlk, hts, hK, hbs⟩ := C
  simp only [o_getf] at hS; split at hS
  next a r =>
    split at hS
    next w c0 fs hM =>
      cases hbe : Nat.beq c0 ci with
      | false => rw [hbe] at hS; cases hS
      | true =>
        rw [hbe] at hS
        simp only [cond_true] at hS
        have hce : c0 = ci := Nat.eq_of_beq_eq_true hbe
        subst hce
        split at hS
        next v hv =>
          simp only [Option.some.injEq] at hS; subst hS
          exact ⟨_, _, rfl, fun H ls locs cells slots Q hH hL hs kk => va_get hx hb hts hin hown hK.1 (hH.one hM) 0 rfl hc k hk (hts _ hw) (fun _ h => h) hv d kk⟩
        next => cases hS
    all_goals cases hS
  all_goals cases hS
/-- an element -/
theorem inb_in {i : Int32} {n : Nat} (h : inb i n = true) : vp_in i n := by
  simp only [inb, Bool.and_eq_true, Bool.not_eq_true', decide_eq_false_iff_not] at h
  rintro (q | q)
  · exact h.1 q
  · exact absurd (Nat.le_of_ble_eq_true h.2) (by omega)
theorem sg_iald (d : decode I.2.1 pc = .ok (.iaload, 1)) : SG E I pc (o_iald 1 (pc + 1)) := by
  refine SG.mv fun p l e R s m args below meth c C L st h S hS => ?_
  obtain ⟨hx, hb, hml, hown, hnm, hr, hlk, hts, hK, hbs⟩ := C
  simp only [o_iald] at hS; split at hS
  next i a r =>
    split at hS
    next w k n f hM =>
      cases hbe : (Nat.beq k 1 && inb i n) with
      | false => rw [hbe] at hS; cases hS
      | true =>
        rw [hbe] at hS
        simp only [Bool.and_eq_true] at hbe
        have hk : k = 1 := Nat.eq_of_beq_eq_true hbe.1
        subst hk
        simp only [cond_true, Option.some.injEq] at hS; subst hS
        exact ⟨_, _, rfl, fun H ls locs cells slots Q hH hL hs kk => va_iald hx hb hK.1 (hH.one hM) 0 1 rfl rfl (inb_in hbe.2) d kk⟩
    all_goals cases hS
  all_goals cases hS
theorem sg_bald (d : decode I.2.1 pc = .ok (.baload, 1)) : SG E I pc (o_iald 0 (pc + 1)) := by
  refine SG.mv fun p l e R s m args below meth c C L st h S hS => ?_
  obtain ⟨hx, hb, hml, hown, hnm, hr, hlk, hts, hK, hbs⟩ := C
  simp only [o_iald] at hS; split at hS
  next i a r =>
    split at hS
    next w k n f hM =>
      cases hbe : (Nat.beq k 0 && inb i n) with
      | false => rw [hbe] at hS; cases hS
      | true =>
        rw [hbe] at hS
        simp only [Bool.and_eq_true] at hbe
        have hk : k = 0 := Nat.eq_of_beq_eq_true hbe.1
        subst hk
        simp only [cond_true, Option.some.injEq] at hS; subst hS
        exact ⟨_, _, rfl, fun H ls locs cells slots Q hH hL hs kk => va_bald hx hb hK.1 (hH.one hM) 0 0 rfl rfl (inb_in hbe.2) d kk⟩
    all_goals cases hS
  all_goals cases hS
theorem sg_lald (d : decode I.2.1 pc = .ok (.laload, 1)) : SG E I pc (o_lald (pc + 1)) := by
  refine SG.mv fun p l e R s m args below meth c C L st h S hS => ?_
  obtain ⟨hx, hb, hml, hown, hnm, hr, hlk, hts, hK, hbs⟩ := C
  simp only [o_lald] at hS; split at hS
  next i a r =>
    split at hS
    next w k n f hM =>
      cases hbe : (Nat.beq k 2 && inb i n) with
      | false => rw [hbe] at hS; cases hS
      | true =>
        rw [hbe] at hS
        simp only [Bool.and_eq_true] at hbe
        have hk : k = 2 := Nat.eq_of_beq_eq_true hbe.1
        subst hk
        simp only [cond_true, Option.some.injEq] at hS; subst hS
        exact ⟨_, _, rfl, fun H ls locs cells slots Q hH hL hs kk => va_lald hx hb hK.1 (hH.one hM) 0 2 rfl rfl (inb_in hbe.2) d kk⟩
    all_goals cases hS
  all_goals cases hS
theorem tys_ref (dA : Nat → ClassId) : ∀ k, 2 < k → k < 11 → ∃ ty, (tysOf dA)[k]? = some (dA k, ty) ∧ ty.isReference = true
  | 0, h, _ => by omega
  | 1, h, _ => by omega
  | 2, h, _ => by omega
  | 3, _, _ => ⟨_, rfl, rfl⟩
  | 4, _, _ => ⟨_, rfl, rfl⟩
  | 5, _, _ => ⟨_, rfl, rfl⟩
  | 6, _, _ => ⟨_, rfl, rfl⟩
  | 7, _, _ => ⟨_, rfl, rfl⟩
  | 8, _, _ => ⟨_, rfl, rfl⟩
  | 9, _, _ => ⟨_, rfl, rfl⟩
  | 10, _, _ => ⟨_, rfl, rfl⟩
  | k + 11, _, h => by omega
theorem tys_any (dA : Nat → ClassId) : ∀ k, k < 11 → ∃ ty, (tysOf dA)[k]? = some (dA k, ty)
  | 0, _ => ⟨_, rfl⟩
  | 1, _ => ⟨_, rfl⟩
  | 2, _ => ⟨_, rfl⟩
  | 3, _ => ⟨_, rfl⟩
  | 4, _ => ⟨_, rfl⟩
  | 5, _ => ⟨_, rfl⟩
  | 6, _ => ⟨_, rfl⟩
  | 7, _ => ⟨_, rfl⟩
  | 8, _ => ⟨_, rfl⟩
  | 9, _ => ⟨_, rfl⟩
  | 10, _ => ⟨_, rfl⟩
  | k + 11, h => by omega
theorem blt_lt {a b : Nat} (h : Nat.blt a b = true) : a < b := Nat.le_of_ble_eq_true h
theorem sg_aald (d : decode I.2.1 pc = .ok (.aaload, 1)) : SG E I pc (o_aald (pc + 1)) := by
  refine SG.mv fun p l e R s m args below meth c C L st h S hS => ?_
  obtain ⟨hx, hb, hml, hown, hnm, hr, hlk, hts, hK, hbs⟩ := C
  simp only [o_aald] at hS; split at hS
  next i a r =>
    split at hS
    next w k n f hM =>
      cases hbe : (Nat.blt 2 k && Nat.blt k 11 && inb i n) with
      | false => rw [hbe] at hS; cases hS
      | true =>
        rw [hbe] at hS
        simp only [Bool.and_eq_true] at hbe
        obtain ⟨ty, ht, hty⟩ := tys_ref E.2.2.2.2 k (blt_lt hbe.1.1) (blt_lt hbe.1.2)
        have hin := inb_in hbe.2
        have hlt : i.toNatClampNeg < n := Nat.not_le.mp fun q => hin (Or.inr q)
        have key : ∀ (H : Heap) (ls : Array Slot) (locs : List Loc) (cells slots : Nat) (Q : State → Prop), HR E h H → W p l e R s m args below meth c H locs cells slots Q (F0 m (pc + 1) ls (va_rf (f i.toNatClampNeg) :: r)) → W p l e R s m args below meth c H locs cells slots Q (F0 m pc ls (.int i :: .ref a :: r)) := fun H ls locs cells slots Q hH kk =>
          W.aald (v := va_rf (f i.toNatClampNeg)) (ty := ty) hx hb ((hH.one hM) 0 _ rfl) ((hK.1.2 k _ ht).1 n (fun j => va_rf (f j))) hty (fun q => by cases q) (by show ¬ (i < 0 ∨ (arrV _ _ _).slots.size ≤ _); rw [arrV_size]; exact hin) (by show (arrV _ _ _).slots[_]? = _; rw [arrV_read _ _ hlt]) rfl rfl d kk
        simp only [cond_true] at hS
        split at hS
        next hf => simp only [Option.some.injEq] at hS; subst hS; exact ⟨_, _, rfl, fun H ls locs cells slots Q hH hL hs kk => key H ls locs cells slots Q hH (by rw [hf]; exact kk)⟩
        next q hf => simp only [Option.some.injEq] at hS; subst hS; exact ⟨_, _, rfl, fun H ls locs cells slots Q hH hL hs kk => key H ls locs cells slots Q hH (by rw [hf]; exact kk)⟩
    all_goals cases hS
  all_goals cases hS
theorem sg_alen (d : decode I.2.1 pc = .ok (.arraylength, 1)) : SG E I pc (o_alen (pc + 1)) := by
  refine SG.mv fun p l e R s m args below meth c C L st h S hS => ?_
  obtain ⟨hx, hb, hml, hown, hnm, hr, hlk, hts, hK, hbs⟩ := C
  simp only [o_alen] at hS; split at hS
  next a r =>
    split at hS
    next w k n f hM =>
      cases hbe : Nat.blt k 11 with
      | false => rw [hbe] at hS; cases hS
      | true =>
        rw [hbe] at hS
        obtain ⟨ty, ht⟩ := tys_any E.2.2.2.2 k (blt_lt hbe)
        simp only [cond_true, Option.some.injEq] at hS; subst hS
        exact ⟨_, _, rfl, fun H ls locs cells slots Q hH hL hs kk => va_alen hx hb hK.1 (hH.one hM) 0 k rfl ht rfl d kk⟩
    all_goals cases hS
  all_goals cases hS
theorem sg_getsB {i : Nat} (d : decode I.2.1 pc = .ok (.getstatic i, 3)) (hw : Cond.fieldLink I.1.cls i RX12 "NO_BYTES" "[B" ∈ lwg) : SG E I pc (o_ref E.2.1 (pc + 3)) := by
  refine SG.mv fun p l e R s m args below meth c C L st h S hS => ?_
  obtain ⟨hx, hb, hml, hown, hnm, hr, hlk, hts, hK, hbs⟩ := C
  simp only [o_ref, Option.some.injEq] at hS; subst hS
  exact ⟨_, _, rfl, fun H ls locs cells slots Q hH hL hs kk => va_gets hx hb hK.2.2.2.1 hs hown (hts _ hw) (fun _ h => h) d kk⟩
theorem sg_getsBN {i : Nat} (d : decode I.2.1 pc = .ok (.getstatic i, 3)) (hw : I.1.cls = RX10 ∧ i = 7) : SG E I pc (o_ref E.2.1 (pc + 3)) := by
  refine SG.mv fun p l e R s m args below meth c C L st h S hS => ?_
  obtain ⟨hx, hb, hml, hown, hnm, hr, hlk, hts, hK, hbs⟩ := C
  simp only [o_ref, Option.some.injEq] at hS; subst hS
  refine ⟨_, _, rfl, fun H ls locs cells slots Q hH hL hs kk => va_getsN hx hb hK.2.2.2.1 hs hown (host := RX12) (ref := RX12) (index := i) (va_Nw.use rfl ?_) (fun _ h => h) d kk⟩
  rw [hw.1, hw.2]
  exact hK.2.2.1
theorem sg_getsC {i : Nat} (d : decode I.2.1 pc = .ok (.getstatic i, 3)) (hw : Cond.fieldLink I.1.cls i RJ0 "COMPACT_STRINGS" "Z" ∈ lwg) : SG E I pc (o_ic (nI 1) (pc + 3)) := by
  refine SG.mv fun p l e R s m args below meth c C L st h S hS => ?_
  obtain ⟨hx, hb, hml, hown, hnm, hr, hlk, hts, hK, hbs⟩ := C
  simp only [o_ic, Option.some.injEq] at hS; subst hS
  exact ⟨_, _, rfl, fun H ls locs cells slots Q hH hL hs kk => va_gets hx hb hK.2.2.2.2.1 hs hown (hts _ hw) (fun _ h => h) d kk⟩
theorem sg_ldcS (d : decode I.2.1 pc = .ok (.ldc 155, 2)) (hw : I.1.cls = RX12) : SG E I pc (o_ref E.2.2.1 (pc + 2)) := by
  refine SG.mv fun p l e R s m args below meth c C L st h S hS => ?_
  obtain ⟨hx, hb, hml, hown, hnm, hr, hlk, hts, hK, hbs⟩ := C
  simp only [o_ref, Option.some.injEq] at hS; subst hS
  rw [hw] at hown
  exact ⟨_, _, rfl, fun H ls locs cells slots Q hH hL hs kk => va_ldcS hx hb hown hK.2.2.2.2.2.1 d kk⟩
theorem sg_obj {i : Nat} (d : decode I.2.1 pc = .ok (.invokespecial i, 3)) (hw : Cond.methodLink I.1.cls i objectInit ∈ lwg) (hw2 : Cond.instanceMethod objectInit ∈ lwg) (hw3 : Cond.code objectInit ⟨#[0xb1]⟩ 1 none ∈ lwg) : SG E I pc (o_pop0 (pc + 3)) := by
  refine SG.mv fun p l e R s m args below meth c C L st h S hS => ?_
  obtain ⟨hx, hb, hml, hown, hnm, hr, hlk, hts, hK, hbs, hR1, hR2⟩ := C
  simp only [o_pop0] at hS; split at hS
  next a r =>
    cases hbe : Nat.ble (stw r) 8 with
    | false => rw [hbe] at hS; cases hS
    | true =>
      rw [hbe] at hS
      simp only [cond_true, Option.some.injEq] at hS; subst hS
      have h8 : stw r ≤ 8 := Nat.le_of_ble_eq_true hbe
      refine ⟨_, _, rfl, fun H ls locs cells slots Q hH hL hs kk => W.objInit hx hb hown (hts _ hw) (hts _ hw2) (hts _ hw3) (g := F0 m pc ls (.ref a :: r)) rfl (by rw [hml]; exact hL.1.1) rfl d hR1 ?_ kk⟩
      show 2 * 0 + stw r + 12 ≤ _
      omega
  all_goals cases hS
end SGH
end
section
/-! each step is sound: stores and makings -/
/-- a step that changes one old cell -/
theorem SG.st {E : XE} {I : MI} {pc : Nat} {o : XOp} (hh : ∀ (p : Program) (l : Launch) (e : Env) (R : Room) (s : State) (m : MethodId) (args : Array Value) (below : List Frame) (meth : Method) (c : Code), XC E I R p s m args meth c → ∀ (L : Ls) (st : List Value) (h : Hp) (S : XStp), o L st h = some S → ∃ (pc' : Nat) (st' : List Value) (a : Nat) (c0 c1 : Ce), S = .inl (pc', L, st', hset h a c1) ∧ h.2.2 a = some (true, c0) ∧ (∀ H : Heap, HR E h H → cok c1) ∧ ∀ (H : Heap) (ls : Array Slot) (locs : List Loc) (cells slots : Nat) (Q : State → Prop), HR E h H → LV ls I.2.2.1 L → va_S (XA E) s.heap H locs → (∀ (H' : Heap) (L' : List Loc), va_at E.2.2.2.1 classes (a, cvE E.2.2.2.2 c1) H' → H'.size = H.size → (∀ q : Nat, q ≠ a → H'[q]? = H[q]?) → (∀ x ∈ L', x.base = a) → W p l e R s m args below meth c H' (locs ++ L') cells slots Q (F0 m pc' ls st')) → W p l e R s m args below meth c H locs cells slots Q (F0 m pc ls st)) : SG E I pc o := by
  intro p l e R s m args below meth c C L st h S hS H ls locs cells slots hH hL hs
  obtain ⟨pc', st', a, c0, c1, rfl, hM, hk, k⟩ := hh p l e R s m args below meth c C L st h S hS
  refine ⟨Nat.le_refl _, Nat.le_refl _, fun Q _ _ kk => k H ls locs cells slots Q hH hL hs fun H' L' h1 h2 h3 h4 => ?_⟩
  have hba := (hH.2 a true c0 hM).2.1 rfl
  have := kk H' ls (locs ++ L') (hH.set hM h2 h3 h1 (hk H hH)) hL ⟨by rw [h2]; exact hs.1, fun q g1 g2 => by rw [h3 q (fun e => g2 (by rw [e]; exact hba))]; exact hs.2.1 q g1 g2, fun x hx => by
    rcases List.mem_append.mp hx with g | g
    · exact hs.2.2 x g
    · show E.1 ≤ x.base
      rw [h4 x g]; exact hba⟩
  simpa [hset] using this
section SGP
variable {E : XE} {I : MI} {pc : Nat}
theorem ok_int (v : Value) (h : o_ok 0 v = true) : narrow .int v = v ∧ fits .int v = true := by cases v <;> first | exact ⟨rfl, rfl⟩ | cases h
theorem ok_long (v : Value) (h : o_ok 1 v = true) : narrow .long v = v ∧ fits .long v = true := by cases v <;> first | exact ⟨rfl, rfl⟩ | cases h
theorem ok_obj (C : String) (v : Value) (h : o_ok 2 v = true) : narrow (.object C) v = v ∧ fits (.object C) v = true := by cases v <;> first | exact ⟨rfl, rfl⟩ | cases h
theorem ok_arr (t : FieldType) (v : Value) (h : o_ok 2 v = true) : narrow (.array t) v = v ∧ fits (.array t) v = true := by cases v <;> first | exact ⟨rfl, rfl⟩ | cases h
theorem putf_inv {ci k kd nx : Nat} {L : Ls} {st : List Value} {h : Hp} {S : XStp} (hS : o_putf ci k kd nx L st h = some S) : ∃ (v : Value) (a : Nat) (r : List Value) (fs : List Value), st = v :: .ref a :: r ∧ h.2.2 a = some (true, .inr (ci, fs)) ∧ o_ok kd v = true ∧ k < fs.length ∧ S = .inl (nx, L, r, hset h a (.inr (ci, fs.set k v))) := by
  simp only [o_putf] at hS; split at hS
  next v a r =>
    split at hS
    next c0 fs hM =>
      cases hbe : (Nat.beq c0 ci && o_ok kd v && Nat.blt k fs.length) with
      | false => rw [hbe] at hS; cases hS
      | true =>
        rw [hbe] at hS
        simp only [Bool.and_eq_true] at hbe
        have hce : c0 = ci := Nat.eq_of_beq_eq_true hbe.1.1
        subst hce
        simp only [cond_true, Option.some.injEq] at hS; subst hS
        exact ⟨v, a, r, fs, rfl, hM, hbe.1.2, blt_lt hbe.2, rfl⟩
    all_goals cases hS
  all_goals cases hS
theorem sg_putf {C : String} {T : u_T} {ty0 : Nat → FieldType} {N ci k kd i : Nat} {ty : FieldType} (d : decode I.2.1 pc = .ok (.putfield i, 3)) (hc : classes[ci]? = some (C, T, N)) (hin : ∀ w ∈ u_ws C T N, w ∈ lwg) (hty : ∀ k, k < N → parseFieldDescriptor (T k).2.2.1 = some (ty0 k)) (hnm : ∀ a, a < N → ∀ b, b < N → a ≠ b → (T a).2.1 ≠ (T b).2.1) (hk : k < N) (hw : Cond.fieldLink I.1.cls i (T k).1 (T k).2.1 (T k).2.2.1 ∈ lwg) (hfin : (T k).2.2.2 = false) (hd : parseFieldDescriptor (T k).2.2.1 = some ty) (hok : ∀ v, o_ok kd v = true → narrow ty v = v ∧ fits ty v = true) : SG E I pc (o_putf ci k kd (pc + 3)) := by
  refine SG.st fun p l e R s m args below meth c CC L st h S hS => ?_
  obtain ⟨hx, hb, hml, hown, hnm', hr, hlk, hts, hK, hbs⟩ := CC
  obtain ⟨v, a, r, fs, rfl, hM, hov, hl, rfl⟩ := putf_inv hS
  refine ⟨_, _, a, _, _, rfl, hM, fun _ _ => trivial, fun H ls locs cells slots Q hH hL hs kk => ?_⟩
  obtain ⟨hn, hfit⟩ := hok v hov
  have hap := va_apart (own := I.1.cls) hts hin ty0 hty hnm hK.1 hc
  obtain ⟨r', h1, cell, q1, q2, q3, q4⟩ := (hH.one hM) 0 _ rfl
  have hr' : r' = (C, T, N) := Option.some.inj (h1.symm.trans hc)
  subst hr'
  obtain ⟨hS, hfc, kC, hkC, hkind⟩ := hK.1.1 ci _ hc
  obtain ⟨cf, kf, fi, f, hi, hsl⟩ := hS k hk
  have hlay := hts _ (hin _ (u_in_lay hk))
  unfold u_lay at hlay
  rw [if_neg (by rw [hfin]; decide)] at hlay
  have hst := (u_facts hfc hkC (u_lays hts hin hk) hi).1
  have h6 := u_store hfc hkC hkind hlay hi hd hn hfit
  refine W.putK hx hb (f := f) ⟨hown, hts _ hw, ⟨_, _, _, hi⟩, hst⟩ (by rw [q2]; exact h6) q1 q3 (by rw [hsl]; exact k2_hasslot (q4 k hk)) rfl rfl d fun H' e1 e2 e3 => ?_
  rw [hsl] at e1 ⊢
  exact kk H' _ ⟨_, hc, t_OB.to (V := updV (vp_V fs) k v) ⟨_, e1, q2, q3, t_set q4 hap hk v⟩ (fun j _ => vp_updV_set hl v j)⟩ e2 e3 (fun x hx => by rw [List.mem_singleton.mp hx])
theorem sg_putF {C : String} {T : u_T} {ty0 : Nat → FieldType} {N ci k kd i : Nat} {ty : FieldType} (d : decode I.2.1 pc = .ok (.putfield i, 3)) (hc : classes[ci]? = some (C, T, N)) (hin : ∀ w ∈ u_ws C T N, w ∈ lwg) (hty : ∀ k, k < N → parseFieldDescriptor (T k).2.2.1 = some (ty0 k)) (hnm : ∀ a, a < N → ∀ b, b < N → a ≠ b → (T a).2.1 ≠ (T b).2.1) (hk : k < N) (hw : Cond.fieldLink I.1.cls i (T k).1 (T k).2.1 (T k).2.2.1 ∈ lwg) (hfin : (T k).2.2.2 = true) (hini : I.1.name = "<init>") (hdecl : (T k).1 = I.1.cls) (hd : parseFieldDescriptor (T k).2.2.1 = some ty) (hok : ∀ v, o_ok kd v = true → narrow ty v = v ∧ fits ty v = true) : SG E I pc (o_putf ci k kd (pc + 3)) := by
  refine SG.st fun p l e R s m args below meth c CC L st h S hS => ?_
  obtain ⟨hx, hb, hml, hown, hnm', hr, hlk, hts, hK, hbs⟩ := CC
  obtain ⟨v, a, r, fs, rfl, hM, hov, hl, rfl⟩ := putf_inv hS
  refine ⟨_, _, a, _, _, rfl, hM, fun _ _ => trivial, fun H ls locs cells slots Q hH hL hs kk => ?_⟩
  obtain ⟨hn, hfit⟩ := hok v hov
  have hap := va_apart (own := I.1.cls) hts hin ty0 hty hnm hK.1 hc
  obtain ⟨r', h1, cell, q1, q2, q3, q4⟩ := (hH.one hM) 0 _ rfl
  have hr' : r' = (C, T, N) := Option.some.inj (h1.symm.trans hc)
  subst hr'
  obtain ⟨hS, hfc, kC, hkC, hkind⟩ := hK.1.1 ci _ hc
  obtain ⟨cf, kf, fi, f, hi, hsl⟩ := hS k hk
  have hlay := hts _ (hin _ (u_in_lay hk))
  unfold u_lay at hlay
  rw [if_pos hfin] at hlay
  have hst := (u_facts hfc hkC (u_lays hts hin hk) hi).1
  have hcf : m.cls = cf := by
    obtain ⟨_, _, c', _, _, _, -, -, hf', -, -, -, hown2, -⟩ := Cond.laysFinal_spec hlay
    have e1 : c' = cf := by have := hi.symm.trans hf'; simp at this; exact this.1.symm
    rw [hdecl] at hown2
    rw [← e1]; exact Option.some.inj (hown.symm.trans hown2)
  have h6 := u_fits hfc hkC hkind (Or.inr hlay) hi hd hn hfit
  refine W.putFinK hx hb hown (hts _ hw) hi hst hcf (by rw [hnm']; exact hini) (by rw [q2]; exact h6) q1 q3 (by rw [hsl]; exact k2_hasslot (q4 k hk)) rfl rfl d fun H' e1 e2 e3 => ?_
  rw [hsl] at e1 ⊢
  exact kk H' _ ⟨_, hc, t_OB.to (V := updV (vp_V fs) k v) ⟨_, e1, q2, q3, t_set q4 hap hk v⟩ (fun j _ => vp_updV_set hl v j)⟩ e2 e3 (fun x hx => by rw [List.mem_singleton.mp hx])
theorem cell_upd {c : ClassId} {n k : Nat} {f : Nat → Int32} {x : Int32} : (vp_cell c (n, .inl f)).setSlot k (.int x) = vp_cell c (n, .inl (upd f k x)) := by
  rw [vp_cell_i, vp_cell_i, arrV_store]
  congr 1
  funext q
  by_cases hq : q = k
  · subst hq; simp [updV, upd]
  · simp [updV, upd, hq]
theorem sg_iast (d : decode I.2.1 pc = .ok (.iastore, 1)) : SG E I pc (o_iast (pc + 1)) := by
  refine SG.st fun p l e R s m args below meth c CC L st h S hS => ?_
  obtain ⟨hx, hb, hml, hown, hnm', hr, hlk, hts, hK, hbs⟩ := CC
  simp only [o_iast] at hS; split at hS
  next x i a r =>
    split at hS
    next k n f hM =>
      cases hbe : (Nat.beq k 1 && inb i n) with
      | false => rw [hbe] at hS; cases hS
      | true =>
        rw [hbe] at hS
        simp only [Bool.and_eq_true] at hbe
        have hk : k = 1 := Nat.eq_of_beq_eq_true hbe.1
        subst hk
        simp only [cond_true, Option.some.injEq] at hS; subst hS
        refine ⟨_, _, a, _, _, rfl, hM, (fun _ _ q => by simp at q), fun H ls locs cells slots Q hH hL hs kk => ?_⟩
        have hin := inb_in hbe.2
        refine W.iast hx hb ((hH.one hM) 0 _ rfl) ((hK.1.2 1 _ rfl).1 n (fun j => .int (f j))) (fun q => by cases q) (by show ¬ (i < 0 ∨ (arrV _ _ _).slots.size ≤ _); rw [arrV_size]; exact hin) rfl rfl d fun H1 e z oq => ?_
        exact kk H1 _ (by show H1[a]? = some (vp_cell _ _); rw [e, cell_upd]) z oq (fun x hx => by rw [List.mem_singleton.mp hx])
    all_goals cases hS
  all_goals cases hS
theorem fit_byte (x : Int32) : fits .byte (.int x.toInt8.toInt32) = true := pk_fb x
theorem sg_bast (d : decode I.2.1 pc = .ok (.bastore, 1)) : SG E I pc (o_bast (pc + 1)) := by
  refine SG.st fun p l e R s m args below meth c CC L st h S hS => ?_
  obtain ⟨hx, hb, hml, hown, hnm', hr, hlk, hts, hK, hbs⟩ := CC
  simp only [o_bast] at hS; split at hS
  next x i a r =>
    split at hS
    next k n f hM =>
      cases hbe : (Nat.beq k 0 && inb i n) with
      | false => rw [hbe] at hS; cases hS
      | true =>
        rw [hbe] at hS
        simp only [Bool.and_eq_true] at hbe
        have hk : k = 0 := Nat.eq_of_beq_eq_true hbe.1
        subst hk
        simp only [cond_true, Option.some.injEq] at hS; subst hS
        refine ⟨_, _, a, _, _, rfl, hM, fun H0 hH0 _ j => ?_, fun H ls locs cells slots Q hH hL hs kk => ?_⟩
        · simp only [upd]
          split
          · exact fit_byte x
          · exact (hH0.2 a true _ hM).2.2 rfl j
        have hin := inb_in hbe.2
        refine W.bast hx hb ((hH.one hM) 0 _ rfl) ((hK.1.2 0 _ rfl).1 n (fun j => .int (f j))) (fun q => by cases q) (by show ¬ (i < 0 ∨ (arrV _ _ _).slots.size ≤ _); rw [arrV_size]; exact hin) rfl rfl d fun H1 e z oq => ?_
        exact kk H1 _ (by show H1[a]? = some (vp_cell _ _); rw [e]; exact congrArg some cell_upd) z oq (fun x hx => by rw [List.mem_singleton.mp hx])
    all_goals cases hS
  all_goals cases hS
theorem cell_updL {c : ClassId} {n k : Nat} {f : Nat → Int64} {x : Int64} : (vp_cell c (n, .inr (.inl f))).setSlot k (.long x) = vp_cell c (n, .inr (.inl (vp_updL f k x))) := by
  rw [vp_cell_l, vp_cell_l, arrV_store]
  congr 1
  funext q
  by_cases hq : q = k
  · subst hq; simp [updV, vp_updL]
  · simp [updV, vp_updL, hq]
theorem sg_last (d : decode I.2.1 pc = .ok (.lastore, 1)) : SG E I pc (o_last (pc + 1)) := by
  refine SG.st fun p l e R s m args below meth c CC L st h S hS => ?_
  obtain ⟨hx, hb, hml, hown, hnm', hr, hlk, hts, hK, hbs⟩ := CC
  simp only [o_last] at hS; split at hS
  next x i a r =>
    split at hS
    next k n f hM =>
      cases hbe : (Nat.beq k 2 && inb i n) with
      | false => rw [hbe] at hS; cases hS
      | true =>
        rw [hbe] at hS
        simp only [Bool.and_eq_true] at hbe
        have hk : k = 2 := Nat.eq_of_beq_eq_true hbe.1
        subst hk
        simp only [cond_true, Option.some.injEq] at hS; subst hS
        refine ⟨_, _, a, _, _, rfl, hM, fun _ _ => trivial, fun H ls locs cells slots Q hH hL hs kk => ?_⟩
        have hin := inb_in hbe.2
        refine W.last hx hb ((hH.one hM) 0 _ rfl) ((hK.1.2 2 _ rfl).1 n (fun j => .long (f j))) (fun q => by cases q) (by show ¬ (i < 0 ∨ (arrV _ _ _).slots.size ≤ _); rw [arrV_size]; exact hin) rfl rfl d fun H1 e z oq => ?_
        exact kk H1 _ (by show H1[a]? = some (vp_cell _ _); rw [e]; exact congrArg some cell_updL) z oq (fun x hx => by rw [List.mem_singleton.mp hx])
    all_goals cases hS
  all_goals cases hS
end SGP
end
section
/-! each step is sound: references stored, things made -/
theorem cell_updQ {c : ClassId} {n k : Nat} {f : Nat → Option Nat} {x : Option Nat} : (vp_cell c (n, .inr (.inr (.inr (.inr f))))).setSlot k (va_rf x) = vp_cell c (n, .inr (.inr (.inr (.inr (va_up f k x))))) := by
  rw [vp_cell_q, vp_cell_q, arrV_store]
  congr 1
  funext q
  by_cases hq : q = k
  · subst hq; simp [updV, va_up]
  · simp [updV, va_up, hq]
section SGQ
variable {E : XE} {I : MI} {pc : Nat}
theorem aast_inv {kd ek nx : Nat} {L : Ls} {st : List Value} {h : Hp} {S : XStp} (hS : o_aast kd ek nx L st h = some S) : ∃ (i : Int32) (a n : Nat) (r : List Value) (f : Nat → Option Nat) (x : Option Nat), st = va_rf x :: .int i :: .ref a :: r ∧ h.2.2 a = some (true, .inl (kd, n, .inr (.inr (.inr (.inr f))))) ∧ inb i n = true ∧ (∀ v, x = some v → ∃ w c, h.2.2 v = some (w, c) ∧ kof c = ek) ∧ S = .inl (nx, L, r, hset h a (.inl (kd, n, .inr (.inr (.inr (.inr (va_up f i.toNatClampNeg x))))))) := by
  simp only [o_aast] at hS; split at hS
  next v i a r =>
    split at hS
    next k n f w c hM hv =>
      cases hbe : (Nat.beq k kd && inb i n && Nat.beq (kof c) ek) with
      | false => rw [hbe] at hS; cases hS
      | true =>
        rw [hbe] at hS
        simp only [Bool.and_eq_true] at hbe
        have hk : k = kd := Nat.eq_of_beq_eq_true hbe.1.1
        subst hk
        simp only [cond_true, Option.some.injEq] at hS; subst hS
        exact ⟨i, a, n, r, f, some v, rfl, hM, hbe.1.2, fun v' e => by cases e; exact ⟨w, c, hv, Nat.eq_of_beq_eq_true hbe.2⟩, rfl⟩
    all_goals cases hS
  next i a r =>
    split at hS
    next k n f hM =>
      cases hbe : (Nat.beq k kd && inb i n) with
      | false => rw [hbe] at hS; cases hS
      | true =>
        rw [hbe] at hS
        simp only [Bool.and_eq_true] at hbe
        have hk : k = kd := Nat.eq_of_beq_eq_true hbe.1
        subst hk
        simp only [cond_true, Option.some.injEq] at hS; subst hS
        exact ⟨i, a, n, r, f, none, rfl, hM, hbe.2, (fun v' e => by cases e), rfl⟩
    all_goals cases hS
  all_goals cases hS
theorem sg_aast {kd ci : Nat} {r : vw_C} (ht : ∀ dA, (tysOf dA)[kd]? = some (dA kd, .object r.1)) (hc : classes[ci]? = some r) (d : decode I.2.1 pc = .ok (.aastore, 1)) : SG E I pc (o_aast kd (2 * ci + 1) (pc + 1)) := by
  refine SG.st fun p l e R s m args below meth c CC L st h S hS => ?_
  obtain ⟨hx, hb, hml, hown, hnm', hr, hlk, hts, hK, hbs⟩ := CC
  obtain ⟨i, a, n, rr, f, x, rfl, hM, hbe, hv, rfl⟩ := aast_inv hS
  refine ⟨_, _, a, _, _, rfl, hM, fun _ _ => trivial, fun H ls locs cells slots Q hH hL hs kk => ?_⟩
  have hin := inb_in hbe
  cases x with
  | none =>
    refine va_WaastN (C := r.1) hx hb ((hH.one hM) 0 _ rfl) ((hK.1.2 kd _ (ht _)).1 n (fun j => va_rf (f j))) (fun h => by cases h) (by show ¬ (i < 0 ∨ (arrV _ _ _).slots.size ≤ _); rw [arrV_size]; exact hin) rfl rfl d fun H1 e z oq => ?_
    exact kk H1 _ (by show H1[a]? = some (vp_cell _ _); rw [e]; exact congrArg some (cell_updQ (x := none))) z oq (fun x hx => by rw [List.mem_singleton.mp hx])
  | some v =>
    obtain ⟨w, cv, hMv, hkv⟩ := hv v rfl
    have hcv : ∃ fs, cv = .inr (ci, fs) := by
      match cv, hkv with
      | .inl (k, y), hkv =>
        simp only [kof] at hkv
        omega
      | .inr (k, y), hkv =>
        simp only [kof] at hkv
        exact ⟨y, by rw [show k = ci by omega]⟩
    obtain ⟨fs, rfl⟩ := hcv
    have hlt : i.toNatClampNeg < n := Nat.not_le.mp fun q => hin (Or.inr q)
    have h0 : ¬ i < 0 := fun q => hin (Or.inl q)
    obtain ⟨r', hr', cellV, g1, g2, g3, -⟩ := (hH.one hMv) 0 _ rfl
    have hcls := (hK.1.1 ci r hc).2
    obtain ⟨kA, comp, k1, k2, k3, -⟩ := (hK.1.2 kd _ (ht _)).2
    have hcomp : comp = E.2.2.2.1.1 ci := Option.some.inj (k3.symm.trans hcls.1)
    subst hcomp
    obtain ⟨kC, hkC, -⟩ := hcls.2
    refine W.aast hx hb ((hH.one hM) 0 _ rfl) (fun q h => by cases h) (fun h => by cases h) k1 k2 rfl hkC ⟨h0, by show _ < (arrV _ _ _).slots.size; rw [arrV_size]; exact hlt⟩ g1 (fun q h => by rw [g3] at h; cases h) (by rw [g2]; exact hkC) (by rw [g2]; exact va_assign hcls) rfl rfl d fun H1 e z oq => ?_
    exact kk H1 _ (by show H1[a]? = some (vp_cell _ _); rw [e]; exact congrArg some (cell_updQ (x := some v))) z oq (fun x hx => by rw [List.mem_singleton.mp hx])
/-- arrays of arrays -/
theorem sg_aastA {kd k1 : Nat} {t : FieldType} (ht : ∀ dA, (tysOf dA)[kd]? = some (dA kd, .array t)) (ht1 : ∀ dA, (tysOf dA)[k1]? = some (dA k1, t)) (hn : ∀ (s : State) (c : ClassId), va_RA s c t → s.vm.findClass (FieldType.array t).toString = some c) (hw : t ∈ overA) (d : decode I.2.1 pc = .ok (.aastore, 1)) : SG E I pc (o_aast kd (2 * k1) (pc + 1)) := by
  refine SG.st fun p l e R s m args below meth c CC L st h S hS => ?_
  obtain ⟨hx, hb, hml, hown, hnm', hr, hlk, hts, hK, hbs⟩ := CC
  obtain ⟨i, a, n, rr, f, x, rfl, hM, hbe, hv, rfl⟩ := aast_inv hS
  refine ⟨_, _, a, _, _, rfl, hM, fun _ _ => trivial, fun H ls locs cells slots Q hH hL hs kk => ?_⟩
  have hin := inb_in hbe
  have hlt : i.toNatClampNeg < n := Nat.not_le.mp fun q => hin (Or.inr q)
  have h0 : ¬ i < 0 := fun q => hin (Or.inl q)
  obtain ⟨comp, cA, kA, hcomp, -, hkA, hkind, hnA⟩ := arrayOverA_spec (hK.2.2.2.2.2.2.2 t hw)
  have e1 : cA = E.2.2.2.2 kd := Option.some.inj (hnA.symm.trans (hK.1.2 kd _ (ht _)).2)
  subst e1
  have e2 : comp = E.2.2.2.2 k1 := Option.some.inj (hcomp.symm.trans (hn s _ (hK.1.2 k1 _ (ht1 _)).2))
  subst e2
  obtain ⟨-, kC, hkC, -⟩ := (hK.1.2 k1 _ (ht1 _)).1 0 (fun _ => .null)
  cases x with
  | none =>
    intro T hT X
    have hT' : T.heap[a]? = some (vp_cell (E.2.2.2.2 kd) (n, .inr (.inr (.inr (.inr f))))) := by rw [hT]; exact (hH.one hM) 0 _ rfl
    obtain ⟨X', st⟩ := X.aastoreNullIn hx hT' (fun q h => by cases h) (fun h => by cases h) hkA hkind rfl ⟨h0, by show _ < (arrV _ _ _).slots.size; rw [arrV_size]; exact hlt⟩ (g := F0 m pc ls (.null :: .int i :: .ref a :: rr)) rfl rfl (by rw [hb]; exact d)
    have hlt : a < T.heap.size := (Array.getElem?_eq_some_iff.mp hT').1
    obtain ⟨t', a1, b1⟩ := kk _ _ (by show _ = some (vp_cell _ _); rw [heapAt_setCell_self _ hlt]; exact congrArg some (cell_updQ (x := none))) (by rw [size_setCell, hT]) (fun q hq => by rw [heapAt_setCell_ne _ (Ne.symm hq), hT]) (fun x hx => by rw [List.mem_singleton.mp hx]) _ rfl X'
    exact ⟨t', st t' a1, b1⟩
  | some v =>
    obtain ⟨w, cv, hMv, hkv⟩ := hv v rfl
    have hcv : ∃ y, cv = .inl (k1, y) := by
      match cv, hkv with
      | .inr (k, y), hkv =>
        simp only [kof] at hkv
        omega
      | .inl (k, y), hkv =>
        simp only [kof] at hkv
        exact ⟨y, by rw [show k = k1 by omega]⟩
    obtain ⟨y, rfl⟩ := hcv
    have g1 : H[v]? = some (vp_cell (E.2.2.2.2 k1) y) := (hH.one hMv) 0 _ rfl
    have g2 : (vp_cell (E.2.2.2.2 k1) y).cls = E.2.2.2.2 k1 := by obtain ⟨n, f | f | f | f | f⟩ := y <;> rfl
    have g3 : (vp_cell (E.2.2.2.2 k1) y).vm = .none := by obtain ⟨n, f | f | f | f | f⟩ := y <;> rfl
    refine W.aast hx hb ((hH.one hM) 0 _ rfl) (fun q h => by cases h) (fun h => by cases h) hkA hkind rfl hkC ⟨h0, by show _ < (arrV _ _ _).slots.size; rw [arrV_size]; exact hlt⟩ g1 (fun q h => by rw [g3] at h; cases h) (by rw [g2]; exact hkC) (by rw [g2]; exact va_asg _ _) rfl rfl d fun H1 e z oq => ?_
    exact kk H1 _ (by show H1[a]? = some (vp_cell _ _); rw [e]; exact congrArg some (cell_updQ (x := some v))) z oq (fun x hx => by rw [List.mem_singleton.mp hx])
/-- a step that makes one cell -/
theorem SG.nw {o : XOp} (hh : ∀ (p : Program) (l : Launch) (e : Env) (R : Room) (s : State) (m : MethodId) (args : Array Value) (below : List Frame) (meth : Method) (c : Code), XC E I R p s m args meth c → ∀ (L : Ls) (st : List Value) (h : Hp) (S : XStp), o L st h = some S → ∃ (pc' : Nat) (r : List Value) (n : Nat) (c1 : Ce), S = .inl (pc', L, .ref h.1 :: r, hnew h n c1) ∧ cok c1 ∧ ∀ (H : Heap) (ls : Array Slot) (locs : List Loc) (cells slots : Nat) (Q : State → Prop), HR E h H → LV ls I.2.2.1 L → va_S (XA E) s.heap H locs → cells + 1 ≤ R.cells → slots + n ≤ R.slots → (∀ H' : Heap, va_at E.2.2.2.1 classes (H.size, cvE E.2.2.2.2 c1) H' → H'.size = H.size + 1 → (∀ q : Nat, q < H.size → H'[q]? = H[q]?) → W p l e R s m args below meth c H' locs (cells + 1) (slots + n) Q (F0 m pc' ls (.ref H.size :: r))) → W p l e R s m args below meth c H locs cells slots Q (F0 m pc ls st)) : SG E I pc o := by
  intro p l e R s m args below meth c C L st h S hS H ls locs cells slots hH hL hs
  obtain ⟨pc', r, n, c1, rfl, hk, k⟩ := hh p l e R s m args below meth c C L st h S hS
  obtain ⟨hx, hb, hml, hown, hnm', hr, hlk, hts, hK, hbs, hR⟩ := C
  refine ⟨Nat.le_succ _, Nat.le_add_right _ _, fun Q hc1 hc2 kk => k H ls locs cells slots Q hH hL hs ?_ ?_ fun H' h1 h2 h3 => ?_⟩
  · simp only [hnew] at hc1; omega
  · simp only [hnew] at hc2; omega
  have := kk H' ls locs (hH.new (Nat.le_trans hbs hs.1) h2 h3 (by rw [← hH.1]; exact h1) hk) hL (XA_S hs hbs h2 h3)
  simp only [hnew] at this
  rw [hH.1]
  rw [show h.1 + 1 - h.1 = 1 by omega, show h.2.1 + n - h.2.1 = n by omega] at this
  exact this
theorem sg_new {C : String} {T : u_T} {ty : Nat → FieldType} {N ci i : Nat} {fs : List Value} (d : decode I.2.1 pc = .ok (.new i, 3)) (hc : classes[ci]? = some (C, T, N)) (hin : ∀ w ∈ u_ws C T N, w ∈ lwg) (hty : ∀ k, k < N → parseFieldDescriptor (T k).2.2.1 = some (ty k)) (hfs : ∀ j, j < N → defaultValue (ty j) = vp_V fs j) (hw1 : Cond.classLink I.1.cls i C ∈ lwg) (hw2 : Cond.instantiable C N ∈ lwg) (hw3 : Cond.initialized C ∈ lwg) : SG E I pc (o_new ci N fs (pc + 3)) := by
  refine SG.nw fun p l e R s m args below meth c CC L st h S hS => ?_
  obtain ⟨hx, hb, hml, hown, hnm', hr, hlk, hts, hK, hbs⟩ := CC
  simp only [o_new, Option.some.injEq] at hS; subst hS
  refine ⟨_, _, _, _, rfl, trivial, fun H ls locs cells slots Q hH hL hs hc1 hc2 kk => ?_⟩
  have hKn := hK.1.1 ci _ hc
  refine W.newcK hx hb hown (hts _ hw1) (hts _ hw2) (hts _ hw3) (g := F0 m pc ls st) rfl d hc1 hc2 hKn.2.1 rfl fun H1 kC hkC e1 z1 o1 => ?_
  exact kk H1 ⟨_, hc, (u_born ty hts hin hKn hkC e1 hty).to hfs⟩ z1 o1
theorem newi_core {p : Program} {l : Launch} {e : Env} {R : Room} {s : State} {m : MethodId} {args : Array Value} {below : List Frame} {meth : Method} {c : Code} (C : XC E I R p s m args meth c) {kd : Nat} {atype : ArrayType} {z : vp_A} {n : Int32} (d : decode I.2.1 pc = .ok (.newarray atype, 2)) (hw : Cond.arrayClass (newarray.typeOf atype) ∈ lwg) (ht : ∀ dA, (tysOf dA)[kd]? = some (dA kd, newarray.typeOf atype)) (hz : ∀ cA : ClassId, vp_cell cA z = arrV cA n.toNatClampNeg (fun _ => defaultValue (newarray.typeOf atype))) (hbe : inb n 100000 = true) (hcb : componentBytes (newarray.typeOf atype) ≤ 8)
    (H : Heap) (ls : Array Slot) (locs : List Loc) (cells slots : Nat) (Q : State → Prop) (r : List Value) (hc1 : cells + 1 ≤ R.cells) (hc2 : slots + n.toNatClampNeg ≤ R.slots) (kk : ∀ H' : Heap, va_at E.2.2.2.1 classes (H.size, .inl (E.2.2.2.2 kd, z)) H' → H'.size = H.size + 1 → (∀ q : Nat, q < H.size → H'[q]? = H[q]?) → W p l e R s m args below meth c H' locs (cells + 1) (slots + n.toNatClampNeg) Q (F0 m (pc + 2) ls (.ref H.size :: r))) : W p l e R s m args below meth c H locs cells slots Q (F0 m pc ls (.int n :: r)) := by
  obtain ⟨hx, hb, hml, hown, hnm', hr, hlk, hts, hK, hbs⟩ := C
  have hin := inb_in hbe
  have hlt : n.toNatClampNeg < 100000 := Nat.not_le.mp fun q => hin (Or.inr q)
  refine va_newaK hx hb (hts _ hw) (g := F0 m pc ls (.int n :: r)) rfl d rfl (fun q => hin (Or.inl q)) rfl (by have := Nat.mul_le_mul (Nat.le_of_lt hlt) hcb; omega) hc1 hc2 rfl fun H1 cA e1 z1 o1 hAr hNm => ?_
  have hnm2 : s.vm.findClass ("[" ++ (newarray.typeOf atype).toString) = some (E.2.2.2.2 kd) := by
    have := (hK.1.2 kd _ (ht _)).2
    cases atype <;> exact this
  have e : cA = E.2.2.2.2 kd := Option.some.inj (hNm.symm.trans hnm2)
  subst e
  exact kk H1 (by show H1[H.size]? = some (vp_cell _ _); rw [hz]; exact e1) z1 o1
theorem newi_inv {kd nx : Nat} {L : Ls} {st : List Value} {h : Hp} {S : XStp} (hS : o_newi kd nx L st h = some S) : ∃ (n : Int32) (r : List Value), st = .int n :: r ∧ inb n 100000 = true ∧ S = .inl (nx, L, .ref h.1 :: r, hnew h n.toNatClampNeg (.inl (kd, n.toNatClampNeg, .inl (fun _ => 0)))) := by
  simp only [o_newi] at hS; split at hS
  next n r =>
    cases hbe : inb n 100000 with
    | false => rw [hbe] at hS; cases hS
    | true =>
      rw [hbe] at hS
      simp only [cond_true, Option.some.injEq] at hS; subst hS
      exact ⟨n, r, rfl, hbe, rfl⟩
  all_goals cases hS
theorem sg_newB (d : decode I.2.1 pc = .ok (.newarray .byte, 2)) (hw : Cond.arrayClass .byte ∈ lwg) : SG E I pc (o_newi 0 (pc + 2)) := by
  refine SG.nw fun p l e R s m args below meth c CC L st h S hS => ?_
  obtain ⟨n, r, rfl, hbe, rfl⟩ := newi_inv hS
  exact ⟨_, _, _, _, rfl, fun _ _ => rfl, fun H ls locs cells slots Q hH hL hs hc1 hc2 kk => newi_core CC d hw (fun _ => rfl) (fun _ => rfl) hbe (by decide) H ls locs cells slots Q r hc1 hc2 kk⟩
theorem sg_newI (d : decode I.2.1 pc = .ok (.newarray .int, 2)) (hw : Cond.arrayClass .int ∈ lwg) : SG E I pc (o_newi 1 (pc + 2)) := by
  refine SG.nw fun p l e R s m args below meth c CC L st h S hS => ?_
  obtain ⟨n, r, rfl, hbe, rfl⟩ := newi_inv hS
  exact ⟨_, _, _, _, rfl, (fun q => by cases q), fun H ls locs cells slots Q hH hL hs hc1 hc2 kk => newi_core CC d hw (fun _ => rfl) (fun _ => rfl) hbe (by decide) H ls locs cells slots Q r hc1 hc2 kk⟩
theorem sg_newL (d : decode I.2.1 pc = .ok (.newarray .long, 2)) (hw : Cond.arrayClass .long ∈ lwg) : SG E I pc (o_newl (pc + 2)) := by
  refine SG.nw fun p l e R s m args below meth c CC L st h S hS => ?_
  simp only [o_newl] at hS; split at hS
  next n r =>
    cases hbe : inb n 100000 with
    | false => rw [hbe] at hS; cases hS
    | true =>
      rw [hbe] at hS
      simp only [cond_true, Option.some.injEq] at hS; subst hS
      exact ⟨_, _, _, _, rfl, trivial, fun H ls locs cells slots Q hH hL hs hc1 hc2 kk => newi_core CC d hw (fun _ => rfl) (fun _ => rfl) hbe (by decide) H ls locs cells slots Q r hc1 hc2 kk⟩
  all_goals cases hS
theorem newq_inv {kd nx : Nat} {L : Ls} {st : List Value} {h : Hp} {S : XStp} (hS : o_newq kd nx L st h = some S) : ∃ (n : Int32) (r : List Value), st = .int n :: r ∧ inb n 100000 = true ∧ S = .inl (nx, L, .ref h.1 :: r, hnew h n.toNatClampNeg (.inl (kd, n.toNatClampNeg, .inr (.inr (.inr (.inr (fun _ => none))))))) := by
  simp only [o_newq] at hS; split at hS
  next n r =>
    cases hbe : inb n 100000 with
    | false => rw [hbe] at hS; cases hS
    | true =>
      rw [hbe] at hS
      simp only [cond_true, Option.some.injEq] at hS; subst hS
      exact ⟨n, r, rfl, hbe, rfl⟩
  all_goals cases hS
theorem push_new {H : Heap} {cA : ClassId} {N : Nat} : (H.push { cls := cA, slots := Array.replicate N .null, vm := .none })[H.size]? = some (vp_cell cA (N, .inr (.inr (.inr (.inr (fun _ => none)))))) := by
  rw [vp_cell_q]
  show _ = some (arrV cA N (fun _ => Value.null))
  rw [← arrV_new]
  simp
theorem sg_newQ {kd i : Nat} {C : String} (d : decode I.2.1 pc = .ok (.anewarray i, 3)) (ht : ∀ dA, (tysOf dA)[kd]? = some (dA kd, .object C)) (hw1 : Cond.classLink I.1.cls i C ∈ lwg) (hw2 : C ∈ overO) : SG E I pc (o_newq kd (pc + 3)) := by
  refine SG.nw fun p l e R s m args below meth c CC L st h S hS => ?_
  obtain ⟨n, r, rfl, hbe, rfl⟩ := newq_inv hS
  obtain ⟨hx, hb, hml, hown, hnm', hr, hlk, hts, hK, hbs⟩ := CC
  refine ⟨_, _, _, _, rfl, trivial, fun H ls locs cells slots Q hH hL hs hc1 hc2 kk => ?_⟩
  have hin := inb_in hbe
  have hlt : n.toNatClampNeg < 100000 := Nat.not_le.mp fun q => hin (Or.inr q)
  refine W.anew hx hb hown (hts _ hw1) (va_AO.use (hK.2.2.2.2.2.2.1 C hw2)) (g := F0 m pc ls (.int n :: r)) rfl d rfl (fun q => hin (Or.inl q)) (by omega) hc1 hc2 fun cA kA comp h1 h2 h3 h4 => ?_
  obtain ⟨_, _, -, -, -, h5⟩ := (hK.1.2 kd _ (ht _)).2
  have e : cA = E.2.2.2.2 kd := Option.some.inj (h1.symm.trans h5)
  subst e
  exact kk _ push_new (by simp) (fun q hq => by rw [Array.getElem?_push, if_neg (Nat.ne_of_lt hq)])
theorem sg_newA {kd i : Nat} {t : FieldType} (d : decode I.2.1 pc = .ok (.anewarray i, 3)) (ht : ∀ dA, (tysOf dA)[kd]? = some (dA kd, .array t)) (hw1 : Cond.classLink I.1.cls i (FieldType.array t).toString ∈ lwg) (hw2 : t ∈ overA) : SG E I pc (o_newq kd (pc + 3)) := by
  refine SG.nw fun p l e R s m args below meth c CC L st h S hS => ?_
  obtain ⟨n, r, rfl, hbe, rfl⟩ := newq_inv hS
  obtain ⟨hx, hb, hml, hown, hnm', hr, hlk, hts, hK, hbs⟩ := CC
  refine ⟨_, _, _, _, rfl, trivial, fun H ls locs cells slots Q hH hL hs hc1 hc2 kk => ?_⟩
  have hin := inb_in hbe
  have hlt : n.toNatClampNeg < 100000 := Nat.not_le.mp fun q => hin (Or.inr q)
  refine W.anewA hx hb hown (hts _ hw1) (over_moved (Vm.Alike.refl _) (hK.2.2.2.2.2.2.2 t hw2)) (g := F0 m pc ls (.int n :: r)) rfl d rfl (fun q => hin (Or.inl q)) (by omega) hc1 hc2 fun cA kA comp h1 h2 h3 h4 => ?_
  have h5 : s.vm.findClass ("[" ++ (FieldType.array t).toString) = some (E.2.2.2.2 kd) := (hK.1.2 kd _ (ht _)).2
  have e : cA = E.2.2.2.2 kd := Option.some.inj (h1.symm.trans h5)
  subst e
  exact kk _ push_new (by simp) (fun q hq => by rw [Array.getElem?_push, if_neg (Nat.ne_of_lt hq)])
end SGQ
end
section
/-! each step is sound: copies, calls, returns -/
section SGR
variable {E : XE} {I : MI} {pc : Nat}
theorem toI_of_nonneg (z : Int32) (hz : ¬ z < 0) : z.toInt = (z.toNatClampNeg : Int) := by
  have hz0 : (0 : Int) ≤ z.toInt := by
    have := Int32.not_lt.mp hz
    simpa using Int32.le_iff_toInt_le.mp this
  show z.toInt = ((z.toInt.toNat : Nat) : Int)
  omega
theorem acp_inv {nx : Nat} {L : Ls} {st : List Value} {h : Hp} {S : XStp} (hS : o_acp nx L st h = some S) : ∃ (n dp sp : Int32) (d a : Nat) (r : List Value) (w : Bool) (k na nd : Nat) (f g : Nat → Int32), st = .int n :: .int dp :: .ref d :: .int sp :: .ref a :: r ∧ h.2.2 a = some (w, .inl (k, na, .inl f)) ∧ h.2.2 d = some (true, .inl (k, nd, .inl g)) ∧ stw r ≤ 8 ∧ k < 2 ∧ ¬ n < 0 ∧ ¬ sp < 0 ∧ ¬ dp < 0 ∧ sp.toNatClampNeg + n.toNatClampNeg ≤ na ∧ dp.toNatClampNeg + n.toNatClampNeg ≤ nd ∧ S = .inl (nx, L, r, hset h d (.inl (k, nd, .inl (va_cpy f g sp.toNatClampNeg dp.toNatClampNeg n.toNatClampNeg)))) := by
  simp only [o_acp] at hS; split at hS
  next n dp d sp a r =>
    split at hS
    next w ka na f kd nd g hMa hMd =>
      cases hbe : (Nat.ble (stw r) 8 && Nat.beq ka kd && Nat.blt kd 2 && !(decide (n < 0)) && !(decide (sp < 0)) && !(decide (dp < 0)) && Nat.ble (sp.toNatClampNeg + n.toNatClampNeg) na && Nat.ble (dp.toNatClampNeg + n.toNatClampNeg) nd) with
      | false => rw [hbe] at hS; cases hS
      | true =>
        rw [hbe] at hS
        simp only [Bool.and_eq_true, Bool.not_eq_true', decide_eq_false_iff_not] at hbe
        obtain ⟨⟨⟨⟨⟨⟨⟨b1, b2⟩, b3⟩, b4⟩, b5⟩, b6⟩, b7⟩, b8⟩ := hbe
        have hk : ka = kd := Nat.eq_of_beq_eq_true b2
        subst hk
        simp only [cond_true, Option.some.injEq] at hS; subst hS
        exact ⟨n, dp, sp, d, a, r, w, ka, na, nd, f, g, rfl, hMa, hMd, Nat.le_of_ble_eq_true b1, blt_lt b3, b4, b5, b6, Nat.le_of_ble_eq_true b7, Nat.le_of_ble_eq_true b8, rfl⟩
    all_goals cases hS
  all_goals cases hS
theorem native_words : nativeFrameWords "java/lang/System" "arraycopy" 5 ≤ 40 := by decide +kernel
theorem sg_acp {i : Nat} (d : decode I.2.1 pc = .ok (.invokestatic i, 3)) (hw1 : Cond.methodLink I.1.cls i arraycopyName ∈ lwg) (hw2 : Cond.native arraycopyName ∈ lwg) (hw3 : Cond.static arraycopyName ∈ lwg) (hw4 : Cond.initialized "java/lang/System" ∈ lwg) : SG E I pc (o_acp (pc + 3)) := by
  refine SG.st fun p l e R s m args below meth c CC L st h S hS => ?_
  obtain ⟨hx, hb, hml, hown, hnm', hr, hlk, hts, hK, hbs, hR1, hR2⟩ := CC
  obtain ⟨n, dp, sp, a, a0, rest, w, k, n0, n1, f, g, rfl, hM0, hM1, h8, hk2, h3, h1, h2, h4, h5, rfl⟩ := acp_inv hS
  refine ⟨_, _, a, _, _, rfl, hM1, ?_, fun H ls locs cells slots Q hH hL hs kk => ?_⟩
  · intro H0 hH0 hk j
    simp only [va_cpy]
    split
    · exact (hH0.2 a0 w _ hM0).2.2 hk _
    · exact (hH0.2 a true _ hM1).2.2 hk j
  obtain ⟨ty, ht, hprim, hfit⟩ : ∃ ty : FieldType, (tysOf E.2.2.2.2)[k]? = some (E.2.2.2.2 k, ty) ∧ refKind ty = false ∧ ∀ j, fits ty (.int (f j)) = true := by
    have hck := (hH.2 a0 w _ hM0).2.2
    match k, hk2, hck with
    | 0, _, hck => exact ⟨.byte, rfl, rfl, hck rfl⟩
    | 1, _, _ => exact ⟨.int, rfl, rfl, fun _ => rfl⟩
  intro T hT X
  have hc0 : H[a0]? = some (vp_cell (E.2.2.2.2 k) (n0, .inl f)) := (hH.one hM0) 0 _ rfl
  have hc1 : H[a]? = some (vp_cell (E.2.2.2.2 k) (n1, .inl g)) := (hH.one hM1) 0 _ rfl
  obtain ⟨-, k0, hk0, cm0, hkk0⟩ := (hK.1.2 k _ ht).1 n0 (fun j => .int (f j))
  obtain ⟨-, k1, hk1, cm1, hkk1⟩ := (hK.1.2 k _ ht).1 n1 (fun j => .int (g j))
  obtain ⟨vm', X', step⟩ := X.arraycopy hx hown (hts _ hw1) (hts _ hw2) (hts _ hw3) (hts _ hw4) (src := a0) (dst := a) (cs := vp_cell (E.2.2.2.2 k) (n0, .inl f)) (cd := vp_cell (E.2.2.2.2 k) (n1, .inl g)) (srcPos := sp) (destPos := dp) (n := n) (by rw [hT]; exact hc0) (by rw [hT]; exact hc1)
    (fun _ h => by cases h) (fun _ h => by cases h) (fun h => by cases h) (fun h => by cases h) hk0 hk1 hkk0 hkk1 (by simp [hprim]) h1 h2 h3
    (by rw [toI_of_nonneg sp h1, toI_of_nonneg n h3]; show ¬ _ > ((arrV _ n0 (fun j => .int (f j))).slots.size : Int); rw [arrV_size]; omega)
    (by rw [toI_of_nonneg dp h2, toI_of_nonneg n h3]; show ¬ _ > ((arrV _ n1 (fun j => .int (g j))).slots.size : Int); rw [arrV_size]; omega)
    (fun vm₁ _ i hi => by
      have e : (vp_cell (E.2.2.2.2 k) (n0, .inl f)).slots.getD (sp.toNatClampNeg + i) .null = .int (f (sp.toNatClampNeg + i)) := by
        show (arrV _ n0 (fun j => .int (f j))).slots.getD _ _ = _
        rw [Array.getD_eq_getD_getElem?, arrV_read _ _ (by omega)]
        rfl
      refine ⟨?_, ?_⟩
      · rw [e]
        exact hfit _
      · rw [e]
        exact trivial)
    (g := F0 m pc ls (.int n :: .int dp :: .ref a :: .int sp :: .ref a0 :: rest)) rfl (by rw [hml]; exact hL.1.1) (rest := rest) rfl (by rw [hb]; exact d) hR1 (by have := native_words; show 2 * 0 + stw rest + _ ≤ _; omega)
  have e1 : copied (vp_cell (E.2.2.2.2 k) (n0, .inl f)) (vp_cell (E.2.2.2.2 k) (n1, .inl g)) sp dp n = vp_cell (E.2.2.2.2 k) (n1, .inl (va_cpy f g sp.toNatClampNeg dp.toNatClampNeg n.toNatClampNeg)) := va_copied (fun z => .int z) _ _ f g h4
  rw [e1] at X' step
  have hl : a < H.size := (Array.getElem?_eq_some_iff.mp hc1).1
  have hheap : ((T.setVm vm').setCell a (vp_cell (E.2.2.2.2 k) (n1, .inl (va_cpy f g sp.toNatClampNeg dp.toNatClampNeg n.toNatClampNeg)))).heap = H.setIfInBounds a (vp_cell (E.2.2.2.2 k) (n1, .inl (va_cpy f g sp.toNatClampNeg dp.toNatClampNeg n.toNatClampNeg))) := by rw [← hT]; rfl
  obtain ⟨t, a1, b1⟩ := kk _ _ (show (H.setIfInBounds a _)[a]? = some _ by simp [Array.getElem?_setIfInBounds, hl]) (by simp) (fun q hq => by simp [Array.getElem?_setIfInBounds, Ne.symm hq]) (fun x hx => by obtain ⟨z, -, hz⟩ := List.mem_map.mp hx; rw [← hz]) _ hheap X'
  exact ⟨t, step t a1, b1⟩
theorem sg_iret (d : decode I.2.1 pc = .ok (.ireturn, 1)) (hr : I.2.2.2 = some .int) : SG E I pc o_iret := by
  intro p l e R s m args below meth c C L st h S hS H ls locs cells slots hH hL hs
  obtain ⟨hx, hb, hml, hown, hnm', hrt, hlk, hts, hK, hbs, hR⟩ := C
  simp only [o_iret] at hS; split at hS
  next x => simp only [o_ret, Option.some.injEq] at hS; subst hS; exact ⟨rfl, fun Qc free hq hf => W.iret hx hb (by rw [hrt]; exact hr) hq hf d hlk⟩
  all_goals cases hS
theorem sg_zret {ty : FieldType} (d : decode I.2.1 pc = .ok (.ireturn, 1)) (hr : I.2.2.2 = some ty) (hn : narrow ty (.int 0) = .int 0 ∧ narrow ty (.int 1) = .int 1) : SG E I pc o_zret := by
  intro p l e R s m args below meth c C L st h S hS H ls locs cells slots hH hL hs
  obtain ⟨hx, hb, hml, hown, hnm', hrt, hlk, hts, hK, hbs, hR⟩ := C
  simp only [o_zret] at hS; split at hS
  next x =>
    cases hbe : (decide (x = 0) || decide (x = 1)) with
    | false => rw [hbe] at hS; cases hS
    | true =>
      rw [hbe] at hS
      simp only [Bool.or_eq_true, decide_eq_true_eq] at hbe
      simp only [cond_true, o_ret, Option.some.injEq] at hS; subst hS
      refine ⟨rfl, fun Qc free hq hf => W.zret hx hb (by rw [hrt]; exact hr) ?_ hq hf d hlk⟩
      rcases hbe with rfl | rfl
      · exact hn.1
      · exact hn.2
  all_goals cases hS
theorem sg_lret (d : decode I.2.1 pc = .ok (.lreturn, 1)) (hr : I.2.2.2 = some .long) : SG E I pc o_lret := by
  intro p l e R s m args below meth c C L st h S hS H ls locs cells slots hH hL hs
  obtain ⟨hx, hb, hml, hown, hnm', hrt, hlk, hts, hK, hbs, hR⟩ := C
  simp only [o_lret] at hS; split at hS
  next x => simp only [o_ret, Option.some.injEq] at hS; subst hS; exact ⟨rfl, fun Qc free hq hf => W.lret hx hb (by rw [hrt]; exact hr) hq hf d hlk⟩
  all_goals cases hS
theorem sg_aret {rt : FieldType} (d : decode I.2.1 pc = .ok (.areturn, 1)) (hr : I.2.2.2 = some rt) (ho : (∃ n, rt = .object n) ∨ ∃ t, rt = .array t) : SG E I pc o_aret := by
  intro p l e R s m args below meth c C L st h S hS H ls locs cells slots hH hL hs
  obtain ⟨hx, hb, hml, hown, hnm', hrt, hlk, hts, hK, hbs, hR⟩ := C
  simp only [o_aret] at hS; split at hS
  next x => simp only [o_ret, Option.some.injEq] at hS; subst hS; exact ⟨rfl, fun Qc free hq hf => W.aret hx hb (by rw [hrt]; exact hr) ho (Or.inr ⟨_, rfl⟩) hq hf d hlk⟩
  next => simp only [o_ret, Option.some.injEq] at hS; subst hS; exact ⟨rfl, fun Qc free hq hf => W.aret hx hb (by rw [hrt]; exact hr) ho (Or.inl rfl) hq hf d hlk⟩
  all_goals cases hS
theorem sg_vret (d : decode I.2.1 pc = .ok (.return_, 1)) (hr : I.2.2.2 = none) : SG E I pc o_vret := by
  intro p l e R s m args below meth c C L st h S hS H ls locs cells slots hH hL hs
  obtain ⟨hx, hb, hml, hown, hnm', hrt, hlk, hts, hK, hbs, hR⟩ := C
  simp only [o_vret] at hS; split at hS
  next => simp only [o_ret, Option.some.injEq] at hS; subst hS; exact ⟨rfl, fun Qc free hq hf => W.vret hx hb (by rw [hrt]; exact hr) hq hf d hlk⟩
  all_goals cases hS
/-! calls -/
theorem good_ws (mid : Nat) (hcode : Cond.code (mI mid).1 (mI mid).2.1 (mI mid).2.2.1 (mI mid).2.2.2 ∈ lwg) : GoodIn lwg (wsOf mid) := by
  intro w hw
  rcases List.mem_cons.mp hw with rfl | h
  · exact ⟨hcode, good_of_word (lwg_good hcode)⟩
  · exact ⟨h, good_of_word (lwg_good h)⟩
/-- what is asked of a method that is called: its words, its arguments -/
def cOK (mid n : Nat) : Prop := Cond.code (mI mid).1 (mI mid).2.1 (mI mid).2.2.1 (mI mid).2.2.2 ∈ lwg ∧ Cond.initialized (mI mid).1.cls ∈ lwg ∧ ((mI mid).1.cls ≠ "java/lang/invoke/MethodHandle" ∧ (mI mid).1.cls ≠ "java/lang/invoke/VarHandle" ∧ (parseMethodDescriptor (mI mid).1.desc).map (fun d => d.parameters.length) = some n)
theorem call_inv {mid : Nat} {As : List Value} {nx : Nat} {L : Ls} {r : List Value} {h : Hp} {S : XStp} (hS : o_call mid As nx L r h = some S) : stw r ≤ 8 ∧ S = .inr (.inr (mid, As, nx, L, r, h)) := by
  simp only [o_call] at hS
  cases hbe : Nat.ble (stw r) 8 with
  | false => rw [hbe] at hS; cases hS
  | true =>
    rw [hbe] at hS
    simp only [cond_true, Option.some.injEq] at hS; subst hS
    exact ⟨Nat.le_of_ble_eq_true hbe, rfl⟩
theorem inv_inv {mid n nx : Nat} {L : Ls} {st : List Value} {h : Hp} {S : XStp} (hS : o_inv mid n nx L st h = some S) : ∃ As r : List Value, st = As.reverse ++ r ∧ As.length = n ∧ stw r ≤ 8 ∧ S = .inr (.inr (mid, As, nx, L, r, h)) := by
  simp only [o_inv] at hS
  cases hbe : Nat.ble n st.length with
  | false => rw [hbe] at hS; cases hS
  | true =>
    rw [hbe] at hS
    simp only [cond_true] at hS
    obtain ⟨h1, h2⟩ := call_inv hS
    exact ⟨_, _, by simp, by simp; exact Nat.min_eq_left (Nat.le_of_ble_eq_true hbe), h1, h2⟩
theorem sg_inv {mid n i : Nat} (hlv : lvO (mI mid).1 < lvO I.1) (d : decode I.2.1 pc = .ok (.invokestatic i, 3)) (hc : cOK mid n) (hw1 : Cond.methodLink I.1.cls i (mI mid).1 ∈ lwg) (hw2 : Cond.static (mI mid).1 ∈ lwg) : SG E I pc (o_inv mid n (pc + 3)) := by
  intro p l e R s m args below meth c C L st h S hS H ls locs cells slots hH hL hs
  obtain ⟨hx, hb, hml, hown, hnm', hrt, hlk, hts, hK, hbs, hR⟩ := C
  obtain ⟨As, r, rfl, hn, h8, rfl⟩ := inv_inv hS
  refine ⟨rfl, rfl, rfl, hlv, fun rm Pc Qc mc ms free hM hrc hrs hf hlo hbl hP h1 h2 => ?_⟩
  exact va_runS (nL := I.2.2.1) (Ts := lwg) (own := I.1.cls) ⟨hx, hb, hml, hown, hts⟩ hM ⟨callB_of n hts (good_ws mid hc.1) rfl hrc hrs (hts _ hc.2.1) (hts _ hw1) hc.2.2 ⟨hf, hlo⟩, hts _ hw2⟩ ⟨hbl, hP⟩ rfl hn hL.1.1 rfl (lv_room h8) d ⟨h1, h2⟩
theorem sg_invN {mid n i : Nat} {host : String} (hlv : lvO (mI mid).1 < lvO I.1) (d : decode I.2.1 pc = .ok (.invokestatic i, 3)) (hc : cOK mid n) (hw1 : Cond.methodLinkNest I.1.cls i (mI mid).1 host ∈ nestW) (hw2 : Cond.static (mI mid).1 ∈ lwg) : SG E I pc (o_inv mid n (pc + 3)) := by
  intro p l e R s m args below meth c C L st h S hS H ls locs cells slots hH hL hs
  obtain ⟨hx, hb, hml, hown, hnm', hrt, hlk, hts, hK, hbs, hR⟩ := C
  obtain ⟨As, r, rfl, hn, h8, rfl⟩ := inv_inv hS
  refine ⟨rfl, rfl, rfl, hlv, fun rm Pc Qc mc ms free hM hrc hrs hf hlo hbl hP h1 h2 => ?_⟩
  exact va_runSN (nL := I.2.2.1) (Ts := lwg) (own := I.1.cls) ⟨hx, hb, hml, hown, hts⟩ hM ⟨va_cnB n hts (good_ws mid hc.1) rfl hrc hrs (hK.2.1 _ hw1) (hts _ hc.2.1) hc.2.2 ⟨hf, hlo⟩, hts _ hw2, trivial⟩ ⟨hbl, hP⟩ rfl hn hL.1.1 rfl (lv_room h8) d ⟨h1, h2⟩
theorem drop_take {n : Nat} {st r : List Value} {v : Value} (h : st.drop n = v :: r) (hn : n ≤ st.length) : st = (st.take n).reverse.reverse ++ v :: r ∧ (st.take n).reverse.length = n := by
  constructor
  · rw [List.reverse_reverse, ← h, List.take_append_drop]
  · simp; exact Nat.min_eq_left hn
theorem invV_inv {mid ci n nx : Nat} {L : Ls} {st : List Value} {h : Hp} {S : XStp} (hS : o_invV mid ci n nx L st h = some S) : ∃ (As r : List Value) (a : Nat) (w : Bool) (fs : List Value), st = As.reverse ++ .ref a :: r ∧ As.length = n ∧ h.2.2 a = some (w, .inr (ci, fs)) ∧ stw r ≤ 8 ∧ S = .inr (.inr (mid, .ref a :: As, nx, L, r, h)) := by
  simp only [o_invV] at hS; split at hS
  next a r hd =>
    split at hS
    next w c fs hM =>
      cases hbe : (Nat.beq c ci && Nat.ble n st.length) with
      | false => rw [hbe] at hS; cases hS
      | true =>
        rw [hbe] at hS
        simp only [Bool.and_eq_true] at hbe
        simp only [cond_true] at hS
        obtain ⟨h1, h2⟩ := call_inv hS
        have hce : c = ci := Nat.eq_of_beq_eq_true hbe.1
        subst hce
        obtain ⟨e1, e2⟩ := drop_take hd (Nat.le_of_ble_eq_true hbe.2)
        exact ⟨_, r, a, w, fs, e1, e2, hM, h1, h2⟩
    all_goals cases hS
  all_goals cases hS
theorem invI_inv {mid n nx : Nat} {L : Ls} {st : List Value} {h : Hp} {S : XStp} (hS : o_invI mid n nx L st h = some S) : ∃ (As r : List Value) (a : Nat), st = As.reverse ++ .ref a :: r ∧ As.length = n ∧ stw r ≤ 8 ∧ S = .inr (.inr (mid, .ref a :: As, nx, L, r, h)) := by
  simp only [o_invI] at hS; split at hS
  next a r hd =>
    cases hbe : Nat.ble n st.length with
    | false => rw [hbe] at hS; cases hS
    | true =>
      rw [hbe] at hS
      simp only [cond_true] at hS
      obtain ⟨h1, h2⟩ := call_inv hS
      obtain ⟨e1, e2⟩ := drop_take hd (Nat.le_of_ble_eq_true hbe)
      exact ⟨_, r, a, e1, e2, h1, h2⟩
  all_goals cases hS
theorem sg_invV {mid ci n i : Nat} {q : vw_C} (hlv : lvO (mI mid).1 < lvO I.1) (d : decode I.2.1 pc = .ok (.invokevirtual i, 3)) (hc : cOK mid n) (hci : classes[ci]? = some q) (hw1 : Cond.methodLink I.1.cls i (mI mid).1 ∈ lwg) (hw2 : Cond.instanceMethod (mI mid).1 ∈ lwg) (hw3 : Cond.selects q.1 (mI mid).1 (mI mid).1 ∈ lwg) : SG E I pc (o_invV mid ci n (pc + 3)) := by
  intro p l e R s m args below meth c C L st h S hS H ls locs cells slots hH hL hs
  obtain ⟨hx, hb, hml, hown, hnm', hrt, hlk, hts, hK, hbs, hR⟩ := C
  obtain ⟨As, r, a, w, fs, rfl, hn, hM, h8, rfl⟩ := invV_inv hS
  refine ⟨rfl, rfl, rfl, hlv, fun rm Pc Qc mc ms free hMt hrc hrs hf hlo hbl hP h1 h2 => ?_⟩
  exact va_runV (nL := I.2.2.1) (Ts := lwg) (own := I.1.cls) (C := q.1) ⟨hx, hb, hml, hown, hts⟩ hMt ⟨callB_of n hts (good_ws mid hc.1) rfl hrc hrs (hts _ hc.2.1) (hts _ hw1) hc.2.2 ⟨hf, hlo⟩, hts _ hw2, hts _ hw3⟩ ⟨hbl, va_recv hK.1 (hH.one hM) hci (q0 := 0) rfl, hP⟩ rfl hn hL.1.1 rfl (lv_room h8) d ⟨h1, h2⟩
theorem sg_invI {mid n i : Nat} (hlv : lvO (mI mid).1 < lvO I.1) (d : decode I.2.1 pc = .ok (.invokespecial i, 3)) (hc : cOK mid n) (hini : (mI mid).1.name = "<init>") (hrn : (mI mid).2.2.2 = none) (hw1 : Cond.methodLink I.1.cls i (mI mid).1 ∈ lwg) (hw2 : Cond.instanceMethod (mI mid).1 ∈ lwg) : SG E I pc (o_invI mid n (pc + 3)) := by
  intro p l e R s m args below meth c C L st h S hS H ls locs cells slots hH hL hs
  obtain ⟨hx, hb, hml, hown, hnm', hrt, hlk, hts, hK, hbs, hR⟩ := C
  obtain ⟨As, r, a, rfl, hn, h8, rfl⟩ := invI_inv hS
  refine ⟨rfl, rfl, rfl, hlv, fun rm Pc Qc mc ms free hMt hrc hrs hf hlo hbl hP h1 h2 => ?_⟩
  have hcb := callB_of (R := R) (s := s) (args := args) (own := I.1.cls) (index := i) (rm := rm) (mc := mc) (ms := ms) n hts (good_ws mid hc.1) (show wsOf mid = Cond.code (mI mid).1 (mI mid).2.1 (mI mid).2.2.1 (mI mid).2.2.2 :: lwg from rfl) hrc hrs (hts _ hc.2.1) (hts _ hw1) hc.2.2 ⟨hf, hlo⟩
  rw [hrn] at hcb
  exact va_runI (nL := I.2.2.1) (Ts := lwg) (own := I.1.cls) ⟨hx, hb, hml, hown, hts⟩ hMt ⟨hcb, hini, hts _ hw2⟩ ⟨hbl, hP⟩ rfl hn hL.1.1 rfl (lv_room h8) d ⟨h1, h2⟩
theorem sg_invIN {mid n i : Nat} {host : String} (hlv : lvO (mI mid).1 < lvO I.1) (d : decode I.2.1 pc = .ok (.invokespecial i, 3)) (hc : cOK mid n) (hini : (mI mid).1.name = "<init>") (hrn : (mI mid).2.2.2 = none) (hw1 : Cond.methodLinkNest I.1.cls i (mI mid).1 host ∈ nestW) (hw2 : Cond.instanceMethod (mI mid).1 ∈ lwg) : SG E I pc (o_invI mid n (pc + 3)) := by
  intro p l e R s m args below meth c C L st h S hS H ls locs cells slots hH hL hs
  obtain ⟨hx, hb, hml, hown, hnm', hrt, hlk, hts, hK, hbs, hR⟩ := C
  obtain ⟨As, r, a, rfl, hn, h8, rfl⟩ := invI_inv hS
  refine ⟨rfl, rfl, rfl, hlv, fun rm Pc Qc mc ms free hMt hrc hrs hf hlo hbl hP h1 h2 => ?_⟩
  have hcb := va_cnB (R := R) (s := s) (args := args) (own := I.1.cls) (index := i) (rm := rm) (mc := mc) (ms := ms) n hts (good_ws mid hc.1) (show wsOf mid = Cond.code (mI mid).1 (mI mid).2.1 (mI mid).2.2.1 (mI mid).2.2.2 :: lwg from rfl) hrc hrs (hK.2.1 _ hw1) (hts _ hc.2.1) hc.2.2 ⟨hf, hlo⟩
  rw [hrn] at hcb
  exact va_runIN (nL := I.2.2.1) (Ts := lwg) (own := I.1.cls) ⟨hx, hb, hml, hown, hts⟩ hMt ⟨hcb, hini, hts _ hw2⟩ ⟨hbl, hP⟩ rfl hn hL.1.1 rfl (lv_room h8) d ⟨h1, h2⟩
end SGR
end
section
/-! a run of the abstract machine is a run of the machine -/
def Cs (E : XE) (I : MI) (cd : Cd) : Prop := ∀ (pc : Nat) (o : XOp), cd pc = some o → SG E I pc o
theorem Cs_nd {E : XE} {I : MI} {k : Nat} {f g : Cd} (hf : Cs E I f) (hg : Cs E I g) : Cs E I (nd k f g) := by
  intro pc o h
  simp only [nd] at h
  cases hb : Nat.blt pc k with
  | true => rw [hb] at h; exact hf pc o h
  | false => rw [hb] at h; exact hg pc o h
theorem Cs_lf {E : XE} {I : MI} {k : Nat} {o : XOp} (h : SG E I k o) : Cs E I (lf k o) := by
  intro pc o' h'
  simp only [lf] at h'
  cases hb : Nat.beq pc k with
  | false => rw [hb] at h'; cases h'
  | true =>
    rw [hb] at h'
    have e : pc = k := Nat.eq_of_beq_eq_true hb
    subst e
    simp only [cond_true, Option.some.injEq] at h'
    subst h'
    exact h
theorem hle_le {h h' : Hp} (e : hle h h' = true) : h.1 ≤ h'.1 ∧ h.2.1 ≤ h'.2.1 := by
  simp only [hle, Bool.and_eq_true] at e
  exact ⟨Nat.le_of_ble_eq_true e.1, Nat.le_of_ble_eq_true e.2⟩
/-- nothing shrinks -/
theorem xexec_mono (P : Pg) : ∀ (f : Nat) (cd : Cd) (pc : Nat) (ls : Ls) (st : List Value) (h : Hp) (v : Option Value) (h' : Hp), xexec P f cd pc ls st h = some (v, h') → h.1 ≤ h'.1 ∧ h.2.1 ≤ h'.2.1
  | 0, _, _, _, _, _, _, _, e => by simp [xexec] at e
  | f + 1, cd, pc, ls, st, h, v, h', e => by
    simp only [xexec] at e
    split at e
    next => cases e
    next o ho =>
      split at e
      next => cases e
      next pc1 ls1 st1 h1 hS =>
        cases hb : hle h h1 with
        | false => rw [hb] at e; cases e
        | true =>
          rw [hb] at e
          have a := hle_le hb
          have b := xexec_mono P f cd pc1 ls1 st1 h1 v h' e
          exact ⟨Nat.le_trans a.1 b.1, Nat.le_trans a.2 b.2⟩
      next v1 h1 hS =>
        cases hb : hle h h1 with
        | false => rw [hb] at e; cases e
        | true =>
          rw [hb] at e
          simp only [cond_true, Option.some.injEq, Prod.mk.injEq] at e
          obtain ⟨-, rfl⟩ := e
          exact hle_le hb
      next mid As pc1 ls1 st1 h1 hS =>
        cases hb : (hle h h1 && Nat.ble (lent As).length (P mid).2) with
        | false => rw [hb] at e; cases e
        | true =>
          rw [hb] at e
          simp only [Bool.and_eq_true] at hb
          simp only [cond_true] at e
          split at e
          next v2 h2 hc =>
            have a := hle_le hb.1
            have b := xexec_mono P f _ _ _ _ _ v2 h2 hc
            have d := xexec_mono P f cd pc1 ls1 _ h2 v h' e
            exact ⟨Nat.le_trans a.1 (Nat.le_trans b.1 d.1), Nat.le_trans a.2 (Nat.le_trans b.2 d.2)⟩
          next => cases e
def rmO (lv mc ms : Nat) : Room := { frames := lv, cells := mc, slots := ms, locals := 64 * lv }
def PcX (E : XE) (As : List Value) (h : Hp) : Array Value → State → Prop := fun a U => a = As.toArray ∧ HR E h U.heap ∧ KX E U U.heap ∧ E.1 ≤ U.heap.size
def QcX (E : XE) (v : Option Value) (h' : Hp) : Array Value → State → Outcome → State → Prop := fun _ st o t => o = .returned v ∧ HR E h' t.heap ∧ va_F (XA E) st t
theorem PcX_blind (E : XE) (As : List Value) (h : Hp) : FrameBlind (PcX E As h) := by
  rintro a U g mk ⟨h1, h2, h3, h4⟩
  exact ⟨h1, h2, KX.same (u := U) (U := U.calling g mk a) rfl h3, h4⟩
/-- the contract of a run -/
def CT (E : XE) (l : Launch) (mid : Nat) (As : List Value) (h : Hp) (v : Option Value) (h' : Hp) : Prop := Met l (mI mid).1 (wsOf mid) (rmO (lvO (mI mid).1) (h'.1 - h.1) (h'.2.1 - h.2.1)) (PcX E As h) (QcX E v h') (h'.1 - h.1) (h'.2.1 - h.2.1) (XA E)
/-- a method of the program whose code is sound -/
def GM (E : XE) (P : Pg) (mid : Nat) : Prop := Cs E (mI mid) (P mid).1 ∧ (P mid).2 = (mI mid).2.2.1 ∧ plainName (mI mid).1.cls = true ∧ 1 ≤ lvO (mI mid).1 ∧ (mI mid).2.2.1 ≤ 40
theorem xbody {E : XE} {P : Pg} {l : Launch} {f0 : Nat} (IH : ∀ f, f < f0 → ∀ (mid : Nat) (As : List Value) (h : Hp) (v : Option Value) (h' : Hp), xexec P f (P mid).1 0 (lpad (P mid).2 (lent As)) [] h = some (v, h') → (lent As).length ≤ (P mid).2 → CT E l mid As h v h' ∧ (P mid).2 ≤ 40) {I : MI} {cd : Cd} (hcd : Cs E I cd) {mc ms : Nat} {p : Program} {e : Env} {s : State} {m : MethodId} {args : Array Value} {below : List Frame} {meth : Method} {c : Code} (C : XC E I (rmO (lvO I.1) mc ms) p s m args meth c) (hP2 : ∀ mid, (P mid).2 = (mI mid).2.2.1) :
    ∀ (f : Nat), f ≤ f0 → ∀ (pc : Nat) (L : Ls) (st : List Value) (h : Hp) (v : Option Value) (h' : Hp), xexec P f cd pc L st h = some (v, h') → ∀ (H : Heap) (ls : Array Slot) (locs : List Loc) (cells slots : Nat), HR E h H → LV ls I.2.2.1 L → va_S (XA E) s.heap H locs → cells + (h'.1 - h.1) = mc → slots + (h'.2.1 - h.2.1) = ms → W p l e (rmO (lvO I.1) mc ms) s m args below meth c H locs cells slots (MQ below (QcX E v h') args s mc ms (XA E)) (F0 m pc ls st) := by
  intro f
  induction f with
  | zero => intro _ pc L st h v h' hx; simp [xexec] at hx
  | succ f ih =>
    intro hf pc L st h v h' hx H ls locs cells slots hH hL hs hc hsl
    have hx0 := hx
    simp only [xexec] at hx
    split at hx
    next => cases hx
    next o ho =>
      have hsg := hcd pc o ho
      split at hx
      next => cases hx
      next pc1 ls1 st1 h1 hS =>
        cases hb : hle h h1 with
        | false => rw [hb] at hx; cases hx
        | true =>
          rw [hb] at hx
          simp only [cond_true] at hx
          have a := hle_le hb
          have b := xexec_mono P f cd pc1 ls1 st1 h1 v h' hx
          obtain ⟨-, -, k⟩ := hsg p l e (rmO (lvO I.1) mc ms) s m args below meth c C L st h _ hS H ls locs cells slots hH hL hs
          refine k _ (by show _ ≤ mc; omega) (by show _ ≤ ms; omega) fun H' ls' locs' q1 q2 q3 => ?_
          exact ih (by omega) pc1 ls1 st1 h1 v h' hx H' ls' locs' _ _ q1 q2 q3 (by omega) (by omega)
      next v1 h1 hS =>
        cases hb : hle h h1 with
        | false => rw [hb] at hx; cases hx
        | true =>
          rw [hb] at hx
          simp only [cond_true, Option.some.injEq, Prod.mk.injEq] at hx
          obtain ⟨rfl, rfl⟩ := hx
          obtain ⟨rfl, k⟩ := hsg p l e (rmO (lvO I.1) mc ms) s m args below meth c C L st h _ hS H ls locs cells slots hH hL hs
          have e1 : cells = mc := by omega
          have e2 : slots = ms := by omega
          subst e1; subst e2
          exact k (QcX E v1 h1) (XA E) (fun t ht hW => ⟨rfl, by rw [ht]; exact hH, hs.F ht⟩) hs.2.2
      next mid As pc1 ls1 st1 h1 hS =>
        cases hb : (hle h h1 && Nat.ble (lent As).length (P mid).2) with
        | false => rw [hb] at hx; cases hx
        | true =>
          rw [hb] at hx
          simp only [Bool.and_eq_true] at hb
          simp only [cond_true] at hx
          split at hx
          next v2 h2 hcall =>
            obtain ⟨rfl, rfl, rfl, hlv, k⟩ := hsg p l e (rmO (lvO I.1) mc ms) s m args below meth c C L st h _ hS H ls locs cells slots hH hL hs
            have mA := xexec_mono P f _ _ _ _ _ v2 h2 hcall
            have mB := xexec_mono P f cd _ _ _ h2 v h' hx
            obtain ⟨hct, h40⟩ := IH f (by omega) mid As h1 v2 h2 hcall (Nat.le_of_ble_eq_true hb.2)
            rw [hP2] at h40
            obtain ⟨hx', hb', hml, hown, hnm', hrt, hlk, hts, hK, hbs, hR⟩ := C
            have hrun := k (rmO (lvO (mI mid).1) (h2.1 - h1.1) (h2.2.1 - h1.2.1)) (PcX E As h1) (QcX E v2 h2) (h2.1 - h1.1) (h2.2.1 - h1.2.1) (XA E) hct rfl rfl (by show lvO (mI mid).1 + 1 ≤ lvO I.1; omega) (by show _ + 64 * lvO (mI mid).1 ≤ 64 * lvO I.1; omega) (PcX_blind E As h1)
              (fun U hU hW => ⟨rfl, by rw [hU]; exact hH, by rw [hU]; exact hK.warm hW hs.2.1, by rw [hU]; exact Nat.le_trans hbs hs.1⟩) (by show _ ≤ mc; omega) (by show _ ≤ ms; omega)
            intro T hT X
            obtain ⟨w, st₀, t, T', LL, g0, X', hLL, e1, e2, ⟨hv, hH2, hF⟩, stp⟩ := hrun T hT X
            have hvw : w = v2 := by injection hv
            subst hvw
            rw [← e1] at hH2
            have hs' : va_S (XA E) s.heap T'.heap (locs ++ LL) := by
              refine ⟨?_, fun q g1 g2 => ?_, fun x hx => ?_⟩
              · have := hF.1; rw [g0, ← e1] at this; exact Nat.le_trans hs.1 this
              · have := hF.2 q (by rw [g0]; exact Nat.lt_of_lt_of_le g1 hs.1) g2
                rw [g0, ← e1] at this
                rw [this]; exact hs.2.1 q g1 g2
              · rcases List.mem_append.mp hx with g | g
                · exact hs.2.2 x g
                · exact hLL x g
            obtain ⟨t2, a1, b1⟩ := ih (by omega) (pc + 3) ls1 (w.toList ++ st1) h2 v h' hx T'.heap ls (locs ++ LL) _ _ hH2 hL hs' (by omega) (by omega) T' rfl X'
            exact ⟨t2, stp t2 a1, b1⟩
          next => cases hx
/-- the contracts of all methods whose code is sound; what the others do is taken from elsewhere -/
theorem xsound {E : XE} {P : Pg} {l : Launch} (sp : Nat → Prop) (hG : ∀ mid, ¬ sp mid → GM E P mid) (hP2 : ∀ mid, (P mid).2 = (mI mid).2.2.1) (hsp : ∀ f0, (∀ f, f < f0 → ∀ (mid : Nat) (As : List Value) (h : Hp) (v : Option Value) (h' : Hp), xexec P f (P mid).1 0 (lpad (P mid).2 (lent As)) [] h = some (v, h') → (lent As).length ≤ (P mid).2 → CT E l mid As h v h' ∧ (P mid).2 ≤ 40) → ∀ mid, sp mid → ∀ (As : List Value) (h : Hp) (v : Option Value) (h' : Hp), xexec P f0 (P mid).1 0 (lpad (P mid).2 (lent As)) [] h = some (v, h') → (lent As).length ≤ (P mid).2 → CT E l mid As h v h' ∧ (P mid).2 ≤ 40) :
    ∀ (f : Nat) (mid : Nat) (As : List Value) (h : Hp) (v : Option Value) (h' : Hp), xexec P f (P mid).1 0 (lpad (P mid).2 (lent As)) [] h = some (v, h') → (lent As).length ≤ (P mid).2 → CT E l mid As h v h' ∧ (P mid).2 ≤ 40 := by
  intro f
  induction f using Nat.strongRecOn with
  | ind f0 IH =>
    intro mid As h v h' hx hlen
    by_cases hm : sp mid
    · exact hsp f0 IH mid hm As h v h' hx hlen
    obtain ⟨hcd, h2, hpl, hlv, h40⟩ := hG mid hm
    refine ⟨?_, by rw [h2]; exact h40⟩
    unfold CT
    refine Met.ofW (cc := (mI mid).2.1) (maxL := (mI mid).2.2.1) (ret := (mI mid).2.2.2) hpl rfl ?_
    intro p e s m args below meth c s₁ B hml hv
    obtain ⟨rfl, hH, hK, hbs⟩ := hv
    have hts := atoms_spec (ws := wsOf mid) B.pre
    have hown : s.vm.findClass (mI mid).1.cls = some m.cls := findClass_of_methodNamed B.named
    have hin : meth.name = (mI mid).1.name := (name_of_methodNamed B.named B.method).1
    rw [lg_entry_eq]
    rw [h2] at hx hlen
    exact xbody IH hcd (I := mI mid) ⟨B.exec, B.bytes, hml, hown, hin, B.returns, B.notSynchronized, fun w hw => hts w (List.mem_cons_of_mem _ hw), hK, hbs, hlv, by show 64 ≤ 64 * lvO (mI mid).1; omega⟩ hP2 f0 (Nat.le_refl _) 0 _ [] h v h' hx s.heap _ [] 0 0 hH (LV.entry As hlen) va_S.rf (Nat.zero_add _) (Nat.zero_add _)
end
section
/-! the code of each method, step by step -/
def k_CF_init : Cd := (nd 37 (nd 17 (nd 8 (nd 4 (nd 1 (lf 0 (o_al 0 1)) (lf 1 (o_pop0 4))) (nd 5 (lf 4 (o_al 0 5)) (lf 5 (o_new 1 3 [.null, .null, .int 0] 8)))) (nd 12 (nd 9 (lf 8 (o_dup 9)) (lf 9 (o_invI 15 0 12))) (nd 15 (lf 12 (o_putf 0 0 2 15)) (nd 16 (lf 15 (o_al 0 16)) (lf 16 (o_al 0 17)))))) (nd 28 (nd 23 (nd 20 (lf 17 (o_getf 0 0 20)) (lf 20 (o_getf 1 0 23))) (nd 26 (lf 23 (o_putf 0 1 2 26)) (nd 27 (lf 26 (o_al 0 27)) (lf 27 (o_ic (nI 0) 28))))) (nd 32 (nd 31 (lf 28 (o_putf 0 2 0 31)) (lf 31 (o_al 0 32))) (nd 33 (lf 32 (o_ic (nI 0) 33)) (nd 36 (lf 33 (o_putf 0 3 0 36)) (lf 36 (o_al 0 37))))))) (nd 58 (nd 48 (nd 40 (nd 38 (lf 37 (o_ic (nI 2) 38)) (lf 38 (o_ic (nI 12) 40))) (nd 44 (lf 40 (o_mna 44)) (nd 47 (lf 44 (o_putf 0 4 2 47)) (lf 47 (o_al 0 48))))) (nd 51 (nd 49 (lf 48 (o_ic (nI 2) 49)) (lf 49 (o_newi 1 51))) (nd 54 (lf 51 (o_putf 0 5 2 54)) (nd 55 (lf 54 (o_al 0 55)) (lf 55 (o_ic (nI 200) 58)))))) (nd 69 (nd 63 (nd 60 (lf 58 (o_newi 1 60)) (lf 60 (o_putf 0 6 2 63))) (nd 64 (lf 63 (o_al 0 64)) (nd 67 (lf 64 (o_ic (nI 200) 67)) (lf 67 (o_newi 1 69))))) (nd 73 (nd 72 (lf 69 (o_putf 0 7 2 72)) (lf 72 (o_al 0 73))) (nd 74 (lf 73 (o_ic (nI 0) 74)) (nd 77 (lf 74 (o_putf 0 8 0 77)) (lf 77 (o_vret))))))))
def k_CF_begin : Cd := (nd 23 (nd 10 (nd 5 (nd 1 (lf 0 (o_al 0 1)) (nd 4 (lf 1 (o_getf 0 1 4)) (lf 4 (o_al 1 5)))) (nd 6 (lf 5 (o_ic (nI 0) 6)) (nd 7 (lf 6 (o_al 1 7)) (lf 7 (o_invV 61 4 0 10))))) (nd 15 (nd 13 (lf 10 (o_invV 71 4 3 13)) (nd 14 (lf 13 (o_pop 14)) (lf 14 (o_al 0 15)))) (nd 19 (nd 18 (lf 15 (o_getf 0 0 18)) (lf 18 (o_ic (nI 0) 19))) (nd 22 (lf 19 (o_invV 18 1 1 22)) (lf 22 (o_al 0 23)))))) (nd 33 (nd 28 (nd 24 (lf 23 (o_ic (nI 0) 24)) (nd 27 (lf 24 (o_putf 0 2 0 27)) (lf 27 (o_al 0 28)))) (nd 29 (lf 28 (o_ic (nI 0) 29)) (nd 32 (lf 29 (o_putf 0 3 0 32)) (lf 32 (o_al 0 33))))) (nd 38 (nd 34 (lf 33 (o_ic (nI 0) 34)) (nd 37 (lf 34 (o_putf 0 8 0 37)) (lf 37 (o_al 0 38)))) (nd 42 (nd 41 (lf 38 (o_getf 0 5 41)) (lf 41 (o_ic (nI 0) 42))) (nd 45 (lf 42 (o_inv 191 2 45)) (lf 45 (o_vret)))))))
def k_CF_addTell : Cd := (nd 27 (nd 14 (nd 7 (nd 1 (lf 0 (o_al 0 1)) (nd 4 (lf 1 (o_getf 0 8 4)) (lf 4 (o_iflt 47 7)))) (nd 8 (lf 7 (o_al 0 8)) (nd 11 (lf 8 (o_getf 0 8 11)) (lf 11 (o_ic (nI 200) 14))))) (nd 21 (nd 17 (lf 14 (o_cge 47 17)) (nd 18 (lf 17 (o_al 0 18)) (lf 18 (o_getf 0 6 21)))) (nd 25 (nd 22 (lf 21 (o_al 0 22)) (lf 22 (o_getf 0 8 25))) (nd 26 (lf 25 (o_il 1 26)) (lf 26 (o_iast 27)))))) (nd 37 (nd 32 (nd 28 (lf 27 (o_al 0 28)) (nd 31 (lf 28 (o_getf 0 7 31)) (lf 31 (o_al 0 32)))) (nd 35 (lf 32 (o_getf 0 8 35)) (nd 36 (lf 35 (o_il 2 36)) (lf 36 (o_iast 37))))) (nd 42 (nd 38 (lf 37 (o_al 0 38)) (nd 39 (lf 38 (o_dup 39)) (lf 39 (o_getf 0 8 42)))) (nd 44 (nd 43 (lf 42 (o_ic (nI 1) 43)) (lf 43 (o_iadd 44))) (nd 47 (lf 44 (o_putf 0 8 0 47)) (lf 47 (o_vret)))))))
def k_CF_tellCount : Cd := (nd 1 (lf 0 (o_al 0 1)) (nd 4 (lf 1 (o_getf 0 8 4)) (lf 4 (o_iret))))
def k_CF_tellAt : Cd := (nd 16 (nd 6 (nd 4 (nd 1 (lf 0 (o_il 1 1)) (lf 1 (o_iflt 28 4))) (nd 5 (lf 4 (o_il 1 5)) (lf 5 (o_al 0 6)))) (nd 12 (nd 9 (lf 6 (o_getf 0 8 9)) (lf 9 (o_cge 28 12))) (nd 13 (lf 12 (o_il 1 13)) (lf 13 (o_ic (nI 200) 16))))) (nd 24 (nd 20 (nd 19 (lf 16 (o_cge 28 19)) (lf 19 (o_al 0 20))) (nd 23 (lf 20 (o_getf 0 6 23)) (lf 23 (o_il 1 24)))) (nd 28 (nd 25 (lf 24 (o_iald 1 25)) (lf 25 (o_goto 29))) (nd 29 (lf 28 (o_ic (nI 0) 29)) (lf 29 (o_iret))))))
def k_CF_wanted : Cd := (nd 16 (nd 6 (nd 4 (nd 1 (lf 0 (o_il 1 1)) (lf 1 (o_iflt 28 4))) (nd 5 (lf 4 (o_il 1 5)) (lf 5 (o_al 0 6)))) (nd 12 (nd 9 (lf 6 (o_getf 0 8 9)) (lf 9 (o_cge 28 12))) (nd 13 (lf 12 (o_il 1 13)) (lf 13 (o_ic (nI 200) 16))))) (nd 24 (nd 20 (nd 19 (lf 16 (o_cge 28 19)) (lf 19 (o_al 0 20))) (nd 23 (lf 20 (o_getf 0 7 23)) (lf 23 (o_il 1 24)))) (nd 28 (nd 25 (lf 24 (o_iald 1 25)) (lf 25 (o_goto 29))) (nd 29 (lf 28 (o_ic (nI 0) 29)) (lf 29 (o_iret))))))
def k_CF_firstBehind : Cd := (nd 15 (nd 4 (nd 2 (nd 1 (lf 0 (o_ic (nI 0) 1)) (lf 1 (o_is 1 2))) (nd 3 (lf 2 (o_il 1 3)) (lf 3 (o_al 0 4)))) (nd 10 (nd 7 (lf 4 (o_getf 0 8 7)) (lf 7 (o_cge 30 10))) (nd 11 (lf 10 (o_al 0 11)) (nd 12 (lf 11 (o_il 1 12)) (lf 12 (o_invV 4 0 1 15)))))) (nd 24 (nd 19 (nd 16 (lf 15 (o_al 0 16)) (lf 16 (o_getf 0 2 19))) (nd 22 (lf 19 (o_clt 24 22)) (nd 23 (lf 22 (o_il 1 23)) (lf 23 (o_iret))))) (nd 30 (nd 27 (lf 24 (o_inc 1 (nI 1) 27)) (lf 27 (o_goto 2))) (nd 31 (lf 30 (o_al 0 31)) (nd 34 (lf 31 (o_getf 0 8 34)) (lf 34 (o_iret)))))))
def k_CF_addMember : Cd := (nd 25 (nd 11 (nd 5 (nd 1 (lf 0 (o_al 0 1)) (nd 2 (lf 1 (o_il 1 2)) (lf 2 (o_invV 8 0 1 5)))) (nd 7 (nd 6 (lf 5 (o_is 3 6)) (lf 6 (o_il 1 7))) (nd 10 (lf 7 (o_ifeq 15 10)) (lf 10 (o_il 1 11))))) (nd 16 (nd 12 (lf 11 (o_ic (nI 1) 12)) (nd 15 (lf 12 (o_cne 43 15)) (lf 15 (o_il 3 16)))) (nd 20 (nd 19 (lf 16 (o_iflt 43 19)) (lf 19 (o_il 3 20))) (nd 22 (lf 20 (o_ic (nI 12) 22)) (lf 22 (o_cge 43 25)))))) (nd 34 (nd 30 (nd 26 (lf 25 (o_al 0 26)) (nd 29 (lf 26 (o_getf 0 4 29)) (lf 29 (o_il 1 30)))) (nd 32 (nd 31 (lf 30 (o_aald 31)) (lf 31 (o_il 3 32))) (nd 33 (lf 32 (o_il 2 33)) (lf 33 (o_iast 34))))) (nd 40 (nd 38 (nd 35 (lf 34 (o_al 0 35)) (lf 35 (o_getf 0 5 38))) (nd 39 (lf 38 (o_il 1 39)) (lf 39 (o_il 3 40)))) (nd 42 (nd 41 (lf 40 (o_ic (nI 1) 41)) (lf 41 (o_iadd 42))) (nd 43 (lf 42 (o_iast 43)) (lf 43 (o_vret)))))))
def k_CF_members : Cd := (nd 10 (nd 5 (nd 1 (lf 0 (o_il 1 1)) (nd 4 (lf 1 (o_ifeq 9 4)) (lf 4 (o_il 1 5)))) (nd 6 (lf 5 (o_ic (nI 1) 6)) (nd 9 (lf 6 (o_cne 18 9)) (lf 9 (o_al 0 10))))) (nd 15 (nd 13 (lf 10 (o_getf 0 5 13)) (nd 14 (lf 13 (o_il 1 14)) (lf 14 (o_iald 1 15)))) (nd 18 (lf 15 (o_goto 19)) (nd 19 (lf 18 (o_ic (nI 0) 19)) (lf 19 (o_iret))))))
def k_CF_memberAt : Cd := (nd 16 (nd 6 (nd 4 (nd 1 (lf 0 (o_il 2 1)) (lf 1 (o_iflt 30 4))) (nd 5 (lf 4 (o_il 2 5)) (lf 5 (o_al 0 6)))) (nd 10 (nd 7 (lf 6 (o_il 1 7)) (lf 7 (o_invV 8 0 1 10))) (nd 13 (lf 10 (o_cge 30 13)) (nd 14 (lf 13 (o_il 2 14)) (lf 14 (o_ic (nI 12) 16)))))) (nd 25 (nd 20 (nd 19 (lf 16 (o_cge 30 19)) (lf 19 (o_al 0 20))) (nd 23 (lf 20 (o_getf 0 4 23)) (nd 24 (lf 23 (o_il 1 24)) (lf 24 (o_aald 25))))) (nd 27 (nd 26 (lf 25 (o_il 2 26)) (lf 26 (o_iald 1 27))) (nd 30 (lf 27 (o_goto 31)) (nd 31 (lf 30 (o_ic (-1) 31)) (lf 31 (o_iret)))))))
def k_CF_faces : Cd := (nd 8 (nd 4 (nd 1 (lf 0 (o_al 0 1)) (lf 1 (o_getf 0 1 4))) (nd 5 (lf 4 (o_al 0 5)) (lf 5 (o_getf 0 2 8)))) (nd 11 (nd 10 (lf 8 (o_ic (nI 6) 10)) (lf 10 (o_iadd 11))) (nd 14 (lf 11 (o_invV 64 4 1 14)) (lf 14 (o_iret)))))
def k_CF_classPlace : Cd := (nd 25 (nd 11 (nd 5 (nd 1 (lf 0 (o_il 1 1)) (nd 4 (lf 1 (o_iflt 14 4)) (lf 4 (o_il 1 5)))) (nd 7 (nd 6 (lf 5 (o_ic (nI 2) 6)) (lf 6 (o_isub 7))) (nd 8 (lf 7 (o_al 0 8)) (lf 8 (o_invV 10 0 0 11))))) (nd 17 (nd 15 (nd 14 (lf 11 (o_clt 16 14)) (lf 14 (o_ic (nI 0) 15))) (nd 16 (lf 15 (o_iret)) (lf 16 (o_al 0 17)))) (nd 21 (nd 20 (lf 17 (o_getf 0 1 20)) (lf 20 (o_al 0 21))) (nd 24 (lf 21 (o_getf 0 2 24)) (lf 24 (o_il 1 25)))))) (nd 37 (nd 31 (nd 29 (nd 26 (lf 25 (o_ic (nI 2) 26)) (lf 26 (o_cge 37 29))) (nd 30 (lf 29 (o_ic (nI 2) 30)) (lf 30 (o_ic (nI 2) 31)))) (nd 33 (nd 32 (lf 31 (o_il 1 32)) (lf 32 (o_imul 33))) (nd 34 (lf 33 (o_iadd 34)) (lf 34 (o_goto 42))))) (nd 41 (nd 39 (nd 38 (lf 37 (o_ic (nI 4) 38)) (lf 38 (o_ic (nI 2) 39))) (nd 40 (lf 39 (o_il 1 40)) (lf 40 (o_imul 41)))) (nd 43 (nd 42 (lf 41 (o_iadd 42)) (lf 42 (o_iadd 43))) (nd 46 (lf 43 (o_invV 64 4 1 46)) (lf 46 (o_iret)))))))
def k_CF_attributesOf : Cd := (nd 20 (nd 10 (nd 5 (nd 1 (lf 0 (o_il 1 1)) (nd 2 (lf 1 (o_ic (nI 2) 2)) (lf 2 (o_cne 18 5)))) (nd 6 (lf 5 (o_il 2 6)) (nd 9 (lf 6 (o_ifne 16 9)) (lf 9 (o_al 0 10))))) (nd 17 (nd 13 (lf 10 (o_getf 0 3 13)) (nd 16 (lf 13 (o_goto 17)) (lf 16 (o_ic (-1) 17)))) (nd 18 (lf 17 (o_iret)) (nd 19 (lf 18 (o_al 0 19)) (lf 19 (o_il 1 20)))))) (nd 30 (nd 25 (nd 21 (lf 20 (o_il 2 21)) (nd 24 (lf 21 (o_invV 9 0 2 24)) (lf 24 (o_is 3 25)))) (nd 26 (lf 25 (o_il 3 26)) (nd 27 (lf 26 (o_ic (-1) 27)) (lf 27 (o_cne 34 30))))) (nd 35 (nd 31 (lf 30 (o_ic (-1) 31)) (nd 34 (lf 31 (o_goto 38)) (lf 34 (o_il 3 35)))) (nd 37 (lf 35 (o_ic (nI 6) 37)) (nd 38 (lf 37 (o_iadd 38)) (lf 38 (o_iret)))))))
def k_CF_attributeAt : Cd := (nd 37 (nd 18 (nd 8 (nd 2 (nd 1 (lf 0 (o_al 0 1)) (lf 1 (o_il 1 2))) (nd 3 (lf 2 (o_il 2 3)) (nd 6 (lf 3 (o_invV 12 0 2 6)) (lf 6 (o_is 4 8))))) (nd 11 (nd 10 (lf 8 (o_il 4 10)) (lf 10 (o_ic (-1) 11))) (nd 14 (lf 11 (o_ceq 31 14)) (nd 15 (lf 14 (o_il 3 15)) (lf 15 (o_iflt 31 18)))))) (nd 28 (nd 20 (nd 19 (lf 18 (o_il 3 19)) (lf 19 (o_al 0 20))) (nd 23 (lf 20 (o_getf 0 1 23)) (nd 25 (lf 23 (o_il 4 25)) (lf 25 (o_invV 64 4 1 28))))) (nd 33 (nd 31 (lf 28 (o_clt 33 31)) (nd 32 (lf 31 (o_ic (-1) 32)) (lf 32 (o_iret)))) (nd 35 (lf 33 (o_il 4 35)) (nd 36 (lf 35 (o_ic (nI 2) 36)) (lf 36 (o_iadd 37))))))) (nd 56 (nd 45 (nd 40 (nd 39 (lf 37 (o_is 5 39)) (lf 39 (o_ic (nI 0) 40))) (nd 42 (lf 40 (o_is 6 42)) (nd 44 (lf 42 (o_il 6 44)) (lf 44 (o_il 3 45))))) (nd 50 (nd 48 (lf 45 (o_cge 73 48)) (lf 48 (o_il 5 50))) (nd 52 (lf 50 (o_ic (nI 6) 52)) (nd 53 (lf 52 (o_al 0 53)) (lf 53 (o_getf 0 1 56)))))) (nd 64 (nd 59 (nd 58 (lf 56 (o_il 5 58)) (lf 58 (o_ic (nI 2) 59))) (nd 60 (lf 59 (o_iadd 60)) (nd 63 (lf 60 (o_invV 65 4 1 63)) (lf 63 (o_iadd 64))))) (nd 70 (nd 65 (lf 64 (o_iadd 65)) (nd 67 (lf 65 (o_is 5 67)) (lf 67 (o_inc 6 (nI 1) 70)))) (nd 73 (lf 70 (o_goto 42)) (nd 75 (lf 73 (o_il 5 75)) (lf 75 (o_iret))))))))
def k_CF_meansAs : Cd := (nd 102 (nd 50 (nd 24 (nd 11 (nd 5 (nd 1 (lf 0 (o_al 0 1)) (nd 4 (lf 1 (o_invV 6 0 0 4)) (lf 4 (o_is 2 5)))) (nd 9 (nd 6 (lf 5 (o_al 1 6)) (lf 6 (o_invV 6 0 0 9))) (nd 10 (lf 9 (o_is 3 10)) (lf 10 (o_al 0 11))))) (nd 16 (nd 14 (lf 11 (o_getf 0 8 14)) (nd 15 (lf 14 (o_il 2 15)) (lf 15 (o_isub 16)))) (nd 20 (nd 18 (lf 16 (o_is 4 18)) (lf 18 (o_il 4 20))) (nd 21 (lf 20 (o_al 1 21)) (lf 21 (o_getf 0 8 24)))))) (nd 37 (nd 29 (nd 25 (lf 24 (o_il 3 25)) (nd 26 (lf 25 (o_isub 26)) (lf 26 (o_cne 48 29)))) (nd 33 (nd 30 (lf 29 (o_al 0 30)) (lf 30 (o_getf 0 1 33))) (nd 34 (lf 33 (o_ic (nI 4) 34)) (lf 34 (o_invV 65 4 1 37))))) (nd 42 (nd 38 (lf 37 (o_al 1 38)) (nd 41 (lf 38 (o_getf 0 1 41)) (lf 41 (o_ic (nI 4) 42)))) (nd 48 (nd 45 (lf 42 (o_invV 65 4 1 45)) (lf 45 (o_ceq 50 48))) (nd 49 (lf 48 (o_ic (nI 0) 49)) (lf 49 (o_zret))))))) (nd 76 (nd 63 (nd 56 (nd 51 (lf 50 (o_al 0 51)) (nd 54 (lf 51 (o_getf 0 2 54)) (lf 54 (o_is 5 56)))) (nd 60 (nd 57 (lf 56 (o_al 1 57)) (lf 57 (o_getf 0 2 60))) (nd 62 (lf 60 (o_is 6 62)) (lf 62 (o_ic (nI 0) 63))))) (nd 69 (nd 65 (lf 63 (o_is 7 65)) (nd 67 (lf 65 (o_il 7 67)) (lf 67 (o_il 4 69)))) (nd 73 (nd 72 (lf 69 (o_cge 172 72)) (lf 72 (o_al 0 73))) (nd 74 (lf 73 (o_il 2 74)) (lf 74 (o_il 7 76)))))) (nd 87 (nd 82 (nd 77 (lf 76 (o_iadd 77)) (nd 80 (lf 77 (o_invV 4 0 1 80)) (lf 80 (o_is 8 82)))) (nd 84 (nd 83 (lf 82 (o_al 1 83)) (lf 83 (o_il 3 84))) (nd 86 (lf 84 (o_il 7 86)) (lf 86 (o_iadd 87))))) (nd 93 (nd 90 (lf 87 (o_invV 4 0 1 90)) (nd 92 (lf 90 (o_is 9 92)) (lf 92 (o_al 0 93)))) (nd 98 (nd 96 (lf 93 (o_getf 0 1 96)) (lf 96 (o_il 5 98))) (nd 100 (lf 98 (o_il 8 100)) (lf 100 (o_il 5 102)))))))) (nd 158 (nd 130 (nd 114 (nd 107 (nd 103 (lf 102 (o_isub 103)) (nd 104 (lf 103 (o_al 1 104)) (lf 104 (o_getf 0 1 107)))) (nd 111 (nd 109 (lf 107 (o_il 6 109)) (lf 109 (o_il 9 111))) (nd 113 (lf 111 (o_il 6 113)) (lf 113 (o_isub 114))))) (nd 121 (nd 117 (lf 114 (o_invV 72 4 5 117)) (nd 120 (lf 117 (o_ifne 152 120)) (lf 120 (o_al 0 121)))) (nd 125 (nd 124 (lf 121 (o_getf 0 0 124)) (lf 124 (o_al 0 125))) (nd 128 (lf 125 (o_getf 0 1 128)) (lf 128 (o_il 8 130)))))) (nd 146 (nd 137 (nd 133 (lf 130 (o_invV 64 4 1 133)) (nd 134 (lf 133 (o_al 1 134)) (lf 134 (o_getf 0 0 137)))) (nd 141 (nd 138 (lf 137 (o_al 1 138)) (lf 138 (o_getf 0 1 141))) (nd 143 (lf 141 (o_il 9 143)) (lf 143 (o_invV 64 4 1 146))))) (nd 153 (nd 149 (lf 146 (o_invV 32 1 3 149)) (nd 152 (lf 149 (o_ifeq 154 152)) (lf 152 (o_ic (nI 0) 153)))) (nd 156 (nd 154 (lf 153 (o_zret)) (lf 154 (o_il 8 156))) (nd 157 (lf 156 (o_ic (nI 2) 157)) (lf 157 (o_iadd 158))))))) (nd 187 (nd 172 (nd 163 (nd 160 (lf 158 (o_is 5 160)) (nd 162 (lf 160 (o_il 9 162)) (lf 162 (o_ic (nI 2) 163)))) (nd 166 (nd 164 (lf 163 (o_iadd 164)) (lf 164 (o_is 6 166))) (nd 169 (lf 166 (o_inc 7 (nI 1) 169)) (lf 169 (o_goto 65))))) (nd 178 (nd 173 (lf 172 (o_al 0 173)) (nd 176 (lf 173 (o_getf 0 1 176)) (lf 176 (o_il 5 178)))) (nd 182 (nd 179 (lf 178 (o_al 0 179)) (lf 179 (o_getf 0 1 182))) (nd 185 (lf 182 (o_invV 61 4 0 185)) (lf 185 (o_il 5 187)))))) (nd 201 (nd 192 (nd 188 (lf 187 (o_isub 188)) (nd 189 (lf 188 (o_al 1 189)) (lf 189 (o_getf 0 1 192)))) (nd 195 (nd 194 (lf 192 (o_il 6 194)) (lf 194 (o_al 1 195))) (nd 198 (lf 195 (o_getf 0 1 198)) (lf 198 (o_invV 61 4 0 201))))) (nd 210 (nd 204 (nd 203 (lf 201 (o_il 6 203)) (lf 203 (o_isub 204))) (nd 207 (lf 204 (o_invV 72 4 5 207)) (lf 207 (o_ifne 214 210)))) (nd 214 (nd 211 (lf 210 (o_ic (nI 1) 211)) (lf 211 (o_goto 215))) (nd 215 (lf 214 (o_ic (nI 0) 215)) (lf 215 (o_zret)))))))))
def k_PL_init : Cd := (nd 15 (nd 5 (nd 1 (lf 0 (o_al 0 1)) (nd 4 (lf 1 (o_pop0 4)) (lf 4 (o_al 0 5)))) (nd 9 (nd 8 (lf 5 (o_new 4 2 [.null, .int 0] 8)) (lf 8 (o_dup 9))) (nd 12 (lf 9 (o_invI 60 0 12)) (lf 12 (o_putf 1 0 2 15))))) (nd 23 (nd 18 (nd 16 (lf 15 (o_al 0 16)) (lf 16 (o_ic (nI 61) 18))) (nd 20 (lf 18 (o_newi 1 20)) (lf 20 (o_putf 1 1 2 23)))) (nd 25 (nd 24 (lf 23 (o_al 0 24)) (lf 24 (o_ic (nI 0) 25))) (nd 28 (lf 25 (o_putf 1 2 0 28)) (lf 28 (o_vret))))))
def k_PL_places : Cd := (nd 1 (lf 0 (o_al 0 1)) (nd 4 (lf 1 (o_getf 1 2 4)) (lf 4 (o_iret))))
def k_PL_has : Cd := (nd 13 (nd 5 (nd 1 (lf 0 (o_il 1 1)) (nd 4 (lf 1 (o_iflt 25 4)) (lf 4 (o_il 1 5)))) (nd 9 (nd 6 (lf 5 (o_al 0 6)) (lf 6 (o_getf 1 2 9))) (nd 12 (lf 9 (o_cge 25 12)) (lf 12 (o_il 1 13))))) (nd 21 (nd 17 (nd 14 (lf 13 (o_al 0 14)) (lf 14 (o_getf 1 1 17))) (nd 18 (lf 17 (o_alen 18)) (lf 18 (o_cge 25 21)))) (nd 25 (nd 22 (lf 21 (o_ic (nI 1) 22)) (lf 22 (o_goto 26))) (nd 26 (lf 25 (o_ic (nI 0) 26)) (lf 26 (o_zret))))))
def k_PL_begin : Cd := (nd 8 (nd 4 (nd 1 (lf 0 (o_al 0 1)) (lf 1 (o_getf 1 1 4))) (nd 5 (lf 4 (o_ic (nI 0) 5)) (lf 5 (o_inv 191 2 8)))) (nd 10 (nd 9 (lf 8 (o_al 0 9)) (lf 9 (o_il 1 10))) (nd 13 (lf 10 (o_putf 1 2 0 13)) (lf 13 (o_vret)))))
def k_PL_set : Cd := (nd 9 (nd 2 (nd 1 (lf 0 (o_al 0 1)) (lf 1 (o_il 1 2))) (nd 5 (lf 2 (o_invV 17 1 1 5)) (nd 8 (lf 5 (o_ifeq 15 8)) (lf 8 (o_al 0 9))))) (nd 13 (nd 12 (lf 9 (o_getf 1 1 12)) (lf 12 (o_il 1 13))) (nd 14 (lf 13 (o_il 2 14)) (nd 15 (lf 14 (o_iast 15)) (lf 15 (o_vret))))))
def k_PL_copy : Cd := (nd 21 (nd 9 (nd 4 (nd 1 (lf 0 (o_al 0 1)) (lf 1 (o_getf 1 0 4))) (nd 5 (lf 4 (o_al 1 5)) (nd 8 (lf 5 (o_getf 1 0 8)) (lf 8 (o_ic (nI 0) 9))))) (nd 16 (nd 10 (lf 9 (o_al 1 10)) (nd 13 (lf 10 (o_getf 1 0 13)) (lf 13 (o_invV 61 4 0 16)))) (nd 19 (lf 16 (o_invV 71 4 3 19)) (nd 20 (lf 19 (o_pop 20)) (lf 20 (o_al 1 21)))))) (nd 32 (nd 26 (nd 24 (lf 21 (o_getf 1 1 24)) (nd 25 (lf 24 (o_ic (nI 0) 25)) (lf 25 (o_al 0 26)))) (nd 29 (lf 26 (o_getf 1 1 29)) (nd 30 (lf 29 (o_ic (nI 0) 30)) (lf 30 (o_ic (nI 61) 32))))) (nd 37 (nd 35 (lf 32 (o_acp 35)) (nd 36 (lf 35 (o_al 0 36)) (lf 36 (o_al 1 37)))) (nd 40 (lf 37 (o_getf 1 2 40)) (nd 43 (lf 40 (o_putf 1 2 0 43)) (lf 43 (o_vret)))))))
def k_PL_start : Cd := (nd 17 (nd 6 (nd 4 (nd 1 (lf 0 (o_il 1 1)) (lf 1 (o_iflt 30 4))) (nd 5 (lf 4 (o_il 1 5)) (lf 5 (o_al 0 6)))) (nd 12 (nd 9 (lf 6 (o_getf 1 2 9)) (lf 9 (o_cge 30 12))) (nd 13 (lf 12 (o_il 1 13)) (nd 14 (lf 13 (o_al 0 14)) (lf 14 (o_getf 1 1 17)))))) (nd 25 (nd 21 (nd 18 (lf 17 (o_alen 18)) (lf 18 (o_cge 30 21))) (nd 22 (lf 21 (o_al 0 22)) (lf 22 (o_getf 1 1 25)))) (nd 27 (nd 26 (lf 25 (o_il 1 26)) (lf 26 (o_iald 1 27))) (nd 30 (lf 27 (o_goto 31)) (nd 31 (lf 30 (o_ic (nI 0) 31)) (lf 31 (o_iret)))))))
def k_PL_tag : Cd := (nd 10 (nd 5 (nd 1 (lf 0 (o_al 0 1)) (nd 2 (lf 1 (o_il 1 2)) (lf 2 (o_invV 21 1 1 5)))) (nd 6 (lf 5 (o_is 2 6)) (nd 7 (lf 6 (o_il 2 7)) (lf 7 (o_ifne 14 10))))) (nd 15 (nd 11 (lf 10 (o_ic (nI 0) 11)) (nd 14 (lf 11 (o_goto 22)) (lf 14 (o_al 0 15)))) (nd 19 (nd 18 (lf 15 (o_getf 1 0 18)) (lf 18 (o_il 2 19))) (nd 22 (lf 19 (o_invV 63 4 1 22)) (lf 22 (o_iret))))))
def k_PL_twoOf : Cd := (nd 11 (nd 5 (nd 1 (lf 0 (o_al 0 1)) (nd 2 (lf 1 (o_il 1 2)) (lf 2 (o_invV 21 1 1 5)))) (nd 7 (nd 6 (lf 5 (o_is 3 6)) (lf 6 (o_il 3 7))) (nd 10 (lf 7 (o_ifne 14 10)) (lf 10 (o_ic (nI 0) 11))))) (nd 19 (nd 15 (nd 14 (lf 11 (o_goto 24)) (lf 14 (o_al 0 15))) (nd 18 (lf 15 (o_getf 1 0 18)) (lf 18 (o_il 3 19)))) (nd 21 (nd 20 (lf 19 (o_il 2 20)) (lf 20 (o_iadd 21))) (nd 24 (lf 21 (o_invV 64 4 1 24)) (lf 24 (o_iret))))))
def k_PL_first : Cd := (nd 11 (nd 5 (nd 1 (lf 0 (o_al 0 1)) (nd 2 (lf 1 (o_il 1 2)) (lf 2 (o_invV 22 1 1 5)))) (nd 7 (lf 5 (o_ic (nI 7) 7)) (nd 10 (lf 7 (o_clt 19 10)) (lf 10 (o_al 0 11))))) (nd 16 (nd 12 (lf 11 (o_il 1 12)) (nd 13 (lf 12 (o_ic (nI 1) 13)) (lf 13 (o_invV 23 1 2 16)))) (nd 19 (lf 16 (o_goto 20)) (nd 20 (lf 19 (o_ic (nI 0) 20)) (lf 20 (o_iret))))))
def k_PL_second : Cd := (nd 11 (nd 5 (nd 1 (lf 0 (o_al 0 1)) (nd 2 (lf 1 (o_il 1 2)) (lf 2 (o_invV 22 1 1 5)))) (nd 7 (lf 5 (o_ic (nI 9) 7)) (nd 10 (lf 7 (o_clt 19 10)) (lf 10 (o_al 0 11))))) (nd 16 (nd 12 (lf 11 (o_il 1 12)) (nd 13 (lf 12 (o_ic (nI 3) 13)) (lf 13 (o_invV 23 1 2 16)))) (nd 19 (lf 16 (o_goto 20)) (nd 20 (lf 19 (o_ic (nI 0) 20)) (lf 20 (o_iret))))))
def k_PL_textAt : Cd := (nd 5 (nd 1 (lf 0 (o_al 0 1)) (nd 2 (lf 1 (o_il 1 2)) (lf 2 (o_invV 21 1 1 5)))) (nd 6 (lf 5 (o_ic (nI 3) 6)) (nd 7 (lf 6 (o_iadd 7)) (lf 7 (o_iret)))))
def k_PL_textSize : Cd := (nd 10 (nd 5 (nd 1 (lf 0 (o_al 0 1)) (nd 2 (lf 1 (o_il 1 2)) (lf 2 (o_invV 22 1 1 5)))) (nd 6 (lf 5 (o_ic (nI 1) 6)) (nd 9 (lf 6 (o_cne 18 9)) (lf 9 (o_al 0 10))))) (nd 15 (nd 11 (lf 10 (o_il 1 11)) (nd 12 (lf 11 (o_ic (nI 1) 12)) (lf 12 (o_invV 23 1 2 15)))) (nd 18 (lf 15 (o_goto 19)) (nd 19 (lf 18 (o_ic (nI 0) 19)) (lf 19 (o_iret))))))
def k_PL_bits : Cd := (nd 33 (nd 16 (nd 7 (nd 2 (nd 1 (lf 0 (o_al 0 1)) (lf 1 (o_il 1 2))) (nd 5 (lf 2 (o_invV 21 1 1 5)) (nd 6 (lf 5 (o_is 2 6)) (lf 6 (o_al 0 7))))) (nd 11 (nd 8 (lf 7 (o_il 1 8)) (lf 8 (o_invV 22 1 1 11))) (nd 12 (lf 11 (o_is 3 12)) (nd 13 (lf 12 (o_il 3 13)) (lf 13 (o_inv 109 1 16)))))) (nd 25 (nd 20 (nd 19 (lf 16 (o_ifne 21 19)) (lf 19 (o_lc (0) 20))) (nd 21 (lf 20 (o_lret)) (nd 22 (lf 21 (o_al 0 22)) (lf 22 (o_getf 1 0 25))))) (nd 27 (nd 26 (lf 25 (o_il 2 26)) (lf 26 (o_ic (nI 1) 27))) (nd 28 (lf 27 (o_iadd 28)) (nd 31 (lf 28 (o_invV 65 4 1 31)) (lf 31 (o_is 4 33))))))) (nd 51 (nd 43 (nd 37 (nd 34 (lf 33 (o_il 3 34)) (lf 34 (o_inv 110 1 37))) (nd 40 (lf 37 (o_ifeq 65 40)) (nd 42 (lf 40 (o_il 4 42)) (lf 42 (o_i2l 43))))) (nd 46 (nd 45 (lf 43 (o_ic (nI 32) 45)) (lf 45 (o_lshl 46))) (nd 47 (lf 46 (o_al 0 47)) (nd 50 (lf 47 (o_getf 1 0 50)) (lf 50 (o_il 2 51)))))) (nd 60 (nd 53 (nd 52 (lf 51 (o_ic (nI 5) 52)) (lf 52 (o_iadd 53))) (nd 56 (lf 53 (o_invV 65 4 1 56)) (nd 57 (lf 56 (o_i2l 57)) (lf 57 (o_lc (4294967295) 60))))) (nd 65 (nd 61 (lf 60 (o_land 61)) (nd 62 (lf 61 (o_lor 62)) (lf 62 (o_goto 68)))) (nd 67 (lf 65 (o_il 4 67)) (nd 68 (lf 67 (o_i2l 68)) (lf 68 (o_lret))))))))
def k_PL_bytesOf : Cd := (nd 58 (nd 52 (nd 2 (nd 1 (lf 0 (o_al 0 1)) (lf 1 (o_il 1 2))) (nd 5 (lf 2 (o_invV 22 1 1 5)) (lf 5 (o_sw [(1, 52), (2, 65), (3, 65), (4, 65), (5, 60), (6, 60), (7, 63), (8, 63)] 65)))) (nd 54 (nd 53 (lf 52 (o_ic (nI 3) 53)) (lf 53 (o_al 0 54))) (nd 55 (lf 54 (o_il 1 55)) (lf 55 (o_invV 27 1 1 58))))) (nd 63 (nd 60 (nd 59 (lf 58 (o_iadd 59)) (lf 59 (o_iret))) (nd 62 (lf 60 (o_ic (nI 9) 62)) (lf 62 (o_iret)))) (nd 65 (nd 64 (lf 63 (o_ic (nI 3) 64)) (lf 64 (o_iret))) (nd 66 (lf 65 (o_ic (nI 5) 66)) (lf 66 (o_iret))))))
def k_PL_wrong : Cd := (nd 17 (nd 10 (nd 2 (nd 1 (lf 0 (o_al 0 1)) (lf 1 (o_il 1 2))) (nd 5 (lf 2 (o_invV 17 1 1 5)) (nd 8 (lf 5 (o_ifne 11 8)) (lf 8 (o_ic (nI 8) 10))))) (nd 12 (nd 11 (lf 10 (o_iret)) (lf 11 (o_al 0 12))) (nd 13 (lf 12 (o_il 1 13)) (nd 16 (lf 13 (o_invV 22 1 1 16)) (lf 16 (o_is 3 17)))))) (nd 25 (nd 21 (nd 18 (lf 17 (o_il 3 18)) (lf 18 (o_ifne 24 21))) (nd 23 (lf 21 (o_ic (nI 7) 23)) (nd 24 (lf 23 (o_iret)) (lf 24 (o_il 3 25))))) (nd 30 (nd 26 (lf 25 (o_il 2 26)) (nd 29 (lf 26 (o_cne 33 29)) (lf 29 (o_ic (nI 0) 30)))) (nd 33 (lf 30 (o_goto 35)) (nd 35 (lf 33 (o_ic (nI 9) 35)) (lf 35 (o_iret)))))))
def k_PL_textOf : Cd := (nd 96 (nd 77 (nd 69 (nd 2 (nd 1 (lf 0 (o_al 0 1)) (lf 1 (o_il 1 2))) (nd 5 (lf 2 (o_invV 22 1 1 5)) (nd 68 (lf 5 (o_sw [(1, 68), (2, 131), (3, 131), (4, 131), (5, 131), (6, 131), (7, 70), (8, 70), (9, 92), (10, 92), (11, 92), (12, 77)] 131)) (lf 68 (o_il 1 69))))) (nd 72 (nd 70 (lf 69 (o_iret)) (nd 71 (lf 70 (o_al 0 71)) (lf 71 (o_il 1 72)))) (nd 73 (lf 72 (o_ic (nI 1) 73)) (nd 76 (lf 73 (o_invV 23 1 2 76)) (lf 76 (o_iret)))))) (nd 84 (nd 79 (nd 78 (lf 77 (o_al 0 78)) (lf 78 (o_il 1 79))) (nd 80 (lf 79 (o_il 2 80)) (nd 83 (lf 80 (o_ifne 87 83)) (lf 83 (o_ic (nI 1) 84))))) (nd 91 (nd 87 (lf 84 (o_goto 88)) (nd 88 (lf 87 (o_ic (nI 3) 88)) (lf 88 (o_invV 23 1 2 91)))) (nd 92 (lf 91 (o_iret)) (nd 93 (lf 92 (o_il 2 93)) (lf 93 (o_ifne 110 96))))))) (nd 113 (nd 103 (nd 98 (nd 97 (lf 96 (o_al 0 97)) (lf 97 (o_al 0 98))) (nd 99 (lf 98 (o_il 1 99)) (nd 100 (lf 99 (o_ic (nI 1) 100)) (lf 100 (o_invV 23 1 2 103))))) (nd 110 (nd 104 (lf 103 (o_ic (nI 1) 104)) (nd 107 (lf 104 (o_invV 23 1 2 107)) (lf 107 (o_goto 130)))) (nd 111 (lf 110 (o_al 0 111)) (nd 112 (lf 111 (o_al 0 112)) (lf 112 (o_il 1 113)))))) (nd 123 (nd 118 (nd 114 (lf 113 (o_ic (nI 3) 114)) (nd 117 (lf 114 (o_invV 23 1 2 117)) (lf 117 (o_il 2 118)))) (nd 119 (lf 118 (o_ic (nI 1) 119)) (nd 122 (lf 119 (o_cne 126 122)) (lf 122 (o_ic (nI 1) 123))))) (nd 130 (nd 126 (lf 123 (o_goto 127)) (nd 127 (lf 126 (o_ic (nI 3) 127)) (lf 127 (o_invV 23 1 2 130)))) (nd 131 (lf 130 (o_iret)) (nd 132 (lf 131 (o_ic (nI 0) 132)) (lf 132 (o_iret))))))))
def k_PL_order : Cd := (nd 75 (nd 37 (nd 17 (nd 7 (nd 2 (nd 1 (lf 0 (o_al 0 1)) (lf 1 (o_il 1 2))) (nd 5 (lf 2 (o_invV 22 1 1 5)) (lf 5 (o_is 4 7)))) (nd 10 (nd 9 (lf 7 (o_il 4 9)) (lf 9 (o_al 2 10))) (nd 11 (lf 10 (o_il 3 11)) (nd 14 (lf 11 (o_invV 22 1 1 14)) (lf 14 (o_inv 179 2 17)))))) (nd 27 (nd 21 (nd 19 (lf 17 (o_is 5 19)) (lf 19 (o_il 5 21))) (nd 24 (lf 21 (o_ifeq 27 24)) (nd 26 (lf 24 (o_il 5 26)) (lf 26 (o_iret))))) (nd 32 (nd 29 (lf 27 (o_il 4 29)) (lf 29 (o_inv 109 1 32))) (nd 35 (lf 32 (o_ifeq 49 35)) (nd 36 (lf 35 (o_al 0 36)) (lf 36 (o_il 1 37))))))) (nd 56 (nd 45 (nd 41 (nd 40 (lf 37 (o_invV 28 1 1 40)) (lf 40 (o_al 2 41))) (nd 42 (lf 41 (o_il 3 42)) (lf 42 (o_invV 28 1 1 45)))) (nd 49 (nd 48 (lf 45 (o_inv 180 2 48)) (lf 48 (o_iret))) (nd 51 (lf 49 (o_il 4 51)) (nd 53 (lf 51 (o_ic (nI 12) 53)) (lf 53 (o_cne 60 56)))))) (nd 67 (nd 60 (nd 57 (lf 56 (o_ic (nI 2) 57)) (lf 57 (o_goto 72))) (nd 62 (lf 60 (o_il 4 62)) (nd 64 (lf 62 (o_ic (nI 9) 64)) (lf 64 (o_clt 71 67))))) (nd 71 (nd 68 (lf 67 (o_ic (nI 3) 68)) (lf 68 (o_goto 72))) (nd 72 (lf 71 (o_ic (nI 1) 72)) (nd 74 (lf 72 (o_is 6 74)) (lf 74 (o_ic (nI 0) 75)))))))) (nd 112 (nd 93 (nd 84 (nd 79 (nd 77 (lf 75 (o_is 7 77)) (lf 77 (o_il 7 79))) (nd 81 (lf 79 (o_il 6 81)) (lf 81 (o_cge 150 84)))) (nd 89 (nd 86 (lf 84 (o_il 5 86)) (lf 86 (o_ifne 150 89))) (nd 90 (lf 89 (o_al 0 90)) (nd 91 (lf 90 (o_il 1 91)) (lf 91 (o_il 7 93)))))) (nd 102 (nd 98 (nd 96 (lf 93 (o_invV 31 1 2 96)) (lf 96 (o_is 8 98))) (nd 99 (lf 98 (o_al 2 99)) (nd 100 (lf 99 (o_il 3 100)) (lf 100 (o_il 7 102))))) (nd 107 (nd 105 (lf 102 (o_invV 31 1 2 105)) (lf 105 (o_is 9 107))) (nd 108 (lf 107 (o_al 0 108)) (nd 111 (lf 108 (o_getf 1 0 111)) (lf 111 (o_al 0 112))))))) (nd 130 (nd 120 (nd 117 (nd 114 (lf 112 (o_il 8 114)) (lf 114 (o_invV 26 1 1 117))) (nd 118 (lf 117 (o_al 0 118)) (lf 118 (o_il 8 120)))) (nd 124 (nd 123 (lf 120 (o_invV 27 1 1 123)) (lf 123 (o_al 2 124))) (nd 127 (lf 124 (o_getf 1 0 127)) (nd 128 (lf 127 (o_al 2 128)) (lf 128 (o_il 9 130)))))) (nd 142 (nd 134 (nd 133 (lf 130 (o_invV 26 1 1 133)) (lf 133 (o_al 2 134))) (nd 136 (lf 134 (o_il 9 136)) (nd 139 (lf 136 (o_invV 27 1 1 139)) (lf 139 (o_invV 72 4 5 142))))) (nd 147 (nd 144 (lf 142 (o_is 5 144)) (lf 144 (o_inc 7 (nI 1) 147))) (nd 150 (lf 147 (o_goto 77)) (nd 152 (lf 150 (o_il 5 152)) (lf 152 (o_iret)))))))))
def k_RK_init : Cd := (nd 37 (nd 18 (nd 7 (nd 4 (nd 1 (lf 0 (o_al 0 1)) (lf 1 (o_pop0 4))) (nd 5 (lf 4 (o_al 0 5)) (lf 5 (o_ic (nI 6) 7)))) (nd 13 (nd 10 (lf 7 (o_newq 6 10)) (lf 10 (o_putf 2 0 2 13))) (nd 14 (lf 13 (o_al 0 14)) (nd 15 (lf 14 (o_ic (nI 0) 15)) (lf 15 (o_putf 2 1 0 18)))))) (nd 27 (nd 22 (nd 19 (lf 18 (o_al 0 19)) (lf 19 (o_ic (nI 150) 22))) (nd 24 (lf 22 (o_newi 1 24)) (lf 24 (o_putf 2 2 2 27)))) (nd 31 (nd 28 (lf 27 (o_al 0 28)) (lf 28 (o_ic (nI 150) 31))) (nd 33 (lf 31 (o_newi 1 33)) (nd 36 (lf 33 (o_putf 2 3 2 36)) (lf 36 (o_al 0 37))))))) (nd 52 (nd 43 (nd 41 (nd 38 (lf 37 (o_ic (nI 0) 38)) (lf 38 (o_putf 2 4 0 41))) (nd 42 (lf 41 (o_ic (nI 0) 42)) (lf 42 (o_is 1 43)))) (nd 45 (nd 44 (lf 43 (o_il 1 44)) (lf 44 (o_al 0 45))) (nd 48 (lf 45 (o_getf 2 0 48)) (nd 49 (lf 48 (o_alen 49)) (lf 49 (o_cge 71 52)))))) (nd 61 (nd 56 (nd 53 (lf 52 (o_al 0 53)) (lf 53 (o_getf 2 0 56))) (nd 57 (lf 56 (o_il 1 57)) (nd 60 (lf 57 (o_new 1 3 [.null, .null, .int 0] 60)) (lf 60 (o_dup 61))))) (nd 65 (nd 64 (lf 61 (o_invI 15 0 64)) (lf 64 (o_aast 6 3 65))) (nd 68 (lf 65 (o_inc 1 (nI 1) 68)) (nd 71 (lf 68 (o_goto 43)) (lf 71 (o_vret))))))))
def k_RK_clear : Cd := (nd 5 (nd 1 (lf 0 (o_al 0 1)) (nd 2 (lf 1 (o_ic (nI 0) 2)) (lf 2 (o_putf 2 1 0 5)))) (nd 7 (nd 6 (lf 5 (o_al 0 6)) (lf 6 (o_ic (nI 0) 7))) (nd 10 (lf 7 (o_putf 2 4 0 10)) (lf 10 (o_vret)))))
def k_RK_size : Cd := (nd 1 (lf 0 (o_al 0 1)) (nd 4 (lf 1 (o_getf 2 4 4)) (lf 4 (o_iret))))
def k_RK_add : Cd := (nd 58 (nd 31 (nd 16 (nd 8 (nd 4 (nd 1 (lf 0 (o_al 0 1)) (lf 1 (o_getf 2 1 4))) (nd 7 (lf 4 (o_iflt 19 7)) (lf 7 (o_al 0 8)))) (nd 12 (nd 11 (lf 8 (o_getf 2 1 11)) (lf 11 (o_al 0 12))) (nd 15 (lf 12 (o_getf 2 0 15)) (lf 15 (o_alen 16))))) (nd 22 (nd 20 (nd 19 (lf 16 (o_clt 21 19)) (lf 19 (o_ic (nI 0) 20))) (nd 21 (lf 20 (o_zret)) (lf 21 (o_al 0 22)))) (nd 26 (nd 25 (lf 22 (o_getf 2 0 25)) (lf 25 (o_al 0 26))) (nd 29 (lf 26 (o_getf 2 1 29)) (nd 30 (lf 29 (o_aald 30)) (lf 30 (o_as 2 31))))))) (nd 43 (nd 37 (nd 33 (nd 32 (lf 31 (o_al 2 32)) (lf 32 (o_al 1 33))) (nd 36 (lf 33 (o_invV 20 1 1 36)) (lf 36 (o_al 0 37)))) (nd 41 (nd 38 (lf 37 (o_dup 38)) (lf 38 (o_getf 2 1 41))) (nd 42 (lf 41 (o_ic (nI 1) 42)) (lf 42 (o_iadd 43))))) (nd 49 (nd 47 (nd 46 (lf 43 (o_putf 2 1 0 46)) (lf 46 (o_ic (nI 1) 47))) (nd 48 (lf 47 (o_is 3 48)) (lf 48 (o_il 3 49)))) (nd 53 (nd 50 (lf 49 (o_al 2 50)) (lf 50 (o_invV 16 1 0 53))) (nd 56 (lf 53 (o_cge 123 56)) (nd 57 (lf 56 (o_al 2 57)) (lf 57 (o_il 3 58)))))))) (nd 90 (nd 74 (nd 68 (nd 64 (nd 61 (lf 58 (o_invV 22 1 1 61)) (lf 61 (o_ifne 68 64))) (nd 65 (lf 64 (o_ic (-1) 65)) (lf 65 (o_goto 74)))) (nd 70 (nd 69 (lf 68 (o_al 0 69)) (lf 69 (o_al 2 70))) (nd 71 (lf 70 (o_il 3 71)) (lf 71 (o_invV 39 2 2 74))))) (nd 82 (nd 78 (nd 76 (lf 74 (o_is 4 76)) (lf 76 (o_il 4 78))) (nd 79 (lf 78 (o_ic (-1) 79)) (lf 79 (o_ceq 97 82)))) (nd 85 (nd 83 (lf 82 (o_al 0 83)) (lf 83 (o_il 4 85))) (nd 86 (lf 85 (o_al 2 86)) (nd 87 (lf 86 (o_il 3 87)) (lf 87 (o_invV 40 2 3 90))))))) (nd 108 (nd 98 (nd 94 (nd 93 (lf 90 (o_ifeq 97 93)) (lf 93 (o_ic (nI 1) 94))) (nd 97 (lf 94 (o_goto 98)) (lf 97 (o_ic (nI 0) 98)))) (nd 102 (nd 100 (lf 98 (o_is 5 100)) (lf 100 (o_il 5 102))) (nd 105 (lf 102 (o_ifeq 117 105)) (nd 106 (lf 105 (o_al 0 106)) (lf 106 (o_il 4 108)))))) (nd 116 (nd 112 (nd 109 (lf 108 (o_il 3 109)) (lf 109 (o_invV 37 2 2 112))) (nd 115 (lf 112 (o_ifne 117 115)) (lf 115 (o_ic (nI 0) 116)))) (nd 120 (nd 117 (lf 116 (o_zret)) (lf 117 (o_inc 3 (nI 1) 120))) (nd 123 (lf 120 (o_goto 48)) (nd 124 (lf 123 (o_ic (nI 1) 124)) (lf 124 (o_zret)))))))))
def k_RK_insert : Cd := (nd 51 (nd 28 (nd 13 (nd 5 (nd 1 (lf 0 (o_il 1 1)) (nd 4 (lf 1 (o_iflt 22 4)) (lf 4 (o_il 1 5)))) (nd 9 (nd 6 (lf 5 (o_al 0 6)) (lf 6 (o_getf 2 4 9))) (nd 12 (lf 9 (o_cgt 22 12)) (lf 12 (o_al 0 13))))) (nd 22 (nd 16 (lf 13 (o_getf 2 4 16)) (nd 19 (lf 16 (o_ic (nI 150) 19)) (lf 19 (o_clt 24 22)))) (nd 24 (nd 23 (lf 22 (o_ic (nI 0) 23)) (lf 23 (o_zret))) (nd 25 (lf 24 (o_al 0 25)) (lf 25 (o_getf 2 2 28)))))) (nd 37 (nd 33 (nd 29 (lf 28 (o_il 1 29)) (nd 30 (lf 29 (o_al 0 30)) (lf 30 (o_getf 2 2 33)))) (nd 35 (nd 34 (lf 33 (o_il 1 34)) (lf 34 (o_ic (nI 1) 35))) (nd 36 (lf 35 (o_iadd 36)) (lf 36 (o_al 0 37))))) (nd 45 (nd 41 (nd 40 (lf 37 (o_getf 2 4 40)) (lf 40 (o_il 1 41))) (nd 42 (lf 41 (o_isub 42)) (lf 42 (o_acp 45)))) (nd 49 (nd 46 (lf 45 (o_al 0 46)) (lf 46 (o_getf 2 3 49))) (nd 50 (lf 49 (o_il 1 50)) (lf 50 (o_al 0 51))))))) (nd 76 (nd 62 (nd 56 (nd 54 (lf 51 (o_getf 2 3 54)) (nd 55 (lf 54 (o_il 1 55)) (lf 55 (o_ic (nI 1) 56)))) (nd 58 (nd 57 (lf 56 (o_iadd 57)) (lf 57 (o_al 0 58))) (nd 61 (lf 58 (o_getf 2 4 61)) (lf 61 (o_il 1 62))))) (nd 70 (nd 66 (nd 63 (lf 62 (o_isub 63)) (lf 63 (o_acp 66))) (nd 67 (lf 66 (o_al 0 67)) (lf 67 (o_getf 2 2 70)))) (nd 72 (nd 71 (lf 70 (o_il 1 71)) (lf 71 (o_al 0 72))) (nd 75 (lf 72 (o_getf 2 1 75)) (lf 75 (o_ic (nI 1) 76)))))) (nd 85 (nd 79 (nd 77 (lf 76 (o_isub 77)) (nd 78 (lf 77 (o_iast 78)) (lf 78 (o_al 0 79)))) (nd 83 (nd 82 (lf 79 (o_getf 2 3 82)) (lf 82 (o_il 1 83))) (nd 84 (lf 83 (o_il 2 84)) (lf 84 (o_iast 85))))) (nd 91 (nd 87 (nd 86 (lf 85 (o_al 0 86)) (lf 86 (o_dup 87))) (nd 90 (lf 87 (o_getf 2 4 90)) (lf 90 (o_ic (nI 1) 91)))) (nd 95 (nd 92 (lf 91 (o_iadd 92)) (lf 92 (o_putf 2 4 0 95))) (nd 96 (lf 95 (o_ic (nI 1) 96)) (lf 96 (o_zret))))))))
def k_RK_find : Cd := (nd 9 (nd 3 (nd 1 (lf 0 (o_al 0 1)) (nd 2 (lf 1 (o_al 1 2)) (lf 2 (o_il 2 3)))) (nd 7 (nd 6 (lf 3 (o_invV 39 2 2 6)) (lf 6 (o_is 3 7))) (nd 8 (lf 7 (o_al 0 8)) (lf 8 (o_il 3 9))))) (nd 17 (nd 11 (nd 10 (lf 9 (o_al 1 10)) (lf 10 (o_il 2 11))) (nd 14 (lf 11 (o_invV 40 2 3 14)) (lf 14 (o_ifne 21 17)))) (nd 21 (nd 18 (lf 17 (o_il 3 18)) (lf 18 (o_goto 22))) (nd 22 (lf 21 (o_ic (-1) 22)) (lf 22 (o_iret))))))
def k_RK_firstNotBelow : Cd := (nd 39 (nd 20 (nd 8 (nd 2 (nd 1 (lf 0 (o_ic (nI 0) 1)) (lf 1 (o_is 3 2))) (nd 3 (lf 2 (o_al 0 3)) (nd 6 (lf 3 (o_getf 2 4 6)) (lf 6 (o_is 4 8))))) (nd 13 (nd 9 (lf 8 (o_ic (nI 0) 9)) (nd 11 (lf 9 (o_is 5 11)) (lf 11 (o_il 5 13)))) (nd 16 (lf 13 (o_ic (nI 150) 16)) (nd 19 (lf 16 (o_cgt 80 19)) (lf 19 (o_il 3 20)))))) (nd 29 (nd 25 (nd 22 (lf 20 (o_il 4 22)) (lf 22 (o_cge 80 25))) (nd 26 (lf 25 (o_il 3 26)) (nd 28 (lf 26 (o_il 4 28)) (lf 28 (o_iadd 29))))) (nd 33 (nd 30 (lf 29 (o_ic (nI 1) 30)) (nd 31 (lf 30 (o_ishr 31)) (lf 31 (o_is 6 33)))) (nd 34 (lf 33 (o_al 0 34)) (nd 36 (lf 34 (o_il 6 36)) (lf 36 (o_invV 41 2 1 39))))))) (nd 62 (nd 49 (nd 43 (nd 41 (lf 39 (o_as 7 41)) (lf 41 (o_al 7 43))) (nd 46 (lf 43 (o_ifn 70 46)) (nd 48 (lf 46 (o_al 7 48)) (lf 48 (o_al 0 49))))) (nd 55 (nd 51 (lf 49 (o_il 6 51)) (nd 54 (lf 51 (o_invV 42 2 1 54)) (lf 54 (o_al 1 55)))) (nd 56 (lf 55 (o_il 2 56)) (nd 59 (lf 56 (o_invV 32 1 3 59)) (lf 59 (o_ifge 70 62)))))) (nd 70 (nd 65 (nd 64 (lf 62 (o_il 6 64)) (lf 64 (o_ic (nI 1) 65))) (nd 66 (lf 65 (o_iadd 66)) (nd 67 (lf 66 (o_is 3 67)) (lf 67 (o_goto 74))))) (nd 77 (nd 72 (lf 70 (o_il 6 72)) (nd 74 (lf 72 (o_is 4 74)) (lf 74 (o_inc 5 (nI 1) 77)))) (nd 80 (lf 77 (o_goto 11)) (nd 81 (lf 80 (o_il 3 81)) (lf 81 (o_iret))))))))
def k_RK_orderOf : Cd := (nd 16 (nd 7 (nd 2 (nd 1 (lf 0 (o_al 0 1)) (lf 1 (o_il 1 2))) (nd 5 (lf 2 (o_invV 41 2 1 5)) (lf 5 (o_as 4 7)))) (nd 12 (nd 9 (lf 7 (o_al 4 9)) (lf 9 (o_ifnn 16 12))) (nd 13 (lf 12 (o_ic (nI 1) 13)) (lf 13 (o_goto 28))))) (nd 23 (nd 19 (nd 18 (lf 16 (o_al 4 18)) (lf 18 (o_al 0 19))) (nd 20 (lf 19 (o_il 1 20)) (lf 20 (o_invV 42 2 1 23)))) (nd 25 (nd 24 (lf 23 (o_al 2 24)) (lf 24 (o_il 3 25))) (nd 28 (lf 25 (o_invV 32 1 3 28)) (lf 28 (o_iret))))))
def k_RK_poolOf : Cd := (nd 27 (nd 13 (nd 5 (nd 1 (lf 0 (o_il 1 1)) (nd 4 (lf 1 (o_iflt 19 4)) (lf 4 (o_il 1 5)))) (nd 9 (nd 6 (lf 5 (o_al 0 6)) (lf 6 (o_getf 2 4 9))) (nd 12 (lf 9 (o_cge 19 12)) (lf 12 (o_il 1 13))))) (nd 21 (nd 19 (nd 16 (lf 13 (o_ic (nI 150) 16)) (lf 16 (o_clt 21 19))) (nd 20 (lf 19 (o_nul 20)) (lf 20 (o_aret)))) (nd 25 (nd 22 (lf 21 (o_al 0 22)) (lf 22 (o_getf 2 2 25))) (nd 26 (lf 25 (o_il 1 26)) (lf 26 (o_iald 1 27)))))) (nd 38 (nd 32 (nd 28 (lf 27 (o_is 2 28)) (nd 29 (lf 28 (o_il 2 29)) (lf 29 (o_iflt 50 32)))) (nd 34 (nd 33 (lf 32 (o_il 2 33)) (lf 33 (o_al 0 34))) (nd 37 (lf 34 (o_getf 2 0 37)) (lf 37 (o_alen 38))))) (nd 46 (nd 42 (nd 41 (lf 38 (o_cge 50 41)) (lf 41 (o_al 0 42))) (nd 45 (lf 42 (o_getf 2 0 45)) (lf 45 (o_il 2 46)))) (nd 50 (nd 47 (lf 46 (o_aald 47)) (lf 47 (o_goto 51))) (nd 51 (lf 50 (o_nul 51)) (lf 51 (o_aret)))))))
def k_RK_placeOf : Cd := (nd 16 (nd 6 (nd 4 (nd 1 (lf 0 (o_il 1 1)) (lf 1 (o_iflt 28 4))) (nd 5 (lf 4 (o_il 1 5)) (lf 5 (o_al 0 6)))) (nd 12 (nd 9 (lf 6 (o_getf 2 4 9)) (lf 9 (o_cge 28 12))) (nd 13 (lf 12 (o_il 1 13)) (lf 13 (o_ic (nI 150) 16))))) (nd 24 (nd 20 (nd 19 (lf 16 (o_cge 28 19)) (lf 19 (o_al 0 20))) (nd 23 (lf 20 (o_getf 2 3 23)) (lf 23 (o_il 1 24)))) (nd 28 (nd 25 (lf 24 (o_iald 1 25)) (lf 25 (o_goto 29))) (nd 29 (lf 28 (o_ic (nI 0) 29)) (lf 29 (o_iret))))))
def k_RK_tag : Cd := (nd 11 (nd 5 (nd 1 (lf 0 (o_al 0 1)) (nd 2 (lf 1 (o_il 1 2)) (lf 2 (o_invV 41 2 1 5)))) (nd 7 (nd 6 (lf 5 (o_as 2 6)) (lf 6 (o_al 2 7))) (nd 10 (lf 7 (o_ifnn 14 10)) (lf 10 (o_ic (nI 0) 11))))) (nd 16 (nd 14 (lf 11 (o_goto 23)) (nd 15 (lf 14 (o_al 2 15)) (lf 15 (o_al 0 16)))) (nd 20 (nd 17 (lf 16 (o_il 1 17)) (lf 17 (o_invV 42 2 1 20))) (nd 23 (lf 20 (o_invV 22 1 1 23)) (lf 23 (o_iret))))))
def k_RK_tally : Cd := (nd 15 (nd 5 (nd 2 (nd 1 (lf 0 (o_ic (nI 0) 1)) (lf 1 (o_is 3 2))) (nd 3 (lf 2 (o_ic (nI 1) 3)) (lf 3 (o_is 4 5)))) (nd 8 (nd 7 (lf 5 (o_il 4 7)) (lf 7 (o_al 2 8))) (nd 11 (lf 8 (o_invV 16 1 0 11)) (nd 14 (lf 11 (o_cge 34 14)) (lf 14 (o_al 0 15)))))) (nd 25 (nd 17 (nd 16 (lf 15 (o_il 1 16)) (lf 16 (o_al 2 17))) (nd 19 (lf 17 (o_il 4 19)) (nd 22 (lf 19 (o_invV 40 2 3 22)) (lf 22 (o_ifne 28 25))))) (nd 31 (nd 28 (lf 25 (o_inc 3 (nI 1) 28)) (lf 28 (o_inc 4 (nI 1) 31))) (nd 34 (lf 31 (o_goto 5)) (nd 35 (lf 34 (o_il 3 35)) (lf 35 (o_iret)))))))
def k_RD_init : Cd := (nd 15 (nd 6 (nd 4 (nd 1 (lf 0 (o_al 0 1)) (lf 1 (o_pop0 4))) (nd 5 (lf 4 (o_al 0 5)) (lf 5 (o_ic (nI 0) 6)))) (nd 10 (nd 9 (lf 6 (o_putf 3 0 0 9)) (lf 9 (o_al 0 10))) (nd 11 (lf 10 (o_ic (-1) 11)) (nd 14 (lf 11 (o_putf 3 1 0 14)) (lf 14 (o_al 0 15)))))) (nd 24 (nd 19 (nd 16 (lf 15 (o_ic (nI 0) 16)) (lf 16 (o_putf 3 4 0 19))) (nd 20 (lf 19 (o_al 0 20)) (nd 21 (lf 20 (o_al 1 21)) (lf 21 (o_putf 3 2 2 24))))) (nd 26 (nd 25 (lf 24 (o_al 0 25)) (lf 25 (o_al 1 26))) (nd 29 (lf 26 (o_getf 0 1 29)) (nd 32 (lf 29 (o_putf 3 3 2 32)) (lf 32 (o_vret)))))))
def k_RD_fail : Cd := (nd 9 (nd 4 (nd 1 (lf 0 (o_al 0 1)) (lf 1 (o_getf 3 0 4))) (nd 7 (lf 4 (o_ifne 17 7)) (nd 8 (lf 7 (o_al 0 8)) (lf 8 (o_il 1 9))))) (nd 13 (nd 12 (lf 9 (o_putf 3 0 0 12)) (lf 12 (o_al 0 13))) (nd 14 (lf 13 (o_il 2 14)) (nd 17 (lf 14 (o_putf 3 1 0 17)) (lf 17 (o_vret))))))
def k_RD_scan : Cd := (nd 57 (nd 29 (nd 13 (nd 5 (nd 1 (lf 0 (o_al 0 1)) (nd 4 (lf 1 (o_invV 52 3 0 4)) (lf 4 (o_al 0 5)))) (nd 9 (nd 6 (lf 5 (o_ic (nI 4) 6)) (lf 6 (o_invV 48 3 1 9))) (nd 10 (lf 9 (o_al 0 10)) (lf 10 (o_invV 53 3 0 13))))) (nd 21 (nd 17 (nd 14 (lf 13 (o_al 0 14)) (lf 14 (o_getf 3 2 17))) (nd 18 (lf 17 (o_al 0 18)) (lf 18 (o_getf 3 4 21)))) (nd 25 (nd 24 (lf 21 (o_putf 0 2 0 24)) (lf 24 (o_al 0 25))) (nd 26 (lf 25 (o_ic (nI 2) 26)) (lf 26 (o_invV 48 3 1 29)))))) (nd 45 (nd 36 (nd 32 (nd 30 (lf 29 (o_al 0 30)) (lf 30 (o_ic (nI 7) 32))) (nd 35 (lf 32 (o_invV 49 3 1 35)) (lf 35 (o_al 0 36)))) (nd 40 (nd 39 (lf 36 (o_invV 55 3 0 39)) (lf 39 (o_al 0 40))) (nd 42 (lf 40 (o_ic (nI 8) 42)) (lf 42 (o_invV 51 3 1 45))))) (nd 49 (nd 47 (nd 46 (lf 45 (o_is 1 46)) (lf 46 (o_ic (nI 0) 47))) (nd 48 (lf 47 (o_is 2 48)) (lf 48 (o_il 2 49)))) (nd 53 (nd 50 (lf 49 (o_il 1 50)) (lf 50 (o_cge 72 53))) (nd 54 (lf 53 (o_al 0 54)) (lf 54 (o_getf 3 0 57))))))) (nd 87 (nd 73 (nd 63 (nd 60 (lf 57 (o_ifne 72 60)) (nd 61 (lf 60 (o_al 0 61)) (lf 61 (o_ic (nI 7) 63)))) (nd 69 (nd 66 (lf 63 (o_invV 49 3 1 66)) (lf 66 (o_inc 2 (nI 1) 69))) (nd 72 (lf 69 (o_goto 48)) (lf 72 (o_al 0 73))))) (nd 79 (nd 77 (nd 74 (lf 73 (o_ic (nI 0) 74)) (lf 74 (o_invV 56 3 1 77))) (nd 78 (lf 77 (o_al 0 78)) (lf 78 (o_ic (nI 1) 79)))) (nd 83 (nd 82 (lf 79 (o_invV 56 3 1 82)) (lf 82 (o_al 0 83))) (nd 86 (lf 83 (o_getf 3 2 86)) (lf 86 (o_al 0 87)))))) (nd 105 (nd 97 (nd 93 (nd 90 (lf 87 (o_getf 3 4 90)) (lf 90 (o_putf 0 3 0 93))) (nd 94 (lf 93 (o_al 0 94)) (lf 94 (o_invV 57 3 0 97)))) (nd 101 (nd 98 (lf 97 (o_al 0 98)) (lf 98 (o_getf 3 4 101))) (nd 102 (lf 101 (o_al 0 102)) (lf 102 (o_getf 3 3 105))))) (nd 114 (nd 111 (nd 108 (lf 105 (o_invV 61 4 0 108)) (lf 108 (o_cge 121 111))) (nd 112 (lf 111 (o_al 0 112)) (lf 112 (o_ic (nI 6) 114)))) (nd 118 (nd 115 (lf 114 (o_al 0 115)) (lf 115 (o_getf 3 4 118))) (nd 121 (lf 118 (o_invV 46 3 2 121)) (lf 121 (o_vret))))))))
def k_RD_skip : Cd := (nd 24 (nd 12 (nd 7 (nd 1 (lf 0 (o_al 0 1)) (nd 4 (lf 1 (o_getf 3 0 4)) (lf 4 (o_ifeq 8 7)))) (nd 8 (lf 7 (o_vret)) (nd 9 (lf 8 (o_al 0 9)) (lf 9 (o_getf 3 3 12))))) (nd 17 (nd 13 (lf 12 (o_al 0 13)) (nd 16 (lf 13 (o_getf 3 4 16)) (lf 16 (o_il 1 17)))) (nd 20 (lf 17 (o_invV 62 4 2 20)) (nd 23 (lf 20 (o_ifeq 36 23)) (lf 23 (o_al 0 24)))))) (nd 36 (nd 29 (nd 25 (lf 24 (o_dup 25)) (nd 28 (lf 25 (o_getf 3 4 28)) (lf 28 (o_il 1 29)))) (nd 30 (lf 29 (o_iadd 30)) (nd 33 (lf 30 (o_putf 3 4 0 33)) (lf 33 (o_goto 48))))) (nd 39 (nd 37 (lf 36 (o_al 0 37)) (nd 38 (lf 37 (o_ic (nI 1) 38)) (lf 38 (o_al 0 39)))) (nd 45 (nd 42 (lf 39 (o_getf 3 3 42)) (lf 42 (o_invV 61 4 0 45))) (nd 48 (lf 45 (o_invV 46 3 2 48)) (lf 48 (o_vret)))))))
def k_RD_tell : Cd := (nd 11 (nd 5 (nd 1 (lf 0 (o_al 0 1)) (nd 4 (lf 1 (o_getf 3 4 4)) (lf 4 (o_is 2 5)))) (nd 7 (nd 6 (lf 5 (o_al 0 6)) (lf 6 (o_ic (nI 2) 7))) (nd 10 (lf 7 (o_invV 48 3 1 10)) (lf 10 (o_al 0 11))))) (nd 21 (nd 17 (nd 14 (lf 11 (o_getf 3 0 14)) (lf 14 (o_ifne 26 17))) (nd 18 (lf 17 (o_al 0 18)) (lf 18 (o_getf 3 2 21)))) (nd 23 (nd 22 (lf 21 (o_il 2 22)) (lf 22 (o_il 1 23))) (nd 26 (lf 23 (o_invV 2 0 2 26)) (lf 26 (o_vret))))))
def k_RD_two : Cd := (nd 14 (nd 6 (nd 4 (nd 1 (lf 0 (o_al 0 1)) (lf 1 (o_getf 3 4 4))) (nd 5 (lf 4 (o_is 1 5)) (lf 5 (o_al 0 6)))) (nd 10 (nd 7 (lf 6 (o_ic (nI 2) 7)) (lf 7 (o_invV 48 3 1 10))) (nd 11 (lf 10 (o_al 0 11)) (lf 11 (o_getf 3 0 14))))) (nd 22 (nd 18 (nd 17 (lf 14 (o_ifne 28 17)) (lf 17 (o_al 0 18))) (nd 21 (lf 18 (o_getf 3 3 21)) (lf 21 (o_il 1 22)))) (nd 28 (nd 25 (lf 22 (o_invV 64 4 1 25)) (lf 25 (o_goto 29))) (nd 29 (lf 28 (o_ic (nI 0) 29)) (lf 29 (o_iret))))))
def k_RD_many : Cd := (nd 20 (nd 10 (nd 5 (nd 1 (lf 0 (o_al 0 1)) (nd 4 (lf 1 (o_getf 3 4 4)) (lf 4 (o_is 2 5)))) (nd 6 (lf 5 (o_al 0 6)) (nd 7 (lf 6 (o_ic (nI 2) 7)) (lf 7 (o_invV 48 3 1 10))))) (nd 15 (nd 11 (lf 10 (o_al 0 11)) (nd 14 (lf 11 (o_getf 3 3 14)) (lf 14 (o_il 2 15)))) (nd 18 (lf 15 (o_invV 64 4 1 18)) (nd 19 (lf 18 (o_is 3 19)) (lf 19 (o_il 3 20)))))) (nd 30 (nd 25 (nd 21 (lf 20 (o_il 1 21)) (nd 24 (lf 21 (o_cle 30 24)) (lf 24 (o_al 0 25)))) (nd 26 (lf 25 (o_ic (nI 3) 26)) (nd 27 (lf 26 (o_il 2 27)) (lf 27 (o_invV 46 3 2 30))))) (nd 37 (nd 31 (lf 30 (o_al 0 31)) (nd 34 (lf 31 (o_getf 3 0 34)) (lf 34 (o_ifne 41 37)))) (nd 41 (nd 38 (lf 37 (o_il 3 38)) (lf 38 (o_goto 42))) (nd 42 (lf 41 (o_ic (nI 0) 42)) (lf 42 (o_iret)))))))
def k_RD_magic : Cd := (nd 24 (nd 9 (nd 3 (nd 1 (lf 0 (o_ic (nI 0) 1)) (nd 2 (lf 1 (o_is 1 2)) (lf 2 (o_il 1 3)))) (nd 7 (nd 4 (lf 3 (o_ic (nI 4) 4)) (lf 4 (o_cge 49 7))) (nd 8 (lf 7 (o_al 0 8)) (lf 8 (o_ic (nI 1) 9))))) (nd 16 (nd 12 (lf 9 (o_invV 48 3 1 12)) (nd 13 (lf 12 (o_al 0 13)) (lf 13 (o_getf 3 3 16)))) (nd 20 (nd 17 (lf 16 (o_il 1 17)) (lf 17 (o_invV 63 4 1 20))) (nd 22 (lf 20 (o_ic (-889275714) 22)) (lf 22 (o_ic (nI 24) 24)))))) (nd 34 (nd 28 (nd 26 (lf 24 (o_ic (nI 8) 26)) (nd 27 (lf 26 (o_il 1 27)) (lf 27 (o_imul 28)))) (nd 30 (nd 29 (lf 28 (o_isub 29)) (lf 29 (o_ishr 30))) (nd 33 (lf 30 (o_ic (nI 255) 33)) (lf 33 (o_iand 34))))) (nd 40 (nd 38 (nd 37 (lf 34 (o_ceq 43 37)) (lf 37 (o_al 0 38))) (nd 39 (lf 38 (o_ic (nI 2) 39)) (lf 39 (o_il 1 40)))) (nd 46 (nd 43 (lf 40 (o_invV 46 3 2 43)) (lf 43 (o_inc 1 (nI 1) 46))) (nd 49 (lf 46 (o_goto 2)) (lf 49 (o_vret)))))))
def k_RD_entries : Cd := (nd 51 (nd 23 (nd 12 (nd 5 (nd 1 (lf 0 (o_al 0 1)) (nd 4 (lf 1 (o_getf 3 4 4)) (lf 4 (o_is 1 5)))) (nd 8 (nd 6 (lf 5 (o_al 0 6)) (lf 6 (o_ic (nI 61) 8))) (nd 11 (lf 8 (o_invV 51 3 1 11)) (lf 11 (o_is 2 12))))) (nd 17 (nd 13 (lf 12 (o_il 2 13)) (nd 16 (lf 13 (o_ifne 22 16)) (lf 16 (o_al 0 17)))) (nd 19 (nd 18 (lf 17 (o_ic (nI 3) 18)) (lf 18 (o_il 1 19))) (nd 22 (lf 19 (o_invV 46 3 2 22)) (lf 22 (o_al 0 23)))))) (nd 36 (nd 30 (nd 26 (lf 23 (o_getf 3 2 26)) (nd 29 (lf 26 (o_getf 0 0 29)) (lf 29 (o_il 2 30)))) (nd 34 (nd 33 (lf 30 (o_invV 18 1 1 33)) (lf 33 (o_ic (nI 1) 34))) (nd 35 (lf 34 (o_is 3 35)) (lf 35 (o_il 3 36))))) (nd 41 (nd 37 (lf 36 (o_il 2 37)) (nd 40 (lf 37 (o_cge 108 40)) (lf 40 (o_al 0 41)))) (nd 47 (nd 44 (lf 41 (o_getf 3 0 44)) (lf 44 (o_ifne 108 47))) (nd 48 (lf 47 (o_al 0 48)) (lf 48 (o_getf 3 2 51))))))) (nd 78 (nd 66 (nd 56 (nd 54 (lf 51 (o_getf 0 0 54)) (nd 55 (lf 54 (o_il 3 55)) (lf 55 (o_al 0 56)))) (nd 62 (nd 59 (lf 56 (o_getf 3 4 59)) (lf 59 (o_invV 19 1 2 62))) (nd 63 (lf 62 (o_al 0 63)) (lf 63 (o_getf 3 3 66))))) (nd 73 (nd 67 (lf 66 (o_al 0 67)) (nd 70 (lf 67 (o_getf 3 4 70)) (lf 70 (o_invV 63 4 1 73)))) (nd 76 (nd 75 (lf 73 (o_is 4 75)) (lf 75 (o_al 0 76))) (nd 77 (lf 76 (o_il 3 77)) (lf 77 (o_il 2 78)))))) (nd 91 (nd 83 (nd 79 (lf 78 (o_ic (nI 1) 79)) (nd 80 (lf 79 (o_isub 80)) (lf 80 (o_cne 87 83)))) (nd 87 (nd 84 (lf 83 (o_ic (nI 1) 84)) (lf 84 (o_goto 88))) (nd 88 (lf 87 (o_ic (nI 0) 88)) (lf 88 (o_invV 54 3 1 91))))) (nd 99 (nd 93 (lf 91 (o_il 4 93)) (nd 96 (lf 93 (o_inv 110 1 96)) (lf 96 (o_ifeq 102 99)))) (nd 105 (nd 102 (lf 99 (o_inc 3 (nI 1) 102)) (lf 102 (o_inc 3 (nI 1) 105))) (nd 108 (lf 105 (o_goto 35)) (lf 108 (o_vret))))))))
def k_RD_anEntry : Cd := (nd 69 (nd 31 (nd 14 (nd 6 (nd 4 (nd 1 (lf 0 (o_al 0 1)) (lf 1 (o_getf 3 4 4))) (nd 5 (lf 4 (o_is 2 5)) (lf 5 (o_al 0 6)))) (nd 10 (nd 7 (lf 6 (o_ic (nI 1) 7)) (lf 7 (o_invV 48 3 1 10))) (nd 11 (lf 10 (o_al 0 11)) (lf 11 (o_getf 3 3 14))))) (nd 20 (nd 18 (nd 15 (lf 14 (o_il 2 15)) (lf 15 (o_invV 63 4 1 18))) (nd 19 (lf 18 (o_is 3 19)) (lf 19 (o_il 3 20)))) (nd 26 (nd 23 (lf 20 (o_inv 111 1 23)) (lf 23 (o_ifeq 37 26))) (nd 27 (lf 26 (o_il 1 27)) (nd 30 (lf 27 (o_ifeq 46 30)) (lf 30 (o_il 3 31))))))) (nd 48 (nd 39 (nd 37 (nd 34 (lf 31 (o_inv 110 1 34)) (lf 34 (o_ifeq 46 37))) (nd 38 (lf 37 (o_al 0 38)) (lf 38 (o_ic (nI 4) 39)))) (nd 43 (nd 40 (lf 39 (o_il 2 40)) (lf 40 (o_invV 46 3 2 43))) (nd 46 (lf 43 (o_goto 141)) (nd 47 (lf 46 (o_il 3 47)) (lf 47 (o_ic (nI 1) 48)))))) (nd 56 (nd 52 (nd 51 (lf 48 (o_cne 62 51)) (lf 51 (o_al 0 52))) (nd 53 (lf 52 (o_al 0 53)) (lf 53 (o_invV 50 3 0 56)))) (nd 62 (nd 59 (lf 56 (o_invV 48 3 1 59)) (lf 59 (o_goto 141))) (nd 63 (lf 62 (o_il 3 63)) (nd 66 (lf 63 (o_inv 109 1 66)) (lf 66 (o_ifeq 89 69)))))))) (nd 106 (nd 89 (nd 77 (nd 71 (nd 70 (lf 69 (o_al 0 70)) (lf 70 (o_il 3 71))) (nd 74 (lf 71 (o_inv 110 1 74)) (lf 74 (o_ifeq 82 77)))) (nd 82 (nd 79 (lf 77 (o_ic (nI 8) 79)) (lf 79 (o_goto 83))) (nd 83 (lf 82 (o_ic (nI 4) 83)) (nd 86 (lf 83 (o_invV 48 3 1 86)) (lf 86 (o_goto 141)))))) (nd 96 (nd 92 (nd 90 (lf 89 (o_il 3 90)) (lf 90 (o_ic (nI 7) 92))) (nd 95 (lf 92 (o_ceq 101 95)) (lf 95 (o_il 3 96)))) (nd 101 (nd 98 (lf 96 (o_ic (nI 8) 98)) (lf 98 (o_cne 109 101))) (nd 102 (lf 101 (o_al 0 102)) (nd 103 (lf 102 (o_ic (nI 1) 103)) (lf 103 (o_invV 49 3 1 106))))))) (nd 125 (nd 113 (nd 110 (nd 109 (lf 106 (o_goto 141)) (lf 109 (o_al 0 110))) (nd 111 (lf 110 (o_il 3 111)) (lf 111 (o_ic (nI 12) 113)))) (nd 117 (nd 116 (lf 113 (o_cne 120 116)) (lf 116 (o_ic (nI 1) 117))) (nd 120 (lf 117 (o_goto 122)) (nd 122 (lf 120 (o_ic (nI 7) 122)) (lf 122 (o_invV 49 3 1 125)))))) (nd 132 (nd 127 (nd 126 (lf 125 (o_al 0 126)) (lf 126 (o_il 3 127))) (nd 129 (lf 127 (o_ic (nI 12) 129)) (lf 129 (o_cne 136 132)))) (nd 136 (nd 133 (lf 132 (o_ic (nI 1) 133)) (lf 133 (o_goto 138))) (nd 138 (lf 136 (o_ic (nI 12) 138)) (nd 141 (lf 138 (o_invV 49 3 1 141)) (lf 141 (o_vret)))))))))
def k_RD_classAbove : Cd := (nd 15 (nd 5 (nd 1 (lf 0 (o_al 0 1)) (nd 4 (lf 1 (o_getf 3 3 4)) (lf 4 (o_al 0 5)))) (nd 11 (nd 8 (lf 5 (o_getf 3 4 8)) (lf 8 (o_invV 64 4 1 11))) (nd 14 (lf 11 (o_ifne 22 14)) (lf 14 (o_al 0 15))))) (nd 22 (nd 16 (lf 15 (o_ic (nI 2) 16)) (nd 19 (lf 16 (o_invV 48 3 1 19)) (lf 19 (o_goto 28)))) (nd 25 (nd 23 (lf 22 (o_al 0 23)) (lf 23 (o_ic (nI 7) 25))) (nd 28 (lf 25 (o_invV 49 3 1 28)) (lf 28 (o_vret))))))
def k_RD_members : Cd := (nd 27 (nd 11 (nd 7 (nd 3 (nd 1 (lf 0 (o_al 0 1)) (lf 1 (o_ic (nI 12) 3))) (nd 6 (lf 3 (o_invV 51 3 1 6)) (lf 6 (o_is 2 7)))) (nd 9 (nd 8 (lf 7 (o_ic (nI 0) 8)) (lf 8 (o_is 3 9))) (nd 10 (lf 9 (o_il 3 10)) (lf 10 (o_il 2 11))))) (nd 21 (nd 15 (nd 14 (lf 11 (o_cge 58 14)) (lf 14 (o_al 0 15))) (nd 18 (lf 15 (o_getf 3 0 18)) (lf 18 (o_ifne 58 21)))) (nd 25 (nd 22 (lf 21 (o_al 0 22)) (lf 22 (o_getf 3 2 25))) (nd 26 (lf 25 (o_il 1 26)) (lf 26 (o_al 0 27)))))) (nd 43 (nd 35 (nd 33 (nd 30 (lf 27 (o_getf 3 4 30)) (lf 30 (o_invV 7 0 2 33))) (nd 34 (lf 33 (o_al 0 34)) (lf 34 (o_ic (nI 2) 35)))) (nd 39 (nd 38 (lf 35 (o_invV 48 3 1 38)) (lf 38 (o_al 0 39))) (nd 40 (lf 39 (o_ic (nI 1) 40)) (lf 40 (o_invV 49 3 1 43))))) (nd 49 (nd 45 (nd 44 (lf 43 (o_al 0 44)) (lf 44 (o_ic (nI 1) 45))) (nd 48 (lf 45 (o_invV 49 3 1 48)) (lf 48 (o_al 0 49)))) (nd 55 (nd 52 (lf 49 (o_invV 57 3 0 52)) (lf 52 (o_inc 3 (nI 1) 55))) (nd 58 (lf 55 (o_goto 9)) (lf 58 (o_vret)))))))
def k_RD_attributes : Cd := (nd 36 (nd 15 (nd 8 (nd 3 (nd 1 (lf 0 (o_al 0 1)) (lf 1 (o_ic (nI 6) 3))) (nd 6 (lf 3 (o_invV 51 3 1 6)) (nd 7 (lf 6 (o_is 1 7)) (lf 7 (o_ic (nI 0) 8))))) (nd 10 (nd 9 (lf 8 (o_is 2 9)) (lf 9 (o_il 2 10))) (nd 11 (lf 10 (o_il 1 11)) (nd 14 (lf 11 (o_cge 80 14)) (lf 14 (o_al 0 15)))))) (nd 26 (nd 21 (nd 18 (lf 15 (o_getf 3 0 18)) (lf 18 (o_ifne 80 21))) (nd 22 (lf 21 (o_al 0 22)) (nd 23 (lf 22 (o_ic (nI 1) 23)) (lf 23 (o_invV 49 3 1 26))))) (nd 31 (nd 27 (lf 26 (o_al 0 27)) (nd 30 (lf 27 (o_getf 3 4 30)) (lf 30 (o_is 3 31)))) (nd 32 (lf 31 (o_al 0 32)) (nd 33 (lf 32 (o_ic (nI 4) 33)) (lf 33 (o_invV 48 3 1 36))))))) (nd 59 (nd 47 (nd 40 (nd 37 (lf 36 (o_al 0 37)) (lf 37 (o_getf 3 0 40))) (nd 43 (lf 40 (o_ifne 54 43)) (nd 44 (lf 43 (o_al 0 44)) (lf 44 (o_getf 3 3 47))))) (nd 54 (nd 48 (lf 47 (o_il 3 48)) (nd 51 (lf 48 (o_invV 65 4 1 51)) (lf 51 (o_goto 55)))) (nd 55 (lf 54 (o_ic (nI 0) 55)) (nd 57 (lf 55 (o_is 4 57)) (lf 57 (o_il 4 59)))))) (nd 68 (nd 63 (nd 62 (lf 59 (o_ifge 68 62)) (lf 62 (o_al 0 63))) (nd 64 (lf 63 (o_ic (nI 5) 64)) (nd 65 (lf 64 (o_il 3 65)) (lf 65 (o_invV 46 3 2 68))))) (nd 74 (nd 69 (lf 68 (o_al 0 69)) (nd 71 (lf 69 (o_il 4 71)) (lf 71 (o_invV 48 3 1 74)))) (nd 77 (lf 74 (o_inc 2 (nI 1) 77)) (nd 80 (lf 77 (o_goto 9)) (lf 80 (o_vret))))))))
def k_RD_checkTells : Cd := (nd 36 (nd 17 (nd 4 (nd 2 (nd 1 (lf 0 (o_ic (nI 0) 1)) (lf 1 (o_is 1 2))) (nd 3 (lf 2 (o_il 1 3)) (lf 3 (o_al 0 4)))) (nd 10 (nd 7 (lf 4 (o_getf 3 2 7)) (lf 7 (o_invV 3 0 0 10))) (nd 13 (lf 10 (o_cge 72 13)) (nd 14 (lf 13 (o_al 0 14)) (lf 14 (o_getf 3 0 17)))))) (nd 25 (nd 21 (nd 20 (lf 17 (o_ifne 72 20)) (lf 20 (o_al 0 21))) (nd 24 (lf 21 (o_getf 3 2 24)) (lf 24 (o_il 1 25)))) (nd 29 (nd 28 (lf 25 (o_invV 4 0 1 28)) (lf 28 (o_is 2 29))) (nd 30 (lf 29 (o_al 0 30)) (nd 33 (lf 30 (o_getf 3 2 33)) (lf 33 (o_getf 0 0 36))))))) (nd 55 (nd 44 (nd 40 (nd 37 (lf 36 (o_al 0 37)) (lf 37 (o_getf 3 3 40))) (nd 41 (lf 40 (o_il 2 41)) (lf 41 (o_invV 64 4 1 44)))) (nd 48 (nd 45 (lf 44 (o_al 0 45)) (lf 45 (o_getf 3 2 48))) (nd 49 (lf 48 (o_il 1 49)) (nd 52 (lf 49 (o_invV 5 0 1 52)) (lf 52 (o_invV 30 1 2 55)))))) (nd 62 (nd 57 (nd 56 (lf 55 (o_is 3 56)) (lf 56 (o_il 3 57))) (nd 60 (lf 57 (o_ifeq 66 60)) (nd 61 (lf 60 (o_al 0 61)) (lf 61 (o_il 3 62))))) (nd 66 (nd 63 (lf 62 (o_il 2 63)) (lf 63 (o_invV 46 3 2 66))) (nd 69 (lf 66 (o_inc 1 (nI 1) 69)) (nd 72 (lf 69 (o_goto 2)) (lf 72 (o_vret))))))))
def k_RD_checkSorts : Cd := (nd 57 (nd 27 (nd 11 (nd 3 (nd 1 (lf 0 (o_ic (nI 0) 1)) (nd 2 (lf 1 (o_is 2 2)) (lf 2 (o_il 2 3)))) (nd 7 (nd 4 (lf 3 (o_al 0 4)) (lf 4 (o_getf 3 2 7))) (nd 8 (lf 7 (o_il 1 8)) (lf 8 (o_invV 8 0 1 11))))) (nd 21 (nd 15 (nd 14 (lf 11 (o_cge 123 14)) (lf 14 (o_al 0 15))) (nd 18 (lf 15 (o_getf 3 0 18)) (lf 18 (o_ifne 123 21)))) (nd 25 (nd 22 (lf 21 (o_al 0 22)) (lf 22 (o_getf 3 2 25))) (nd 26 (lf 25 (o_il 1 26)) (lf 26 (o_il 2 27)))))) (nd 38 (nd 32 (nd 30 (lf 27 (o_invV 9 0 2 30)) (nd 31 (lf 30 (o_ic (nI 4) 31)) (lf 31 (o_iadd 32)))) (nd 34 (nd 33 (lf 32 (o_is 3 33)) (lf 33 (o_al 0 34))) (nd 37 (lf 34 (o_getf 3 3 37)) (lf 37 (o_il 3 38))))) (nd 47 (nd 43 (nd 41 (lf 38 (o_invV 64 4 1 41)) (lf 41 (o_is 4 43))) (nd 44 (lf 43 (o_al 0 44)) (lf 44 (o_getf 3 2 47)))) (nd 52 (nd 50 (lf 47 (o_getf 0 0 50)) (lf 50 (o_il 4 52))) (nd 55 (lf 52 (o_invV 26 1 1 55)) (lf 55 (o_is 5 57))))))) (nd 89 (nd 72 (nd 63 (nd 59 (lf 57 (o_il 5 59)) (nd 60 (lf 59 (o_al 0 60)) (lf 60 (o_getf 3 2 63)))) (nd 68 (nd 66 (lf 63 (o_getf 0 0 66)) (lf 66 (o_il 4 68))) (nd 71 (lf 68 (o_invV 27 1 1 71)) (lf 71 (o_iadd 72))))) (nd 79 (nd 75 (nd 74 (lf 72 (o_is 6 74)) (lf 74 (o_il 1 75))) (nd 78 (lf 75 (o_ifne 92 78)) (lf 78 (o_al 0 79)))) (nd 84 (nd 82 (lf 79 (o_getf 3 3 82)) (lf 82 (o_il 5 84))) (nd 86 (lf 84 (o_il 6 86)) (lf 86 (o_inv 73 3 89)))))) (nd 107 (nd 98 (nd 93 (nd 92 (lf 89 (o_goto 103)) (lf 92 (o_al 0 93))) (nd 96 (lf 93 (o_getf 3 3 96)) (lf 96 (o_il 5 98)))) (nd 103 (nd 100 (lf 98 (o_il 6 100)) (lf 100 (o_inv 74 3 103))) (nd 105 (lf 103 (o_is 7 105)) (lf 105 (o_il 7 107))))) (nd 114 (nd 111 (nd 110 (lf 107 (o_ifne 117 110)) (lf 110 (o_al 0 111))) (nd 113 (lf 111 (o_ic (nI 10) 113)) (lf 113 (o_il 3 114)))) (nd 120 (nd 117 (lf 114 (o_invV 46 3 2 117)) (lf 117 (o_inc 2 (nI 1) 120))) (nd 123 (lf 120 (o_goto 2)) (lf 123 (o_vret))))))))
def k_RW_init : Cd := (nd 10 (nd 4 (nd 1 (lf 0 (o_al 0 1)) (lf 1 (o_pop0 4))) (nd 5 (lf 4 (o_al 0 5)) (nd 8 (lf 5 (o_ic (nI 400) 8)) (lf 8 (o_newi 0 10))))) (nd 14 (nd 13 (lf 10 (o_putf 4 0 2 13)) (lf 13 (o_al 0 14))) (nd 15 (lf 14 (o_ic (nI 0) 15)) (nd 18 (lf 15 (o_putf 4 1 0 18)) (lf 18 (o_vret))))))
def k_RW_size : Cd := (nd 1 (lf 0 (o_al 0 1)) (nd 4 (lf 1 (o_getf 4 1 4)) (lf 4 (o_iret))))
def k_RW_has : Cd := (nd 17 (nd 8 (nd 4 (nd 1 (lf 0 (o_il 1 1)) (lf 1 (o_iflt 30 4))) (nd 5 (lf 4 (o_il 2 5)) (lf 5 (o_iflt 30 8)))) (nd 10 (nd 9 (lf 8 (o_il 1 9)) (lf 9 (o_al 0 10))) (nd 13 (lf 10 (o_getf 4 1 13)) (nd 16 (lf 13 (o_cgt 30 16)) (lf 16 (o_il 2 17)))))) (nd 23 (nd 21 (nd 18 (lf 17 (o_al 0 18)) (lf 18 (o_getf 4 1 21))) (nd 22 (lf 21 (o_il 1 22)) (lf 22 (o_isub 23)))) (nd 27 (nd 26 (lf 23 (o_cgt 30 26)) (lf 26 (o_ic (nI 1) 27))) (nd 30 (lf 27 (o_goto 31)) (nd 31 (lf 30 (o_ic (nI 0) 31)) (lf 31 (o_zret)))))))
def k_RW_one : Cd := (nd 18 (nd 9 (nd 4 (nd 1 (lf 0 (o_il 1 1)) (lf 1 (o_iflt 34 4))) (nd 5 (lf 4 (o_il 1 5)) (nd 6 (lf 5 (o_al 0 6)) (lf 6 (o_getf 4 1 9))))) (nd 13 (nd 12 (lf 9 (o_cge 34 12)) (lf 12 (o_il 1 13))) (nd 14 (lf 13 (o_al 0 14)) (nd 17 (lf 14 (o_getf 4 0 17)) (lf 17 (o_alen 18)))))) (nd 27 (nd 22 (nd 21 (lf 18 (o_cge 34 21)) (lf 21 (o_al 0 22))) (nd 25 (lf 22 (o_getf 4 0 25)) (nd 26 (lf 25 (o_il 1 26)) (lf 26 (o_iald 0 27))))) (nd 31 (nd 30 (lf 27 (o_ic (nI 255) 30)) (lf 30 (o_iand 31))) (nd 34 (lf 31 (o_goto 35)) (nd 35 (lf 34 (o_ic (nI 0) 35)) (lf 35 (o_iret)))))))
def k_RW_two : Cd := (nd 27 (nd 14 (nd 6 (nd 4 (nd 1 (lf 0 (o_il 1 1)) (lf 1 (o_iflt 25 4))) (nd 5 (lf 4 (o_il 1 5)) (lf 5 (o_al 0 6)))) (nd 10 (nd 9 (lf 6 (o_getf 4 1 9)) (lf 9 (o_ic (nI 1) 10))) (nd 11 (lf 10 (o_isub 11)) (lf 11 (o_cge 25 14))))) (nd 20 (nd 16 (nd 15 (lf 14 (o_il 1 15)) (lf 15 (o_al 0 16))) (nd 19 (lf 16 (o_getf 4 0 19)) (lf 19 (o_alen 20)))) (nd 22 (nd 21 (lf 20 (o_ic (nI 1) 21)) (lf 21 (o_isub 22))) (nd 25 (lf 22 (o_clt 27 25)) (nd 26 (lf 25 (o_ic (nI 0) 26)) (lf 26 (o_iret))))))) (nd 41 (nd 33 (nd 31 (nd 28 (lf 27 (o_al 0 28)) (lf 28 (o_getf 4 0 31))) (nd 32 (lf 31 (o_il 1 32)) (lf 32 (o_iald 0 33)))) (nd 37 (nd 36 (lf 33 (o_ic (nI 255) 36)) (lf 36 (o_iand 37))) (nd 39 (lf 37 (o_ic (nI 8) 39)) (nd 40 (lf 39 (o_ishl 40)) (lf 40 (o_al 0 41)))))) (nd 47 (nd 45 (nd 44 (lf 41 (o_getf 4 0 44)) (lf 44 (o_il 1 45))) (nd 46 (lf 45 (o_ic (nI 1) 46)) (lf 46 (o_iadd 47)))) (nd 51 (nd 48 (lf 47 (o_iald 0 48)) (lf 48 (o_ic (nI 255) 51))) (nd 52 (lf 51 (o_iand 52)) (nd 53 (lf 52 (o_ior 53)) (lf 53 (o_iret))))))))
def k_RW_four : Cd := (nd 9 (nd 5 (nd 1 (lf 0 (o_al 0 1)) (nd 2 (lf 1 (o_il 1 2)) (lf 2 (o_invV 64 4 1 5)))) (nd 7 (lf 5 (o_ic (nI 16) 7)) (nd 8 (lf 7 (o_ishl 8)) (lf 8 (o_al 0 9))))) (nd 12 (nd 10 (lf 9 (o_il 1 10)) (nd 11 (lf 10 (o_ic (nI 2) 11)) (lf 11 (o_iadd 12)))) (nd 15 (lf 12 (o_invV 64 4 1 15)) (nd 16 (lf 15 (o_ior 16)) (lf 16 (o_iret))))))
def k_RW_clear : Cd := (nd 2 (nd 1 (lf 0 (o_al 0 1)) (lf 1 (o_ic (nI 0) 2))) (nd 5 (lf 2 (o_putf 4 1 0 5)) (lf 5 (o_vret))))
def k_RW_push : Cd := (nd 23 (nd 11 (nd 4 (nd 1 (lf 0 (o_al 0 1)) (lf 1 (o_getf 4 1 4))) (nd 7 (lf 4 (o_iflt 40 7)) (nd 8 (lf 7 (o_al 0 8)) (lf 8 (o_getf 4 1 11))))) (nd 16 (nd 12 (lf 11 (o_al 0 12)) (nd 15 (lf 12 (o_getf 4 0 15)) (lf 15 (o_alen 16)))) (nd 19 (lf 16 (o_cge 40 19)) (nd 20 (lf 19 (o_al 0 20)) (lf 20 (o_getf 4 0 23)))))) (nd 31 (nd 28 (nd 24 (lf 23 (o_al 0 24)) (nd 27 (lf 24 (o_getf 4 1 27)) (lf 27 (o_il 1 28)))) (nd 29 (lf 28 (o_i2b 29)) (nd 30 (lf 29 (o_bast 30)) (lf 30 (o_al 0 31))))) (nd 36 (nd 32 (lf 31 (o_dup 32)) (nd 35 (lf 32 (o_getf 4 1 35)) (lf 35 (o_ic (nI 1) 36)))) (nd 37 (lf 36 (o_iadd 37)) (nd 40 (lf 37 (o_putf 4 1 0 40)) (lf 40 (o_vret)))))))
def k_RW_pushTwo : Cd := (nd 5 (nd 2 (nd 1 (lf 0 (o_al 0 1)) (lf 1 (o_il 1 2))) (nd 4 (lf 2 (o_ic (nI 8) 4)) (lf 4 (o_ishr 5)))) (nd 9 (nd 8 (lf 5 (o_invV 67 4 1 8)) (lf 8 (o_al 0 9))) (nd 10 (lf 9 (o_il 1 10)) (nd 13 (lf 10 (o_invV 67 4 1 13)) (lf 13 (o_vret))))))
def k_RW_putTwo : Cd := (nd 24 (nd 11 (nd 3 (nd 1 (lf 0 (o_al 0 1)) (nd 2 (lf 1 (o_il 1 2)) (lf 2 (o_ic (nI 2) 3)))) (nd 9 (nd 6 (lf 3 (o_invV 62 4 2 6)) (lf 6 (o_ifeq 41 9))) (nd 10 (lf 9 (o_il 1 10)) (lf 10 (o_ic (nI 1) 11))))) (nd 16 (nd 12 (lf 11 (o_iadd 12)) (nd 13 (lf 12 (o_al 0 13)) (lf 13 (o_getf 4 0 16)))) (nd 20 (nd 17 (lf 16 (o_alen 17)) (lf 17 (o_cge 41 20))) (nd 21 (lf 20 (o_al 0 21)) (lf 21 (o_getf 4 0 24)))))) (nd 32 (nd 28 (nd 25 (lf 24 (o_il 1 25)) (nd 26 (lf 25 (o_il 2 26)) (lf 26 (o_ic (nI 8) 28)))) (nd 30 (nd 29 (lf 28 (o_ishr 29)) (lf 29 (o_i2b 30))) (nd 31 (lf 30 (o_bast 31)) (lf 31 (o_al 0 32))))) (nd 38 (nd 36 (nd 35 (lf 32 (o_getf 4 0 35)) (lf 35 (o_il 1 36))) (nd 37 (lf 36 (o_ic (nI 1) 37)) (lf 37 (o_iadd 38)))) (nd 40 (nd 39 (lf 38 (o_il 2 39)) (lf 39 (o_i2b 40))) (nd 41 (lf 40 (o_bast 41)) (lf 41 (o_vret)))))))
def k_RW_append : Cd := (nd 24 (nd 11 (nd 3 (nd 1 (lf 0 (o_al 1 1)) (nd 2 (lf 1 (o_il 2 2)) (lf 2 (o_il 3 3)))) (nd 9 (nd 6 (lf 3 (o_invV 62 4 2 6)) (lf 6 (o_ifeq 50 9))) (nd 10 (lf 9 (o_il 3 10)) (lf 10 (o_al 0 11))))) (nd 16 (nd 14 (lf 11 (o_getf 4 0 14)) (nd 15 (lf 14 (o_alen 15)) (lf 15 (o_al 0 16)))) (nd 20 (nd 19 (lf 16 (o_getf 4 1 19)) (lf 19 (o_isub 20))) (nd 23 (lf 20 (o_cgt 50 23)) (lf 23 (o_al 1 24)))))) (nd 37 (nd 29 (nd 27 (lf 24 (o_getf 4 0 27)) (nd 28 (lf 27 (o_il 2 28)) (lf 28 (o_al 0 29)))) (nd 33 (nd 32 (lf 29 (o_getf 4 0 32)) (lf 32 (o_al 0 33))) (nd 36 (lf 33 (o_getf 4 1 36)) (lf 36 (o_il 3 37))))) (nd 45 (nd 41 (nd 40 (lf 37 (o_acp 40)) (lf 40 (o_al 0 41))) (nd 42 (lf 41 (o_dup 42)) (lf 42 (o_getf 4 1 45)))) (nd 47 (nd 46 (lf 45 (o_il 3 46)) (lf 46 (o_iadd 47))) (nd 50 (lf 47 (o_putf 4 1 0 50)) (lf 50 (o_vret)))))))
def k_RW_take : Cd := (nd 7 (nd 4 (nd 1 (lf 0 (o_al 0 1)) (lf 1 (o_invV 66 4 0 4))) (nd 5 (lf 4 (o_al 0 5)) (nd 6 (lf 5 (o_al 1 6)) (lf 6 (o_il 2 7))))) (nd 11 (nd 8 (lf 7 (o_il 3 8)) (lf 8 (o_invV 70 4 3 11))) (nd 12 (lf 11 (o_al 0 12)) (nd 15 (lf 12 (o_getf 4 1 15)) (lf 15 (o_iret))))))
def k_RW_order : Cd := (nd 27 (nd 13 (nd 6 (nd 1 (lf 0 (o_il 2 1)) (nd 3 (lf 1 (o_il 5 3)) (lf 3 (o_inv 182 2 6)))) (nd 9 (nd 8 (lf 6 (o_is 6 8)) (lf 8 (o_ic (nI 0) 9))) (nd 11 (lf 9 (o_is 7 11)) (lf 11 (o_il 7 13))))) (nd 20 (nd 18 (nd 15 (lf 13 (o_il 6 15)) (lf 15 (o_cge 54 18))) (nd 19 (lf 18 (o_al 0 19)) (lf 19 (o_il 1 20)))) (nd 23 (nd 22 (lf 20 (o_il 7 22)) (lf 22 (o_iadd 23))) (nd 26 (lf 23 (o_invV 63 4 1 26)) (lf 26 (o_al 3 27)))))) (nd 45 (nd 35 (nd 31 (nd 29 (lf 27 (o_il 4 29)) (lf 29 (o_il 7 31))) (nd 32 (lf 31 (o_iadd 32)) (lf 32 (o_invV 63 4 1 35)))) (nd 40 (nd 38 (lf 35 (o_inv 179 2 38)) (lf 38 (o_is 8 40))) (nd 42 (lf 40 (o_il 8 42)) (lf 42 (o_ifeq 48 45))))) (nd 54 (nd 48 (nd 47 (lf 45 (o_il 8 47)) (lf 47 (o_iret))) (nd 51 (lf 48 (o_inc 7 (nI 1) 51)) (lf 51 (o_goto 11)))) (nd 57 (nd 55 (lf 54 (o_il 2 55)) (lf 55 (o_il 5 57))) (nd 60 (lf 57 (o_inv 179 2 60)) (lf 60 (o_iret)))))))
def k_SO_isType : Cd := (nd 7 (nd 2 (nd 1 (lf 0 (o_al 0 1)) (lf 1 (o_il 1 2))) (nd 3 (lf 2 (o_il 2 3)) (nd 6 (lf 3 (o_inv 78 3 6)) (lf 6 (o_il 2 7))))) (nd 11 (nd 10 (lf 7 (o_cne 14 10)) (lf 10 (o_ic (nI 1) 11))) (nd 14 (lf 11 (o_goto 15)) (nd 15 (lf 14 (o_ic (nI 0) 15)) (lf 15 (o_zret))))))
def k_SO_isMethod : Cd := (nd 25 (nd 13 (nd 6 (nd 2 (nd 1 (lf 0 (o_al 0 1)) (lf 1 (o_il 1 2))) (nd 3 (lf 2 (o_il 2 3)) (lf 3 (o_inv 77 3 6)))) (nd 8 (nd 7 (lf 6 (o_is 3 7)) (lf 7 (o_il 3 8))) (nd 9 (lf 8 (o_ic (-1) 9)) (nd 12 (lf 9 (o_cne 14 12)) (lf 12 (o_ic (nI 0) 13)))))) (nd 18 (nd 15 (nd 14 (lf 13 (o_zret)) (lf 14 (o_il 3 15))) (nd 16 (lf 15 (o_ic (nI 2) 16)) (nd 17 (lf 16 (o_iadd 17)) (lf 17 (o_il 2 18))))) (nd 22 (nd 21 (lf 18 (o_cne 37 21)) (lf 21 (o_al 0 22))) (nd 23 (lf 22 (o_il 3 23)) (nd 24 (lf 23 (o_ic (nI 1) 24)) (lf 24 (o_iadd 25))))))) (nd 46 (nd 37 (nd 30 (nd 28 (lf 25 (o_invV 63 4 1 28)) (lf 28 (o_ic (nI 86) 30))) (nd 33 (lf 30 (o_cne 37 33)) (nd 34 (lf 33 (o_ic (nI 1) 34)) (lf 34 (o_goto 38))))) (nd 40 (nd 38 (lf 37 (o_ic (nI 0) 38)) (lf 38 (o_is 4 40))) (nd 42 (lf 40 (o_il 4 42)) (nd 45 (lf 42 (o_ifne 56 45)) (lf 45 (o_al 0 46)))))) (nd 53 (nd 48 (nd 47 (lf 46 (o_il 3 47)) (lf 47 (o_ic (nI 1) 48))) (nd 49 (lf 48 (o_iadd 49)) (nd 50 (lf 49 (o_il 2 50)) (lf 50 (o_inv 73 3 53))))) (nd 57 (nd 56 (lf 53 (o_ifeq 60 56)) (lf 56 (o_ic (nI 1) 57))) (nd 60 (lf 57 (o_goto 61)) (nd 61 (lf 60 (o_ic (nI 0) 61)) (lf 61 (o_zret))))))))
def k_SO_width : Cd := (nd 12 (nd 5 (nd 1 (lf 0 (o_al 0 1)) (nd 2 (lf 1 (o_il 1 2)) (lf 2 (o_invV 63 4 1 5)))) (nd 7 (nd 6 (lf 5 (o_is 2 6)) (lf 6 (o_il 2 7))) (nd 9 (lf 7 (o_ic (nI 74) 9)) (lf 9 (o_ceq 18 12))))) (nd 18 (nd 13 (lf 12 (o_il 2 13)) (nd 15 (lf 13 (o_ic (nI 68) 15)) (lf 15 (o_cne 22 18)))) (nd 22 (nd 19 (lf 18 (o_ic (nI 2) 19)) (lf 19 (o_goto 23))) (nd 23 (lf 22 (o_ic (nI 1) 23)) (lf 23 (o_iret))))))
def k_SO_sum : Cd := (nd 36 (nd 13 (nd 5 (nd 3 (nd 1 (lf 0 (o_ic (nI 0) 1)) (lf 1 (o_is 4 3))) (nd 4 (lf 3 (o_il 1 4)) (lf 4 (o_ic (nI 1) 5)))) (nd 8 (nd 6 (lf 5 (o_iadd 6)) (lf 6 (o_is 5 8))) (nd 9 (lf 8 (o_ic (nI 0) 9)) (nd 11 (lf 9 (o_is 6 11)) (lf 11 (o_il 6 13)))))) (nd 25 (nd 19 (nd 16 (lf 13 (o_ic (nI 400) 16)) (lf 16 (o_cge 70 19))) (nd 21 (lf 19 (o_il 5 21)) (nd 22 (lf 21 (o_ic (-1) 22)) (lf 22 (o_ceq 70 25))))) (nd 28 (nd 26 (lf 25 (o_al 0 26)) (lf 26 (o_il 5 28))) (nd 31 (lf 28 (o_invV 63 4 1 31)) (nd 33 (lf 31 (o_ic (nI 41) 33)) (lf 33 (o_ceq 70 36))))))) (nd 53 (nd 43 (nd 39 (nd 38 (lf 36 (o_il 4 38)) (lf 38 (o_il 3 39))) (nd 42 (lf 39 (o_ifeq 51 42)) (lf 42 (o_al 0 43)))) (nd 48 (nd 45 (lf 43 (o_il 5 45)) (lf 45 (o_inv 75 2 48))) (nd 51 (lf 48 (o_goto 52)) (nd 52 (lf 51 (o_ic (nI 1) 52)) (lf 52 (o_iadd 53)))))) (nd 62 (nd 56 (nd 55 (lf 53 (o_is 4 55)) (lf 55 (o_al 0 56))) (nd 58 (lf 56 (o_il 5 58)) (nd 59 (lf 58 (o_il 2 59)) (lf 59 (o_inv 78 3 62))))) (nd 67 (nd 64 (lf 62 (o_is 5 64)) (lf 64 (o_inc 6 (nI 1) 67))) (nd 70 (lf 67 (o_goto 11)) (nd 72 (lf 70 (o_il 4 72)) (lf 72 (o_iret))))))))
def k_SO_closing : Cd := (nd 39 (nd 18 (nd 7 (nd 2 (nd 1 (lf 0 (o_il 1 1)) (lf 1 (o_il 2 2))) (nd 5 (lf 2 (o_cge 21 5)) (nd 6 (lf 5 (o_al 0 6)) (lf 6 (o_il 1 7))))) (nd 15 (nd 10 (lf 7 (o_invV 63 4 1 10)) (nd 12 (lf 10 (o_ic (nI 40) 12)) (lf 12 (o_cne 21 15)))) (nd 16 (lf 15 (o_il 1 16)) (nd 17 (lf 16 (o_ic (nI 1) 17)) (lf 17 (o_iadd 18)))))) (nd 26 (nd 22 (nd 21 (lf 18 (o_goto 22)) (lf 21 (o_ic (-1) 22))) (nd 23 (lf 22 (o_is 3 23)) (nd 24 (lf 23 (o_ic (nI 0) 24)) (lf 24 (o_is 4 26))))) (nd 34 (nd 28 (lf 26 (o_il 4 28)) (nd 31 (lf 28 (o_ic (nI 400) 31)) (lf 31 (o_cge 67 34)))) (nd 35 (lf 34 (o_il 3 35)) (nd 36 (lf 35 (o_ic (-1) 36)) (lf 36 (o_ceq 67 39))))))) (nd 57 (nd 46 (nd 41 (nd 40 (lf 39 (o_il 3 40)) (lf 40 (o_il 2 41))) (nd 44 (lf 41 (o_cge 67 44)) (nd 45 (lf 44 (o_al 0 45)) (lf 45 (o_il 3 46))))) (nd 54 (nd 49 (lf 46 (o_invV 63 4 1 49)) (nd 51 (lf 49 (o_ic (nI 41) 51)) (lf 51 (o_ceq 67 54)))) (nd 55 (lf 54 (o_al 0 55)) (nd 56 (lf 55 (o_il 3 56)) (lf 56 (o_il 2 57)))))) (nd 68 (nd 61 (nd 60 (lf 57 (o_inv 78 3 60)) (lf 60 (o_is 3 61))) (nd 64 (lf 61 (o_inc 4 (nI 1) 64)) (nd 67 (lf 64 (o_goto 26)) (lf 67 (o_il 3 68))))) (nd 73 (nd 69 (lf 68 (o_il 2 69)) (nd 72 (lf 69 (o_cge 76 72)) (lf 72 (o_il 3 73)))) (nd 76 (lf 73 (o_goto 77)) (nd 77 (lf 76 (o_ic (-1) 77)) (lf 77 (o_iret))))))))
def k_SO_typeEnd : Cd := (nd 34 (nd 14 (nd 4 (nd 2 (nd 1 (lf 0 (o_il 1 1)) (lf 1 (o_is 3 2))) (nd 3 (lf 2 (o_il 3 3)) (lf 3 (o_il 2 4)))) (nd 8 (nd 7 (lf 4 (o_cge 23 7)) (lf 7 (o_al 0 8))) (nd 9 (lf 8 (o_il 3 9)) (nd 12 (lf 9 (o_invV 63 4 1 12)) (lf 12 (o_ic (nI 91) 14)))))) (nd 25 (nd 20 (nd 17 (lf 14 (o_cne 23 17)) (lf 17 (o_inc 3 (nI 1) 20))) (nd 23 (lf 20 (o_goto 2)) (nd 24 (lf 23 (o_il 3 24)) (lf 24 (o_il 2 25))))) (nd 29 (nd 28 (lf 25 (o_cge 37 28)) (lf 28 (o_il 3 29))) (nd 30 (lf 29 (o_il 1 30)) (nd 31 (lf 30 (o_isub 31)) (lf 31 (o_ic (nI 255) 34))))))) (nd 163 (nd 41 (nd 38 (nd 37 (lf 34 (o_cle 39 37)) (lf 37 (o_ic (-1) 38))) (nd 39 (lf 38 (o_iret)) (nd 40 (lf 39 (o_al 0 40)) (lf 40 (o_il 3 41))))) (nd 160 (nd 44 (lf 41 (o_invV 63 4 1 44)) (lf 44 (o_sw [(66, 160), (67, 160), (68, 160), (69, 173), (70, 160), (71, 173), (72, 173), (73, 160), (74, 160), (75, 173), (76, 164), (77, 173), (78, 173), (79, 173), (80, 173), (81, 173), (82, 173), (83, 160), (84, 173), (85, 173), (86, 173), (87, 173), (88, 173), (89, 173), (90, 160)] 173))) (nd 161 (lf 160 (o_il 3 161)) (nd 162 (lf 161 (o_ic (nI 1) 162)) (lf 162 (o_iadd 163)))))) (nd 168 (nd 165 (nd 164 (lf 163 (o_iret)) (lf 164 (o_al 0 165))) (nd 166 (lf 165 (o_il 3 166)) (nd 167 (lf 166 (o_ic (nI 1) 167)) (lf 167 (o_iadd 168))))) (nd 172 (nd 169 (lf 168 (o_il 2 169)) (lf 169 (o_inv 79 3 172))) (nd 173 (lf 172 (o_iret)) (nd 174 (lf 173 (o_ic (-1) 174)) (lf 174 (o_iret))))))))
def k_SO_nameEnd : Cd := (nd 18 (nd 7 (nd 2 (nd 1 (lf 0 (o_il 1 1)) (lf 1 (o_is 3 2))) (nd 3 (lf 2 (o_il 3 3)) (nd 4 (lf 3 (o_il 2 4)) (lf 4 (o_cge 36 7))))) (nd 12 (nd 8 (lf 7 (o_al 0 8)) (nd 9 (lf 8 (o_il 3 9)) (lf 9 (o_invV 63 4 1 12)))) (nd 14 (lf 12 (o_ic (nI 59) 14)) (nd 17 (lf 14 (o_cne 30 17)) (lf 17 (o_il 3 18)))))) (nd 28 (nd 23 (nd 19 (lf 18 (o_il 1 19)) (nd 22 (lf 19 (o_cne 26 22)) (lf 22 (o_ic (-1) 23)))) (nd 26 (lf 23 (o_goto 29)) (nd 27 (lf 26 (o_il 3 27)) (lf 27 (o_ic (nI 1) 28))))) (nd 33 (nd 29 (lf 28 (o_iadd 29)) (nd 30 (lf 29 (o_iret)) (lf 30 (o_inc 3 (nI 1) 33)))) (nd 36 (lf 33 (o_goto 2)) (nd 37 (lf 36 (o_ic (-1) 37)) (lf 37 (o_iret)))))))
def k_WR_init : Cd := (nd 13 (nd 5 (nd 1 (lf 0 (o_al 0 1)) (nd 4 (lf 1 (o_pop0 4)) (lf 4 (o_al 0 5)))) (nd 9 (nd 7 (lf 5 (o_ic (nI 61) 7)) (lf 7 (o_newi 1 9))) (nd 12 (lf 9 (o_putf 5 1 2 12)) (lf 12 (o_al 0 13))))) (nd 20 (nd 15 (lf 13 (o_ic (nI 61) 15)) (nd 17 (lf 15 (o_newi 1 17)) (lf 17 (o_putf 5 2 2 20)))) (nd 22 (nd 21 (lf 20 (o_al 0 21)) (lf 21 (o_al 1 22))) (nd 25 (lf 22 (o_putf 5 0 2 25)) (lf 25 (o_vret))))))
def k_WR_movePlaces : Cd := (nd 73 (nd 33 (nd 16 (nd 5 (nd 2 (nd 1 (lf 0 (o_ic (nI 1) 1)) (lf 1 (o_is 3 2))) (nd 3 (lf 2 (o_ic (nI 0) 3)) (lf 3 (o_is 4 5)))) (nd 8 (nd 7 (lf 5 (o_il 4 7)) (lf 7 (o_al 2 8))) (nd 11 (lf 8 (o_invV 35 2 0 11)) (nd 14 (lf 11 (o_cge 58 14)) (lf 14 (o_il 4 16)))))) (nd 25 (nd 20 (nd 17 (lf 16 (o_al 0 17)) (lf 17 (o_getf 5 1 20))) (nd 21 (lf 20 (o_alen 21)) (nd 24 (lf 21 (o_cge 58 24)) (lf 24 (o_al 0 25))))) (nd 30 (nd 28 (lf 25 (o_getf 5 1 28)) (lf 28 (o_il 4 30))) (nd 31 (lf 30 (o_il 3 31)) (nd 32 (lf 31 (o_iast 32)) (lf 32 (o_il 3 33))))))) (nd 51 (nd 42 (nd 36 (nd 34 (lf 33 (o_al 2 34)) (lf 34 (o_il 4 36))) (nd 39 (lf 36 (o_invV 43 2 1 39)) (lf 39 (o_inv 110 1 42)))) (nd 46 (nd 45 (lf 42 (o_ifeq 49 45)) (lf 45 (o_ic (nI 2) 46))) (nd 49 (lf 46 (o_goto 50)) (nd 50 (lf 49 (o_ic (nI 1) 50)) (lf 50 (o_iadd 51)))))) (nd 61 (nd 55 (nd 52 (lf 51 (o_is 3 52)) (lf 52 (o_inc 4 (nI 1) 55))) (nd 58 (lf 55 (o_goto 5)) (nd 59 (lf 58 (o_ic (nI 1) 59)) (lf 59 (o_is 4 61))))) (nd 64 (nd 63 (lf 61 (o_il 4 63)) (lf 63 (o_al 1 64))) (nd 67 (lf 64 (o_getf 0 0 67)) (nd 70 (lf 67 (o_invV 16 1 0 70)) (lf 70 (o_cge 150 73)))))))) (nd 112 (nd 92 (nd 80 (nd 76 (nd 75 (lf 73 (o_il 4 75)) (lf 75 (o_al 0 76))) (nd 79 (lf 76 (o_getf 5 2 79)) (lf 79 (o_alen 80)))) (nd 84 (nd 83 (lf 80 (o_cge 150 83)) (lf 83 (o_al 1 84))) (nd 87 (lf 84 (o_getf 0 0 87)) (nd 89 (lf 87 (o_il 4 89)) (lf 89 (o_invV 22 1 1 92)))))) (nd 101 (nd 96 (nd 95 (lf 92 (o_ifne 99 95)) (lf 95 (o_ic (-1) 96))) (nd 99 (lf 96 (o_goto 109)) (nd 100 (lf 99 (o_al 2 100)) (lf 100 (o_al 1 101))))) (nd 106 (nd 104 (lf 101 (o_getf 0 0 104)) (lf 104 (o_il 4 106))) (nd 109 (lf 106 (o_invV 38 2 2 109)) (nd 111 (lf 109 (o_is 5 111)) (lf 111 (o_al 0 112))))))) (nd 133 (nd 124 (nd 117 (nd 115 (lf 112 (o_getf 5 2 115)) (lf 115 (o_il 4 117))) (nd 119 (lf 117 (o_il 5 119)) (nd 122 (lf 119 (o_iflt 142 122)) (lf 122 (o_il 5 124))))) (nd 128 (nd 125 (lf 124 (o_al 0 125)) (lf 125 (o_getf 5 1 128))) (nd 129 (lf 128 (o_alen 129)) (nd 132 (lf 129 (o_cge 142 132)) (lf 132 (o_al 0 133)))))) (nd 143 (nd 138 (nd 136 (lf 133 (o_getf 5 1 136)) (lf 136 (o_il 5 138))) (nd 139 (lf 138 (o_iald 1 139)) (nd 142 (lf 139 (o_goto 143)) (lf 142 (o_ic (nI 0) 143))))) (nd 147 (nd 144 (lf 143 (o_iast 144)) (lf 144 (o_inc 4 (nI 1) 147))) (nd 150 (lf 147 (o_goto 61)) (nd 151 (lf 150 (o_il 3 151)) (lf 151 (o_iret)))))))))
def k_WR_push : Cd := (nd 32 (nd 15 (nd 8 (nd 4 (nd 1 (lf 0 (o_al 0 1)) (lf 1 (o_getf 5 0 4))) (nd 5 (lf 4 (o_al 1 5)) (lf 5 (o_getf 0 1 8)))) (nd 11 (nd 9 (lf 8 (o_ic (nI 0) 9)) (lf 9 (o_ic (nI 8) 11))) (nd 14 (lf 11 (o_invV 71 4 3 14)) (lf 14 (o_pop 15))))) (nd 23 (nd 19 (nd 16 (lf 15 (o_al 0 16)) (lf 16 (o_getf 5 0 19))) (nd 20 (lf 19 (o_il 3 20)) (lf 20 (o_invV 68 4 1 23)))) (nd 26 (nd 24 (lf 23 (o_ic (nI 0) 24)) (lf 24 (o_is 4 26))) (nd 28 (lf 26 (o_il 4 28)) (nd 29 (lf 28 (o_al 2 29)) (lf 29 (o_invV 35 2 0 32))))))) (nd 49 (nd 40 (nd 36 (nd 35 (lf 32 (o_cge 55 35)) (lf 35 (o_al 0 36))) (nd 37 (lf 36 (o_al 1 37)) (lf 37 (o_getf 0 0 40)))) (nd 43 (nd 41 (lf 40 (o_al 2 41)) (lf 41 (o_il 4 43))) (nd 46 (lf 43 (o_invV 42 2 1 46)) (lf 46 (o_invV 84 5 2 49))))) (nd 57 (nd 55 (nd 52 (lf 49 (o_inc 4 (nI 1) 52)) (lf 52 (o_goto 26))) (nd 56 (lf 55 (o_al 0 56)) (lf 56 (o_al 1 57)))) (nd 61 (nd 60 (lf 57 (o_invV 85 5 1 60)) (lf 60 (o_al 0 61))) (nd 64 (lf 61 (o_getf 5 0 64)) (nd 67 (lf 64 (o_invV 61 4 0 67)) (lf 67 (o_iret))))))))
def k_WR_movedTo : Cd := (nd 13 (nd 5 (nd 1 (lf 0 (o_il 1 1)) (nd 4 (lf 1 (o_iflt 22 4)) (lf 4 (o_il 1 5)))) (nd 9 (nd 6 (lf 5 (o_al 0 6)) (lf 6 (o_getf 5 2 9))) (nd 10 (lf 9 (o_alen 10)) (lf 10 (o_cge 22 13))))) (nd 18 (nd 14 (lf 13 (o_al 0 14)) (nd 17 (lf 14 (o_getf 5 2 17)) (lf 17 (o_il 1 18)))) (nd 22 (nd 19 (lf 18 (o_iald 1 19)) (lf 19 (o_goto 23))) (nd 23 (lf 22 (o_ic (nI 0) 23)) (lf 23 (o_iret))))))
def k_WR_pushEntry : Cd := (nd 47 (nd 22 (nd 12 (nd 7 (nd 1 (lf 0 (o_al 0 1)) (nd 4 (lf 1 (o_getf 5 0 4)) (lf 4 (o_invV 61 4 0 7)))) (nd 8 (lf 7 (o_is 3 8)) (nd 9 (lf 8 (o_al 0 9)) (lf 9 (o_getf 5 0 12))))) (nd 17 (nd 13 (lf 12 (o_al 1 13)) (nd 16 (lf 13 (o_getf 1 0 16)) (lf 16 (o_al 1 17)))) (nd 18 (lf 17 (o_il 2 18)) (nd 21 (lf 18 (o_invV 21 1 1 21)) (lf 21 (o_al 1 22)))))) (nd 34 (nd 29 (nd 23 (lf 22 (o_il 2 23)) (nd 26 (lf 23 (o_invV 29 1 1 26)) (lf 26 (o_invV 70 4 3 29)))) (nd 30 (lf 29 (o_al 1 30)) (nd 31 (lf 30 (o_il 2 31)) (lf 31 (o_invV 22 1 1 34))))) (nd 40 (nd 36 (lf 34 (o_is 4 36)) (nd 38 (lf 36 (o_il 4 38)) (lf 38 (o_ic (nI 7) 40)))) (nd 43 (lf 40 (o_clt 62 43)) (nd 44 (lf 43 (o_al 0 44)) (lf 44 (o_getf 5 0 47))))))) (nd 69 (nd 53 (nd 50 (nd 48 (lf 47 (o_il 3 48)) (nd 49 (lf 48 (o_ic (nI 1) 49)) (lf 49 (o_iadd 50)))) (nd 51 (lf 50 (o_al 0 51)) (nd 52 (lf 51 (o_al 1 52)) (lf 52 (o_il 2 53))))) (nd 62 (nd 56 (lf 53 (o_invV 24 1 1 56)) (nd 59 (lf 56 (o_invV 83 5 1 59)) (lf 59 (o_invV 69 4 2 62)))) (nd 64 (lf 62 (o_il 4 64)) (nd 66 (lf 64 (o_ic (nI 9) 66)) (lf 66 (o_clt 88 69)))))) (nd 77 (nd 74 (nd 70 (lf 69 (o_al 0 70)) (nd 73 (lf 70 (o_getf 5 0 73)) (lf 73 (o_il 3 74)))) (nd 75 (lf 74 (o_ic (nI 3) 75)) (nd 76 (lf 75 (o_iadd 76)) (lf 76 (o_al 0 77))))) (nd 82 (nd 78 (lf 77 (o_al 1 78)) (nd 79 (lf 78 (o_il 2 79)) (lf 79 (o_invV 25 1 1 82)))) (nd 85 (lf 82 (o_invV 83 5 1 85)) (nd 88 (lf 85 (o_invV 69 4 2 88)) (lf 88 (o_vret))))))))
def k_WR_pushRest : Cd := (nd 45 (nd 21 (nd 11 (nd 4 (nd 1 (lf 0 (o_al 0 1)) (lf 1 (o_getf 5 0 4))) (nd 7 (lf 4 (o_invV 61 4 0 7)) (nd 8 (lf 7 (o_al 1 8)) (lf 8 (o_getf 0 2 11))))) (nd 14 (nd 12 (lf 11 (o_isub 12)) (nd 13 (lf 12 (o_is 2 13)) (lf 13 (o_al 0 14)))) (nd 17 (lf 14 (o_getf 5 0 17)) (nd 18 (lf 17 (o_al 1 18)) (lf 18 (o_getf 0 1 21)))))) (nd 33 (nd 26 (nd 22 (lf 21 (o_al 1 22)) (nd 25 (lf 22 (o_getf 0 2 25)) (lf 25 (o_al 1 26)))) (nd 29 (lf 26 (o_getf 0 1 29)) (nd 32 (lf 29 (o_invV 61 4 0 32)) (lf 32 (o_al 1 33))))) (nd 40 (nd 36 (lf 33 (o_getf 0 2 36)) (nd 37 (lf 36 (o_isub 37)) (lf 37 (o_invV 70 4 3 40)))) (nd 41 (lf 40 (o_al 1 41)) (nd 44 (lf 41 (o_invV 6 0 0 44)) (lf 44 (o_is 3 45))))))) (nd 66 (nd 54 (nd 47 (nd 46 (lf 45 (o_il 3 46)) (lf 46 (o_al 1 47))) (nd 50 (lf 47 (o_invV 3 0 0 50)) (nd 53 (lf 50 (o_cge 90 53)) (lf 53 (o_al 1 54))))) (nd 60 (nd 55 (lf 54 (o_il 3 55)) (nd 58 (lf 55 (o_invV 4 0 1 58)) (lf 58 (o_is 4 60)))) (nd 61 (lf 60 (o_al 0 61)) (nd 64 (lf 61 (o_getf 5 0 64)) (lf 64 (o_il 4 66)))))) (nd 75 (nd 69 (nd 67 (lf 66 (o_il 2 67)) (nd 68 (lf 67 (o_iadd 68)) (lf 68 (o_al 0 69)))) (nd 70 (lf 69 (o_al 1 70)) (nd 73 (lf 70 (o_getf 0 1 73)) (lf 73 (o_il 4 75))))) (nd 84 (nd 78 (lf 75 (o_invV 64 4 1 78)) (nd 81 (lf 78 (o_invV 83 5 1 81)) (lf 81 (o_invV 69 4 2 84)))) (nd 87 (lf 84 (o_inc 3 (nI 1) 87)) (nd 90 (lf 87 (o_goto 45)) (lf 90 (o_vret))))))))
def k_CP_init : Cd := (nd 57 (nd 29 (nd 15 (nd 5 (nd 1 (lf 0 (o_al 0 1)) (nd 4 (lf 1 (o_pop0 4)) (lf 4 (o_al 0 5)))) (nd 9 (nd 8 (lf 5 (o_new 4 2 [.null, .int 0] 8)) (lf 8 (o_dup 9))) (nd 12 (lf 9 (o_invI 60 0 12)) (lf 12 (o_putf 6 0 2 15))))) (nd 20 (nd 16 (lf 15 (o_al 0 16)) (nd 19 (lf 16 (o_new 4 2 [.null, .int 0] 19)) (lf 19 (o_dup 20)))) (nd 26 (nd 23 (lf 20 (o_invI 60 0 23)) (lf 23 (o_putf 6 1 2 26))) (nd 27 (lf 26 (o_al 0 27)) (lf 27 (o_ic (nI 6) 29)))))) (nd 42 (nd 36 (nd 32 (lf 29 (o_newq 5 32)) (nd 35 (lf 32 (o_putf 6 2 2 35)) (lf 35 (o_al 0 36)))) (nd 40 (nd 37 (lf 36 (o_ic (nI 0) 37)) (lf 37 (o_putf 6 3 0 40))) (nd 41 (lf 40 (o_al 0 41)) (lf 41 (o_ic (-1) 42))))) (nd 49 (nd 45 (lf 42 (o_putf 6 4 0 45)) (nd 46 (lf 45 (o_al 0 46)) (lf 46 (o_new 2 5 [.null, .int 0, .null, .null, .int 0] 49)))) (nd 53 (nd 50 (lf 49 (o_dup 50)) (lf 50 (o_invI 33 0 53))) (nd 56 (lf 53 (o_putf 6 5 2 56)) (lf 56 (o_al 0 57))))))) (nd 85 (nd 72 (nd 64 (nd 60 (lf 57 (o_new 2 5 [.null, .int 0, .null, .null, .int 0] 60)) (nd 61 (lf 60 (o_dup 61)) (lf 61 (o_invI 33 0 64)))) (nd 68 (nd 67 (lf 64 (o_putf 6 6 2 67)) (lf 67 (o_al 0 68))) (nd 71 (lf 68 (o_new 5 3 [.null, .null, .null] 71)) (lf 71 (o_dup 72))))) (nd 79 (nd 73 (lf 72 (o_al 0 73)) (nd 76 (lf 73 (o_getf 6 1 76)) (lf 76 (o_invI 80 1 79)))) (nd 83 (nd 82 (lf 79 (o_putf 6 7 2 82)) (lf 82 (o_ic (nI 0) 83))) (nd 84 (lf 83 (o_is 1 84)) (lf 84 (o_il 1 85)))))) (nd 98 (nd 90 (nd 86 (lf 85 (o_al 0 86)) (nd 89 (lf 86 (o_getf 6 2 89)) (lf 89 (o_alen 90)))) (nd 94 (nd 93 (lf 90 (o_cge 112 93)) (lf 93 (o_al 0 94))) (nd 97 (lf 94 (o_getf 6 2 97)) (lf 97 (o_il 1 98))))) (nd 105 (nd 101 (lf 98 (o_new 0 9 [.null, .null, .int 0, .int 0, .null, .null, .null, .null, .int 0] 101)) (nd 102 (lf 101 (o_dup 102)) (lf 102 (o_invI 0 0 105)))) (nd 109 (nd 106 (lf 105 (o_aast 5 1 106)) (lf 106 (o_inc 1 (nI 1) 109))) (nd 112 (lf 109 (o_goto 84)) (lf 112 (o_vret))))))))
def k_CP_feed : Cd := (nd 34 (nd 15 (nd 6 (nd 2 (nd 1 (lf 0 (o_il 3 1)) (lf 1 (o_ic (nI 1) 2))) (nd 5 (lf 2 (o_clt 11 5)) (lf 5 (o_il 3 6)))) (nd 11 (nd 8 (lf 6 (o_ic (nI 8) 8)) (lf 8 (o_cle 14 11))) (nd 13 (lf 11 (o_ic (-2) 13)) (nd 14 (lf 13 (o_iret)) (lf 14 (o_il 3 15)))))) (nd 26 (nd 19 (nd 18 (lf 15 (o_ic (nI 400) 18)) (lf 18 (o_al 0 19))) (nd 22 (lf 19 (o_getf 6 0 22)) (nd 25 (lf 22 (o_invV 61 4 0 25)) (lf 25 (o_isub 26))))) (nd 31 (nd 29 (lf 26 (o_cle 32 29)) (lf 29 (o_ic (-3) 31))) (nd 32 (lf 31 (o_iret)) (nd 33 (lf 32 (o_il 3 33)) (lf 33 (o_ic (nI 1) 34))))))) (nd 51 (nd 42 (nd 37 (nd 35 (lf 34 (o_isub 35)) (lf 35 (o_is 4 37))) (nd 39 (lf 37 (o_il 4 39)) (lf 39 (o_iflt 63 42)))) (nd 46 (nd 43 (lf 42 (o_al 0 43)) (lf 43 (o_getf 6 0 46))) (nd 47 (lf 46 (o_ll 1 47)) (nd 49 (lf 47 (o_ic (nI 8) 49)) (lf 49 (o_il 4 51)))))) (nd 60 (nd 53 (nd 52 (lf 51 (o_imul 52)) (lf 52 (o_lshr 53))) (nd 54 (lf 53 (o_l2i 54)) (nd 57 (lf 54 (o_invV 67 4 1 57)) (lf 57 (o_inc 4 (-1) 60))))) (nd 64 (nd 63 (lf 60 (o_goto 37)) (lf 63 (o_al 0 64))) (nd 67 (lf 64 (o_getf 6 0 67)) (nd 70 (lf 67 (o_invV 61 4 0 70)) (lf 70 (o_iret))))))))
def k_CP_read : Cd := (nd 60 (nd 30 (nd 15 (nd 7 (nd 1 (lf 0 (o_al 0 1)) (nd 4 (lf 1 (o_getf 6 3 4)) (lf 4 (o_iflt 19 7)))) (nd 11 (nd 8 (lf 7 (o_al 0 8)) (lf 8 (o_getf 6 3 11))) (nd 12 (lf 11 (o_al 0 12)) (lf 12 (o_getf 6 2 15))))) (nd 22 (nd 19 (nd 16 (lf 15 (o_alen 16)) (lf 16 (o_clt 22 19))) (nd 21 (lf 19 (o_ic (-3) 21)) (lf 21 (o_iret)))) (nd 26 (nd 23 (lf 22 (o_al 0 23)) (lf 23 (o_getf 6 2 26))) (nd 27 (lf 26 (o_al 0 27)) (lf 27 (o_getf 6 3 30)))))) (nd 44 (nd 34 (nd 32 (nd 31 (lf 30 (o_aald 31)) (lf 31 (o_as 1 32))) (nd 33 (lf 32 (o_al 1 33)) (lf 33 (o_al 0 34)))) (nd 40 (nd 37 (lf 34 (o_getf 6 0 37)) (lf 37 (o_invV 1 0 1 40))) (nd 41 (lf 40 (o_al 0 41)) (lf 41 (o_getf 6 0 44))))) (nd 52 (nd 50 (nd 47 (lf 44 (o_invV 66 4 0 47)) (lf 47 (o_new 3 5 [.int 0, .int 0, .null, .null, .int 0] 50))) (nd 51 (lf 50 (o_dup 51)) (lf 51 (o_al 1 52)))) (nd 56 (nd 55 (lf 52 (o_invI 45 1 55)) (lf 55 (o_as 2 56))) (nd 57 (lf 56 (o_al 2 57)) (lf 57 (o_invV 47 3 0 60))))))) (nd 89 (nd 71 (nd 65 (nd 61 (lf 60 (o_al 2 61)) (nd 64 (lf 61 (o_invV 58 3 0 64)) (lf 64 (o_al 2 65)))) (nd 69 (nd 66 (lf 65 (o_ic (nI 0) 66)) (lf 66 (o_invV 59 3 1 69))) (nd 70 (lf 69 (o_al 2 70)) (lf 70 (o_ic (nI 1) 71))))) (nd 79 (nd 75 (nd 74 (lf 71 (o_invV 59 3 1 74)) (lf 74 (o_al 0 75))) (nd 76 (lf 75 (o_al 2 76)) (lf 76 (o_getf 3 1 79)))) (nd 83 (nd 82 (lf 79 (o_putf 6 4 0 82)) (lf 82 (o_al 2 83))) (nd 86 (lf 83 (o_getf 3 0 86)) (lf 86 (o_ifeq 97 89)))))) (nd 102 (nd 96 (nd 92 (nd 91 (lf 89 (o_ic (-20) 91)) (lf 91 (o_al 2 92))) (nd 95 (lf 92 (o_getf 3 0 95)) (lf 95 (o_isub 96)))) (nd 98 (nd 97 (lf 96 (o_iret)) (lf 97 (o_al 0 98))) (nd 99 (lf 98 (o_dup 99)) (lf 99 (o_getf 6 3 102))))) (nd 108 (nd 104 (nd 103 (lf 102 (o_ic (nI 1) 103)) (lf 103 (o_iadd 104))) (nd 107 (lf 104 (o_putf 6 3 0 107)) (lf 107 (o_al 0 108)))) (nd 112 (nd 111 (lf 108 (o_getf 6 3 111)) (lf 111 (o_ic (nI 1) 112))) (nd 113 (lf 112 (o_isub 113)) (lf 113 (o_iret))))))))
def k_CP_place : Cd := (nd 1 (lf 0 (o_al 0 1)) (nd 4 (lf 1 (o_getf 6 4 4)) (lf 4 (o_iret))))
def k_CP_drop : Cd := (nd 38 (nd 18 (nd 10 (nd 5 (nd 1 (lf 0 (o_al 0 1)) (nd 2 (lf 1 (o_il 1 2)) (lf 2 (o_invV 105 6 1 5)))) (nd 6 (lf 5 (o_as 2 6)) (nd 7 (lf 6 (o_al 2 7)) (lf 7 (o_ifnn 12 10))))) (nd 13 (nd 11 (lf 10 (o_ic (-1) 11)) (nd 12 (lf 11 (o_iret)) (lf 12 (o_il 1 13)))) (nd 14 (lf 13 (o_is 3 14)) (nd 15 (lf 14 (o_il 3 15)) (lf 15 (o_iflt 49 18)))))) (nd 26 (nd 21 (nd 19 (lf 18 (o_il 3 19)) (nd 20 (lf 19 (o_ic (nI 1) 20)) (lf 20 (o_iadd 21)))) (nd 22 (lf 21 (o_al 0 22)) (nd 25 (lf 22 (o_getf 6 2 25)) (lf 25 (o_alen 26))))) (nd 33 (nd 29 (lf 26 (o_cge 49 29)) (nd 30 (lf 29 (o_al 0 30)) (lf 30 (o_getf 6 2 33)))) (nd 34 (lf 33 (o_il 3 34)) (nd 35 (lf 34 (o_al 0 35)) (lf 35 (o_getf 6 2 38))))))) (nd 58 (nd 46 (nd 41 (nd 39 (lf 38 (o_il 3 39)) (nd 40 (lf 39 (o_ic (nI 1) 40)) (lf 40 (o_iadd 41)))) (nd 42 (lf 41 (o_aald 42)) (nd 43 (lf 42 (o_aast 5 1 43)) (lf 43 (o_inc 3 (nI 1) 46))))) (nd 53 (nd 49 (lf 46 (o_goto 14)) (nd 50 (lf 49 (o_al 0 50)) (lf 50 (o_getf 6 2 53)))) (nd 54 (lf 53 (o_al 0 54)) (nd 57 (lf 54 (o_getf 6 2 57)) (lf 57 (o_alen 58)))))) (nd 64 (nd 61 (nd 59 (lf 58 (o_ic (nI 1) 59)) (nd 60 (lf 59 (o_isub 60)) (lf 60 (o_al 2 61)))) (nd 62 (lf 61 (o_aast 5 1 62)) (nd 63 (lf 62 (o_al 0 63)) (lf 63 (o_dup 64))))) (nd 69 (nd 67 (lf 64 (o_getf 6 3 67)) (nd 68 (lf 67 (o_ic (nI 1) 68)) (lf 68 (o_isub 69)))) (nd 73 (nd 72 (lf 69 (o_putf 6 3 0 72)) (lf 72 (o_al 0 73))) (nd 76 (lf 73 (o_getf 6 3 76)) (lf 76 (o_iret))))))))
def k_CP_file : Cd := (nd 91 (nd 67 (nd 10 (nd 5 (nd 1 (lf 0 (o_al 0 1)) (nd 2 (lf 1 (o_il 1 2)) (lf 2 (o_invV 105 6 1 5)))) (nd 6 (lf 5 (o_as 3 6)) (nd 7 (lf 6 (o_al 3 7)) (lf 7 (o_ifnn 12 10))))) (nd 13 (nd 11 (lf 10 (o_ic (-1) 11)) (nd 12 (lf 11 (o_iret)) (lf 12 (o_il 2 13)))) (nd 61 (nd 60 (lf 13 (o_sw [(0, 60), (1, 68), (2, 90), (3, 98), (4, 110), (5, 115), (6, 121), (7, 127)] 139)) (lf 60 (o_al 3 61))) (nd 64 (lf 61 (o_getf 0 1 64)) (lf 64 (o_invV 61 4 0 67)))))) (nd 80 (nd 72 (nd 68 (lf 67 (o_iret)) (nd 69 (lf 68 (o_al 3 69)) (lf 69 (o_getf 0 1 72)))) (nd 77 (nd 74 (lf 72 (o_ic (nI 6) 74)) (lf 74 (o_invV 64 4 1 77))) (nd 79 (lf 77 (o_ic (nI 16) 79)) (lf 79 (o_ishl 80))))) (nd 85 (nd 81 (lf 80 (o_al 3 81)) (nd 84 (lf 81 (o_getf 0 1 84)) (lf 84 (o_ic (nI 4) 85)))) (nd 89 (nd 88 (lf 85 (o_invV 64 4 1 88)) (lf 88 (o_iadd 89))) (nd 90 (lf 89 (o_iret)) (lf 90 (o_al 3 91))))))) (nd 117 (nd 106 (nd 98 (nd 94 (lf 91 (o_getf 0 0 94)) (nd 97 (lf 94 (o_invV 16 1 0 97)) (lf 97 (o_iret)))) (nd 102 (nd 99 (lf 98 (o_al 3 99)) (lf 99 (o_getf 0 1 102))) (nd 103 (lf 102 (o_al 3 103)) (lf 103 (o_getf 0 2 106))))) (nd 111 (nd 109 (lf 106 (o_invV 64 4 1 109)) (nd 110 (lf 109 (o_iret)) (lf 110 (o_al 3 111)))) (nd 115 (nd 114 (lf 111 (o_invV 10 0 0 114)) (lf 114 (o_iret))) (nd 116 (lf 115 (o_al 3 116)) (lf 116 (o_ic (nI 0) 117)))))) (nd 128 (nd 122 (nd 120 (lf 117 (o_invV 8 0 1 120)) (nd 121 (lf 120 (o_iret)) (lf 121 (o_al 3 122)))) (nd 126 (nd 123 (lf 122 (o_ic (nI 1) 123)) (lf 123 (o_invV 8 0 1 126))) (nd 127 (lf 126 (o_iret)) (lf 127 (o_al 3 128))))) (nd 135 (nd 131 (lf 128 (o_getf 0 1 131)) (nd 132 (lf 131 (o_al 3 132)) (lf 132 (o_getf 0 3 135)))) (nd 139 (nd 138 (lf 135 (o_invV 64 4 1 138)) (lf 138 (o_iret))) (nd 141 (lf 139 (o_ic (-2) 141)) (lf 141 (o_iret))))))))
def k_CP_entry : Cd := (nd 62 (nd 18 (nd 7 (nd 2 (nd 1 (lf 0 (o_al 0 1)) (lf 1 (o_il 1 2))) (nd 5 (lf 2 (o_invV 105 6 1 5)) (lf 5 (o_as 4 7)))) (nd 12 (nd 9 (lf 7 (o_al 4 9)) (lf 9 (o_ifn 24 12))) (nd 14 (lf 12 (o_al 4 14)) (nd 17 (lf 14 (o_getf 0 0 17)) (lf 17 (o_il 2 18)))))) (nd 26 (nd 24 (nd 21 (lf 18 (o_invV 17 1 1 21)) (lf 21 (o_ifne 26 24))) (nd 25 (lf 24 (o_ic (-1) 25)) (lf 25 (o_iret)))) (nd 56 (nd 27 (lf 26 (o_il 3 27)) (lf 27 (o_sw [(0, 56), (1, 66), (2, 76), (3, 86)] 96))) (nd 58 (lf 56 (o_al 4 58)) (nd 61 (lf 58 (o_getf 0 0 61)) (lf 61 (o_il 2 62))))))) (nd 81 (nd 71 (nd 66 (nd 65 (lf 62 (o_invV 22 1 1 65)) (lf 65 (o_iret))) (nd 68 (lf 66 (o_al 4 68)) (lf 68 (o_getf 0 0 71)))) (nd 75 (nd 72 (lf 71 (o_il 2 72)) (lf 72 (o_invV 24 1 1 75))) (nd 76 (lf 75 (o_iret)) (nd 78 (lf 76 (o_al 4 78)) (lf 78 (o_getf 0 0 81)))))) (nd 91 (nd 85 (nd 82 (lf 81 (o_il 2 82)) (lf 82 (o_invV 25 1 1 85))) (nd 86 (lf 85 (o_iret)) (nd 88 (lf 86 (o_al 4 88)) (lf 88 (o_getf 0 0 91))))) (nd 95 (nd 92 (lf 91 (o_il 2 92)) (lf 92 (o_invV 27 1 1 95))) (nd 96 (lf 95 (o_iret)) (nd 98 (lf 96 (o_ic (-2) 98)) (lf 98 (o_iret))))))))
def k_CP_text : Cd := (nd 41 (nd 19 (nd 9 (nd 2 (nd 1 (lf 0 (o_al 0 1)) (lf 1 (o_il 1 2))) (nd 5 (lf 2 (o_invV 105 6 1 5)) (nd 7 (lf 5 (o_as 4 7)) (lf 7 (o_al 4 9))))) (nd 14 (nd 12 (lf 9 (o_ifnn 14 12)) (nd 13 (lf 12 (o_ic (-1) 13)) (lf 13 (o_iret)))) (nd 15 (lf 14 (o_il 3 15)) (nd 18 (lf 15 (o_iflt 23 18)) (lf 18 (o_il 3 19)))))) (nd 30 (nd 25 (nd 20 (lf 19 (o_ic (nI 2) 20)) (nd 23 (lf 20 (o_cle 26 23)) (lf 23 (o_ic (-2) 25)))) (nd 26 (lf 25 (o_iret)) (nd 27 (lf 26 (o_il 3 27)) (lf 27 (o_ifne 34 30))))) (nd 35 (nd 31 (lf 30 (o_ic (nI 1) 31)) (nd 34 (lf 31 (o_goto 46)) (lf 34 (o_il 3 35)))) (nd 36 (lf 35 (o_ic (nI 1) 36)) (nd 39 (lf 36 (o_cne 44 39)) (lf 39 (o_ic (nI 7) 41))))))) (nd 68 (nd 54 (nd 48 (nd 44 (lf 41 (o_goto 46)) (nd 46 (lf 44 (o_ic (nI 8) 46)) (lf 46 (o_is 5 48)))) (nd 50 (lf 48 (o_al 4 50)) (nd 53 (lf 50 (o_getf 0 0 53)) (lf 53 (o_il 2 54))))) (nd 61 (nd 56 (lf 54 (o_il 5 56)) (nd 59 (lf 56 (o_invV 30 1 2 59)) (lf 59 (o_is 6 61)))) (nd 63 (lf 61 (o_il 6 63)) (nd 66 (lf 63 (o_ifeq 72 66)) (lf 66 (o_ic (-30) 68)))))) (nd 77 (nd 72 (nd 70 (lf 68 (o_il 6 70)) (nd 71 (lf 70 (o_isub 71)) (lf 71 (o_iret)))) (nd 73 (lf 72 (o_al 0 73)) (nd 75 (lf 73 (o_al 4 75)) (lf 75 (o_al 4 77))))) (nd 82 (nd 80 (lf 77 (o_getf 0 0 80)) (nd 81 (lf 80 (o_il 2 81)) (lf 81 (o_ic (nI 0) 82)))) (nd 85 (lf 82 (o_invV 31 1 2 85)) (nd 88 (lf 85 (o_invV 106 6 2 88)) (lf 88 (o_iret))))))))
def k_CP_member : Cd := (nd 45 (nd 22 (nd 12 (nd 5 (nd 1 (lf 0 (o_al 0 1)) (nd 2 (lf 1 (o_il 1 2)) (lf 2 (o_invV 105 6 1 5)))) (nd 7 (lf 5 (o_as 5 7)) (nd 9 (lf 7 (o_al 5 9)) (lf 9 (o_ifnn 14 12))))) (nd 15 (nd 13 (lf 12 (o_ic (-1) 13)) (nd 14 (lf 13 (o_iret)) (lf 14 (o_il 2 15)))) (nd 19 (nd 16 (lf 15 (o_ic (nI 2) 16)) (lf 16 (o_cne 29 19))) (nd 20 (lf 19 (o_al 0 20)) (lf 20 (o_al 5 22)))))) (nd 34 (nd 28 (nd 23 (lf 22 (o_il 3 23)) (nd 25 (lf 23 (o_il 4 25)) (lf 25 (o_invV 107 6 3 28)))) (nd 30 (nd 29 (lf 28 (o_iret)) (lf 29 (o_il 2 30))) (nd 33 (lf 30 (o_ifeq 41 33)) (lf 33 (o_il 2 34))))) (nd 40 (nd 35 (lf 34 (o_ic (nI 1) 35)) (nd 38 (lf 35 (o_ceq 41 38)) (lf 38 (o_ic (-2) 40)))) (nd 43 (nd 41 (lf 40 (o_iret)) (lf 41 (o_al 5 43))) (nd 44 (lf 43 (o_il 2 44)) (lf 44 (o_il 3 45))))))) (nd 72 (nd 58 (nd 52 (nd 48 (lf 45 (o_invV 9 0 2 48)) (nd 50 (lf 48 (o_is 6 50)) (lf 50 (o_il 6 52)))) (nd 56 (nd 53 (lf 52 (o_ic (-1) 53)) (lf 53 (o_cne 58 56))) (nd 57 (lf 56 (o_ic (-1) 57)) (lf 57 (o_iret))))) (nd 65 (nd 60 (lf 58 (o_il 4 60)) (nd 63 (lf 60 (o_ifeq 72 63)) (lf 63 (o_il 4 65)))) (nd 69 (nd 66 (lf 65 (o_ic (nI 1) 66)) (lf 66 (o_ceq 72 69))) (nd 71 (lf 69 (o_ic (-2) 71)) (lf 71 (o_iret)))))) (nd 84 (nd 77 (nd 73 (lf 72 (o_al 0 73)) (nd 75 (lf 73 (o_al 5 75)) (lf 75 (o_al 5 77)))) (nd 82 (nd 80 (lf 77 (o_getf 0 1 80)) (lf 80 (o_il 6 82))) (nd 83 (lf 82 (o_ic (nI 2) 83)) (lf 83 (o_iadd 84))))) (nd 88 (nd 85 (lf 84 (o_ic (nI 2) 85)) (nd 87 (lf 85 (o_il 4 87)) (lf 87 (o_imul 88)))) (nd 92 (nd 89 (lf 88 (o_iadd 89)) (lf 89 (o_invV 64 4 1 92))) (nd 95 (lf 92 (o_invV 106 6 2 95)) (lf 95 (o_iret))))))))
def k_CP_told : Cd := (nd 81 (nd 37 (nd 18 (nd 9 (nd 2 (nd 1 (lf 0 (o_al 0 1)) (lf 1 (o_il 1 2))) (nd 5 (lf 2 (o_invV 105 6 1 5)) (nd 7 (lf 5 (o_as 5 7)) (lf 7 (o_al 5 9))))) (nd 13 (nd 12 (lf 9 (o_ifnn 14 12)) (lf 12 (o_ic (-1) 13))) (nd 14 (lf 13 (o_iret)) (nd 15 (lf 14 (o_il 2 15)) (lf 15 (o_ifeq 26 18)))))) (nd 26 (nd 20 (nd 19 (lf 18 (o_il 2 19)) (lf 19 (o_ic (nI 1) 20))) (nd 23 (lf 20 (o_ceq 26 23)) (nd 25 (lf 23 (o_ic (-2) 25)) (lf 25 (o_iret))))) (nd 30 (nd 28 (lf 26 (o_al 5 28)) (nd 29 (lf 28 (o_il 2 29)) (lf 29 (o_il 3 30)))) (nd 33 (lf 30 (o_invV 9 0 2 33)) (nd 35 (lf 33 (o_is 6 35)) (lf 35 (o_il 6 37))))))) (nd 55 (nd 45 (nd 41 (nd 38 (lf 37 (o_ic (-1) 38)) (lf 38 (o_cne 43 41))) (nd 42 (lf 41 (o_ic (-1) 42)) (nd 43 (lf 42 (o_iret)) (lf 43 (o_al 5 45))))) (nd 50 (nd 48 (lf 45 (o_getf 0 1 48)) (lf 48 (o_il 6 50))) (nd 51 (lf 50 (o_ic (nI 4) 51)) (nd 52 (lf 51 (o_iadd 52)) (lf 52 (o_invV 64 4 1 55)))))) (nd 67 (nd 59 (nd 57 (lf 55 (o_is 7 57)) (lf 57 (o_al 5 59))) (nd 62 (lf 59 (o_getf 0 0 62)) (nd 64 (lf 62 (o_il 7 64)) (lf 64 (o_invV 26 1 1 67))))) (nd 73 (nd 69 (lf 67 (o_is 8 69)) (nd 71 (lf 69 (o_il 8 71)) (lf 71 (o_al 5 73)))) (nd 76 (lf 73 (o_getf 0 0 76)) (nd 78 (lf 76 (o_il 7 78)) (lf 78 (o_invV 27 1 1 81)))))))) (nd 152 (nd 129 (nd 118 (nd 84 (nd 82 (lf 81 (o_iadd 82)) (lf 82 (o_is 9 84))) (nd 86 (lf 84 (o_il 4 86)) (nd 116 (lf 86 (o_sw [(0, 116), (1, 127), (2, 141), (3, 172)] 194)) (lf 116 (o_al 5 118))))) (nd 123 (nd 121 (lf 118 (o_getf 0 1 121)) (lf 121 (o_il 6 123))) (nd 126 (lf 123 (o_invV 64 4 1 126)) (nd 127 (lf 126 (o_iret)) (lf 127 (o_al 5 129)))))) (nd 140 (nd 134 (nd 132 (lf 129 (o_getf 0 1 132)) (lf 132 (o_il 6 134))) (nd 136 (lf 134 (o_ic (nI 6) 136)) (nd 137 (lf 136 (o_iadd 137)) (lf 137 (o_invV 64 4 1 140))))) (nd 145 (nd 141 (lf 140 (o_iret)) (nd 142 (lf 141 (o_il 2 142)) (lf 142 (o_ifne 158 145)))) (nd 147 (lf 145 (o_al 5 147)) (nd 150 (lf 147 (o_getf 0 1 150)) (lf 150 (o_il 8 152))))))) (nd 176 (nd 165 (nd 158 (nd 155 (lf 152 (o_inv 75 2 155)) (lf 155 (o_goto 171))) (nd 160 (lf 158 (o_al 5 160)) (nd 163 (lf 160 (o_getf 0 1 163)) (lf 163 (o_il 8 165))))) (nd 171 (nd 167 (lf 165 (o_il 9 167)) (nd 168 (lf 167 (o_ic (nI 1) 168)) (lf 168 (o_inv 76 4 171)))) (nd 172 (lf 171 (o_iret)) (nd 173 (lf 172 (o_il 2 173)) (lf 173 (o_ifne 180 176)))))) (nd 187 (nd 180 (nd 177 (lf 176 (o_ic (nI 0) 177)) (lf 177 (o_goto 193))) (nd 182 (lf 180 (o_al 5 182)) (nd 185 (lf 182 (o_getf 0 1 185)) (lf 185 (o_il 8 187))))) (nd 193 (nd 189 (lf 187 (o_il 9 189)) (nd 190 (lf 189 (o_ic (nI 0) 190)) (lf 190 (o_inv 76 4 193)))) (nd 194 (lf 193 (o_iret)) (nd 196 (lf 194 (o_ic (-2) 196)) (lf 196 (o_iret)))))))))
def k_CP_attribute : Cd := (nd 49 (nd 24 (nd 13 (nd 5 (nd 1 (lf 0 (o_al 0 1)) (nd 2 (lf 1 (o_il 1 2)) (lf 2 (o_invV 105 6 1 5)))) (nd 9 (nd 7 (lf 5 (o_as 6 7)) (lf 7 (o_al 6 9))) (nd 12 (lf 9 (o_ifnn 14 12)) (lf 12 (o_ic (-1) 13))))) (nd 18 (nd 14 (lf 13 (o_iret)) (nd 15 (lf 14 (o_il 2 15)) (lf 15 (o_ifeq 31 18)))) (nd 20 (nd 19 (lf 18 (o_il 2 19)) (lf 19 (o_ic (nI 1) 20))) (nd 23 (lf 20 (o_ceq 31 23)) (lf 23 (o_il 2 24)))))) (nd 35 (nd 30 (nd 25 (lf 24 (o_ic (nI 2) 25)) (nd 28 (lf 25 (o_ceq 31 28)) (lf 28 (o_ic (-2) 30)))) (nd 33 (nd 31 (lf 30 (o_iret)) (lf 31 (o_al 6 33))) (nd 34 (lf 33 (o_il 2 34)) (lf 34 (o_il 3 35))))) (nd 42 (nd 37 (lf 35 (o_il 4 37)) (nd 40 (lf 37 (o_invV 13 0 3 40)) (lf 40 (o_is 7 42)))) (nd 45 (nd 44 (lf 42 (o_il 7 44)) (lf 44 (o_ic (-1) 45))) (nd 48 (lf 45 (o_cne 50 48)) (lf 48 (o_ic (-1) 49))))))) (nd 103 (nd 88 (nd 80 (nd 50 (lf 49 (o_iret)) (nd 52 (lf 50 (o_il 5 52)) (lf 52 (o_sw [(0, 80), (1, 97)] 127)))) (nd 83 (nd 81 (lf 80 (o_al 0 81)) (lf 81 (o_al 6 83))) (nd 85 (lf 83 (o_al 6 85)) (lf 85 (o_getf 0 1 88))))) (nd 96 (nd 90 (lf 88 (o_il 7 90)) (nd 93 (lf 90 (o_invV 64 4 1 93)) (lf 93 (o_invV 106 6 2 96)))) (nd 98 (nd 97 (lf 96 (o_iret)) (lf 97 (o_al 0 98))) (nd 101 (lf 98 (o_getf 6 1 101)) (lf 101 (o_al 6 103)))))) (nd 118 (nd 110 (nd 106 (lf 103 (o_getf 0 1 106)) (nd 108 (lf 106 (o_il 7 108)) (lf 108 (o_ic (nI 6) 110)))) (nd 113 (nd 111 (lf 110 (o_iadd 111)) (lf 111 (o_al 6 113))) (nd 116 (lf 113 (o_getf 0 1 116)) (lf 116 (o_il 7 118))))) (nd 123 (nd 119 (lf 118 (o_ic (nI 2) 119)) (nd 120 (lf 119 (o_iadd 120)) (lf 120 (o_invV 65 4 1 123)))) (nd 127 (nd 126 (lf 123 (o_invV 71 4 3 126)) (lf 126 (o_iret))) (nd 129 (lf 127 (o_ic (-2) 129)) (lf 129 (o_iret))))))))
def k_CP_out : Cd := (nd 12 (nd 5 (nd 1 (lf 0 (o_al 0 1)) (nd 4 (lf 1 (o_getf 6 1 4)) (lf 4 (o_il 1 5)))) (nd 6 (lf 5 (o_ic (nI 1) 6)) (nd 9 (lf 6 (o_invV 62 4 2 9)) (lf 9 (o_ifeq 23 12))))) (nd 17 (nd 13 (lf 12 (o_al 0 13)) (nd 16 (lf 13 (o_getf 6 1 16)) (lf 16 (o_il 1 17)))) (nd 23 (nd 20 (lf 17 (o_invV 63 4 1 20)) (lf 20 (o_goto 24))) (nd 24 (lf 23 (o_ic (-1) 24)) (lf 24 (o_iret))))))
def k_CP_join : Cd := (nd 44 (nd 20 (nd 10 (nd 7 (nd 1 (lf 0 (o_al 0 1)) (nd 4 (lf 1 (o_getf 6 6 4)) (lf 4 (o_invV 34 2 0 7)))) (nd 8 (lf 7 (o_ic (nI 1) 8)) (nd 9 (lf 8 (o_is 1 9)) (lf 9 (o_ic (nI 0) 10))))) (nd 13 (nd 11 (lf 10 (o_is 2 11)) (nd 12 (lf 11 (o_il 2 12)) (lf 12 (o_al 0 13)))) (nd 16 (lf 13 (o_getf 6 3 16)) (nd 19 (lf 16 (o_cge 59 19)) (lf 19 (o_il 1 20)))))) (nd 30 (nd 25 (nd 23 (lf 20 (o_ifeq 59 23)) (nd 24 (lf 23 (o_al 0 24)) (lf 24 (o_il 2 25)))) (nd 28 (lf 25 (o_invV 105 6 1 28)) (nd 29 (lf 28 (o_as 3 29)) (lf 29 (o_al 3 30))))) (nd 37 (nd 33 (lf 30 (o_ifn 51 33)) (nd 34 (lf 33 (o_al 0 34)) (lf 34 (o_getf 6 6 37)))) (nd 38 (lf 37 (o_al 3 38)) (nd 41 (lf 38 (o_getf 0 0 41)) (lf 41 (o_invV 36 2 1 44))))))) (nd 67 (nd 56 (nd 51 (nd 47 (lf 44 (o_ifeq 51 47)) (nd 48 (lf 47 (o_ic (nI 1) 48)) (lf 48 (o_goto 52)))) (nd 52 (lf 51 (o_ic (nI 0) 52)) (nd 53 (lf 52 (o_is 1 53)) (lf 53 (o_inc 2 (nI 1) 56))))) (nd 63 (nd 59 (lf 56 (o_goto 11)) (nd 60 (lf 59 (o_il 1 60)) (lf 60 (o_ifne 66 63)))) (nd 65 (lf 63 (o_ic (-3) 65)) (nd 66 (lf 65 (o_iret)) (lf 66 (o_al 0 67)))))) (nd 79 (nd 72 (nd 70 (lf 67 (o_getf 6 5 70)) (nd 71 (lf 70 (o_as 2 71)) (lf 71 (o_al 0 72)))) (nd 73 (lf 72 (o_al 0 73)) (nd 76 (lf 73 (o_getf 6 6 76)) (lf 76 (o_putf 6 5 2 79))))) (nd 84 (nd 80 (lf 79 (o_al 0 80)) (nd 81 (lf 80 (o_al 2 81)) (lf 81 (o_putf 6 6 2 84)))) (nd 88 (nd 85 (lf 84 (o_al 0 85)) (lf 85 (o_getf 6 5 88))) (nd 91 (lf 88 (o_invV 35 2 0 91)) (lf 91 (o_iret))))))))
def k_CP_joined : Cd := (nd 18 (nd 7 (nd 2 (nd 1 (lf 0 (o_al 0 1)) (lf 1 (o_il 1 2))) (nd 5 (lf 2 (o_invV 105 6 1 5)) (nd 6 (lf 5 (o_as 3 6)) (lf 6 (o_al 3 7))))) (nd 11 (nd 10 (lf 7 (o_ifn 21 10)) (lf 10 (o_al 3 11))) (nd 14 (lf 11 (o_getf 0 0 14)) (nd 15 (lf 14 (o_il 2 15)) (lf 15 (o_invV 22 1 1 18)))))) (nd 27 (nd 22 (nd 21 (lf 18 (o_ifne 23 21)) (lf 21 (o_ic (-1) 22))) (nd 23 (lf 22 (o_iret)) (nd 24 (lf 23 (o_al 0 24)) (lf 24 (o_getf 6 5 27))))) (nd 31 (nd 28 (lf 27 (o_al 3 28)) (lf 28 (o_getf 0 0 31))) (nd 32 (lf 31 (o_il 2 32)) (nd 35 (lf 32 (o_invV 38 2 2 35)) (lf 35 (o_iret)))))))
def k_CP_meaning : Cd := (nd 44 (nd 9 (nd 4 (nd 1 (lf 0 (o_il 1 1)) (lf 1 (o_iflt 15 4))) (nd 5 (lf 4 (o_il 1 5)) (nd 6 (lf 5 (o_al 0 6)) (lf 6 (o_getf 6 5 9))))) (nd 16 (nd 12 (lf 9 (o_invV 35 2 0 12)) (nd 15 (lf 12 (o_clt 17 15)) (lf 15 (o_ic (-1) 16)))) (nd 17 (lf 16 (o_iret)) (nd 18 (lf 17 (o_il 2 18)) (lf 18 (o_sw [(0, 44), (1, 53)] 59)))))) (nd 53 (nd 48 (nd 45 (lf 44 (o_al 0 45)) (lf 45 (o_getf 6 5 48))) (nd 49 (lf 48 (o_il 1 49)) (nd 52 (lf 49 (o_invV 43 2 1 52)) (lf 52 (o_iret))))) (nd 58 (nd 54 (lf 53 (o_al 0 54)) (nd 55 (lf 54 (o_il 1 55)) (lf 55 (o_invV 108 6 1 58)))) (nd 59 (lf 58 (o_iret)) (nd 61 (lf 59 (o_ic (-2) 61)) (lf 61 (o_iret)))))))
def k_CP_alike : Cd := (nd 33 (nd 14 (nd 6 (nd 2 (nd 1 (lf 0 (o_al 0 1)) (lf 1 (o_il 1 2))) (nd 5 (lf 2 (o_invV 105 6 1 5)) (lf 5 (o_as 3 6)))) (nd 8 (nd 7 (lf 6 (o_al 0 7)) (lf 7 (o_il 2 8))) (nd 11 (lf 8 (o_invV 105 6 1 11)) (nd 13 (lf 11 (o_as 4 13)) (lf 13 (o_al 3 14)))))) (nd 24 (nd 19 (nd 17 (lf 14 (o_ifn 22 17)) (lf 17 (o_al 4 19))) (nd 22 (lf 19 (o_ifnn 24 22)) (nd 23 (lf 22 (o_ic (-1) 23)) (lf 23 (o_iret))))) (nd 28 (nd 25 (lf 24 (o_al 3 25)) (lf 25 (o_getf 0 1 28))) (nd 29 (lf 28 (o_ic (nI 0) 29)) (nd 30 (lf 29 (o_al 3 30)) (lf 30 (o_getf 0 1 33))))))) (nd 56 (nd 42 (nd 38 (nd 36 (lf 33 (o_invV 61 4 0 36)) (lf 36 (o_al 4 38))) (nd 41 (lf 38 (o_getf 0 1 41)) (lf 41 (o_ic (nI 0) 42)))) (nd 47 (nd 44 (lf 42 (o_al 4 44)) (lf 44 (o_getf 0 1 47))) (nd 50 (lf 47 (o_invV 61 4 0 50)) (nd 53 (lf 50 (o_invV 72 4 5 53)) (lf 53 (o_ifne 58 56)))))) (nd 64 (nd 58 (nd 57 (lf 56 (o_ic (nI 2) 57)) (lf 57 (o_iret))) (nd 59 (lf 58 (o_al 3 59)) (nd 61 (lf 59 (o_al 4 61)) (lf 61 (o_invV 14 0 1 64))))) (nd 68 (nd 67 (lf 64 (o_ifeq 71 67)) (lf 67 (o_ic (nI 1) 68))) (nd 71 (lf 68 (o_goto 72)) (nd 72 (lf 71 (o_ic (nI 0) 72)) (lf 72 (o_iret))))))))
def k_CP_write : Cd := (nd 43 (nd 20 (nd 10 (nd 5 (nd 1 (lf 0 (o_al 0 1)) (nd 2 (lf 1 (o_il 1 2)) (lf 2 (o_invV 105 6 1 5)))) (nd 6 (lf 5 (o_as 3 6)) (nd 7 (lf 6 (o_al 3 7)) (lf 7 (o_ifnn 12 10))))) (nd 13 (nd 11 (lf 10 (o_ic (-1) 11)) (nd 12 (lf 11 (o_iret)) (lf 12 (o_il 2 13)))) (nd 16 (lf 13 (o_ifne 36 16)) (nd 17 (lf 16 (o_al 0 17)) (lf 17 (o_getf 6 1 20)))))) (nd 32 (nd 25 (nd 21 (lf 20 (o_al 3 21)) (nd 24 (lf 21 (o_getf 0 1 24)) (lf 24 (o_ic (nI 0) 25)))) (nd 26 (lf 25 (o_al 3 26)) (nd 29 (lf 26 (o_getf 0 1 29)) (lf 29 (o_invV 61 4 0 32))))) (nd 37 (nd 35 (lf 32 (o_invV 71 4 3 35)) (nd 36 (lf 35 (o_iret)) (lf 36 (o_il 2 37)))) (nd 38 (lf 37 (o_ic (nI 1) 38)) (nd 41 (lf 38 (o_ceq 44 41)) (lf 41 (o_ic (-2) 43))))))) (nd 67 (nd 55 (nd 48 (nd 44 (lf 43 (o_iret)) (nd 45 (lf 44 (o_al 0 45)) (lf 45 (o_getf 6 6 48)))) (nd 51 (lf 48 (o_invV 34 2 0 51)) (nd 52 (lf 51 (o_al 0 52)) (lf 52 (o_getf 6 6 55))))) (nd 62 (nd 56 (lf 55 (o_al 3 56)) (nd 59 (lf 56 (o_getf 0 0 59)) (lf 59 (o_invV 36 2 1 62)))) (nd 63 (lf 62 (o_pop 63)) (nd 64 (lf 63 (o_al 0 64)) (lf 64 (o_getf 6 7 67)))))) (nd 78 (nd 72 (nd 68 (lf 67 (o_al 3 68)) (nd 69 (lf 68 (o_al 0 69)) (lf 69 (o_getf 6 6 72)))) (nd 75 (lf 72 (o_invV 81 5 2 75)) (nd 77 (lf 75 (o_is 4 77)) (lf 77 (o_al 0 78))))) (nd 83 (nd 81 (lf 78 (o_getf 6 7 81)) (nd 82 (lf 81 (o_al 3 82)) (lf 82 (o_al 0 83)))) (nd 88 (nd 86 (lf 83 (o_getf 6 6 86)) (lf 86 (o_il 4 88))) (nd 91 (lf 88 (o_invV 82 5 3 91)) (lf 91 (o_iret))))))))
def k_CP_back : Cd := (nd 9 (nd 4 (nd 1 (lf 0 (o_al 0 1)) (lf 1 (o_getf 6 0 4))) (nd 5 (lf 4 (o_al 0 5)) (nd 8 (lf 5 (o_getf 6 1 8)) (lf 8 (o_ic (nI 0) 9))))) (nd 13 (nd 10 (lf 9 (o_al 0 10)) (lf 10 (o_getf 6 1 13))) (nd 16 (lf 13 (o_invV 61 4 0 16)) (nd 19 (lf 16 (o_invV 71 4 3 19)) (lf 19 (o_iret))))))
def k_CP_fileAt : Cd := (nd 17 (nd 6 (nd 4 (nd 1 (lf 0 (o_il 1 1)) (lf 1 (o_iflt 30 4))) (nd 5 (lf 4 (o_il 1 5)) (lf 5 (o_al 0 6)))) (nd 12 (nd 9 (lf 6 (o_getf 6 3 9)) (lf 9 (o_cge 30 12))) (nd 13 (lf 12 (o_il 1 13)) (nd 14 (lf 13 (o_al 0 14)) (lf 14 (o_getf 6 2 17)))))) (nd 25 (nd 21 (nd 18 (lf 17 (o_alen 18)) (lf 18 (o_cge 30 21))) (nd 22 (lf 21 (o_al 0 22)) (lf 22 (o_getf 6 2 25)))) (nd 27 (nd 26 (lf 25 (o_il 1 26)) (lf 26 (o_aald 27))) (nd 30 (lf 27 (o_goto 31)) (nd 31 (lf 30 (o_nul 31)) (lf 31 (o_aret)))))))
def k_CP_showText : Cd := (nd 13 (nd 5 (nd 1 (lf 0 (o_al 0 1)) (nd 4 (lf 1 (o_getf 6 1 4)) (lf 4 (o_al 1 5)))) (nd 9 (nd 8 (lf 5 (o_getf 0 1 8)) (lf 8 (o_al 1 9))) (nd 12 (lf 9 (o_getf 0 0 12)) (lf 12 (o_il 2 13))))) (nd 20 (nd 16 (lf 13 (o_invV 26 1 1 16)) (nd 17 (lf 16 (o_al 1 17)) (lf 17 (o_getf 0 0 20)))) (nd 24 (nd 21 (lf 20 (o_il 2 21)) (lf 21 (o_invV 27 1 1 24))) (nd 27 (lf 24 (o_invV 71 4 3 27)) (lf 27 (o_iret))))))
def k_CP_showClass : Cd := (nd 18 (nd 9 (nd 2 (nd 1 (lf 0 (o_al 1 1)) (lf 1 (o_il 2 2))) (nd 5 (lf 2 (o_invV 11 0 1 5)) (nd 7 (lf 5 (o_is 4 7)) (lf 7 (o_il 4 9))))) (nd 13 (nd 12 (lf 9 (o_ifne 14 12)) (lf 12 (o_ic (-1) 13))) (nd 14 (lf 13 (o_iret)) (nd 15 (lf 14 (o_il 3 15)) (lf 15 (o_ifne 36 18)))))) (nd 26 (nd 20 (nd 19 (lf 18 (o_al 0 19)) (lf 19 (o_al 1 20))) (nd 21 (lf 20 (o_al 1 21)) (nd 24 (lf 21 (o_getf 0 0 24)) (lf 24 (o_il 4 26))))) (nd 33 (nd 27 (lf 26 (o_ic (nI 0) 27)) (nd 30 (lf 27 (o_invV 31 1 2 30)) (lf 30 (o_invV 106 6 2 33)))) (nd 36 (lf 33 (o_goto 38)) (nd 38 (lf 36 (o_ic (-2) 38)) (lf 38 (o_iret)))))))
def k_CP_placesOf : Cd := (nd 21 (nd 6 (nd 3 (nd 1 (lf 0 (o_ic (nI 0) 1)) (nd 2 (lf 1 (o_is 2 2)) (lf 2 (o_ic (nI 0) 3)))) (nd 4 (lf 3 (o_is 3 4)) (nd 5 (lf 4 (o_il 3 5)) (lf 5 (o_al 0 6))))) (nd 13 (nd 9 (lf 6 (o_getf 6 3 9)) (nd 12 (lf 9 (o_cge 46 12)) (lf 12 (o_al 0 13)))) (nd 17 (nd 14 (lf 13 (o_il 3 14)) (lf 14 (o_invV 105 6 1 17))) (nd 19 (lf 17 (o_as 4 19)) (lf 19 (o_al 4 21)))))) (nd 35 (nd 26 (nd 24 (lf 21 (o_ifn 40 24)) (nd 25 (lf 24 (o_il 2 25)) (lf 25 (o_al 0 26)))) (nd 30 (nd 29 (lf 26 (o_getf 6 5 29)) (lf 29 (o_il 1 30))) (nd 32 (lf 30 (o_al 4 32)) (lf 32 (o_getf 0 0 35))))) (nd 40 (nd 38 (lf 35 (o_invV 44 2 2 38)) (nd 39 (lf 38 (o_iadd 39)) (lf 39 (o_is 2 40)))) (nd 46 (nd 43 (lf 40 (o_inc 3 (nI 1) 43)) (lf 43 (o_goto 4))) (nd 47 (lf 46 (o_il 2 47)) (lf 47 (o_iret)))))))
def k_CP_isNumber : Cd := (nd 8 (nd 2 (nd 1 (lf 0 (o_il 0 1)) (lf 1 (o_ic (nI 3) 2))) (nd 5 (lf 2 (o_clt 15 5)) (nd 6 (lf 5 (o_il 0 6)) (lf 6 (o_ic (nI 6) 8))))) (nd 12 (nd 11 (lf 8 (o_cgt 15 11)) (lf 11 (o_ic (nI 1) 12))) (nd 15 (lf 12 (o_goto 16)) (nd 16 (lf 15 (o_ic (nI 0) 16)) (lf 16 (o_zret))))))
def k_CP_isWide : Cd := (nd 8 (nd 2 (nd 1 (lf 0 (o_il 0 1)) (lf 1 (o_ic (nI 5) 2))) (nd 5 (lf 2 (o_ceq 11 5)) (nd 6 (lf 5 (o_il 0 6)) (lf 6 (o_ic (nI 6) 8))))) (nd 12 (nd 11 (lf 8 (o_cne 15 11)) (lf 11 (o_ic (nI 1) 12))) (nd 15 (lf 12 (o_goto 16)) (nd 16 (lf 15 (o_ic (nI 0) 16)) (lf 16 (o_zret))))))
def k_CP_isTag : Cd := (nd 10 (nd 5 (nd 1 (lf 0 (o_il 0 1)) (nd 2 (lf 1 (o_ic (nI 1) 2)) (lf 2 (o_ceq 16 5)))) (nd 6 (lf 5 (o_il 0 6)) (nd 7 (lf 6 (o_ic (nI 3) 7)) (lf 7 (o_clt 20 10))))) (nd 16 (nd 11 (lf 10 (o_il 0 11)) (nd 13 (lf 11 (o_ic (nI 12) 13)) (lf 13 (o_cgt 20 16)))) (nd 20 (nd 17 (lf 16 (o_ic (nI 1) 17)) (lf 17 (o_goto 21))) (nd 21 (lf 20 (o_ic (nI 0) 21)) (lf 21 (o_zret))))))
def k_MA_init : Cd := (nd 5 (nd 1 (lf 0 (o_al 0 1)) (nd 4 (lf 1 (o_pop0 4)) (lf 4 (o_al 0 5)))) (nd 9 (nd 7 (lf 5 (o_ic (nI 6) 7)) (lf 7 (o_newi 1 9))) (nd 12 (lf 9 (o_putf 7 1 2 12)) (lf 12 (o_vret)))))
def k_MH_init : Cd := (nd 31 (nd 15 (nd 7 (nd 4 (nd 1 (lf 0 (o_al 0 1)) (lf 1 (o_pop0 4))) (nd 5 (lf 4 (o_al 0 5)) (lf 5 (o_ic (nI 61) 7)))) (nd 12 (nd 9 (lf 7 (o_newi 1 9)) (lf 9 (o_putf 8 2 2 12))) (nd 13 (lf 12 (o_al 0 13)) (lf 13 (o_ic (nI 61) 15))))) (nd 23 (nd 20 (nd 17 (lf 15 (o_newi 1 17)) (lf 17 (o_putf 8 3 2 20))) (nd 21 (lf 20 (o_al 0 21)) (lf 21 (o_ic (nI 61) 23)))) (nd 29 (nd 26 (lf 23 (o_newq 4 26)) (lf 26 (o_putf 8 4 2 29))) (nd 30 (lf 29 (o_al 0 30)) (lf 30 (o_ic (nI 2) 31)))))) (nd 44 (nd 38 (nd 35 (nd 34 (lf 31 (o_newq 9 34)) (lf 34 (o_dup 35))) (nd 36 (lf 35 (o_ic (nI 0) 36)) (lf 36 (o_ic (nI 12) 38)))) (nd 42 (nd 41 (lf 38 (o_newq 8 41)) (lf 41 (o_aast 9 16 42))) (nd 43 (lf 42 (o_dup 43)) (lf 43 (o_ic (nI 1) 44))))) (nd 53 (nd 49 (nd 46 (lf 44 (o_ic (nI 12) 46)) (lf 46 (o_newq 8 49))) (nd 50 (lf 49 (o_aast 9 16 50)) (lf 50 (o_putf 8 7 2 53)))) (nd 55 (nd 54 (lf 53 (o_al 0 54)) (lf 54 (o_ic (nI 2) 55))) (nd 57 (lf 55 (o_newi 1 57)) (nd 60 (lf 57 (o_putf 8 8 2 60)) (lf 60 (o_vret))))))))
def k_MH_two : Cd := (nd 14 (nd 6 (nd 4 (nd 1 (lf 0 (o_al 0 1)) (lf 1 (o_getf 8 0 4))) (nd 5 (lf 4 (o_il 1 5)) (lf 5 (o_iald 0 6)))) (nd 10 (nd 9 (lf 6 (o_ic (nI 255) 9)) (lf 9 (o_iand 10))) (nd 12 (lf 10 (o_ic (nI 8) 12)) (nd 13 (lf 12 (o_ishl 13)) (lf 13 (o_al 0 14)))))) (nd 20 (nd 18 (nd 17 (lf 14 (o_getf 8 0 17)) (lf 17 (o_il 1 18))) (nd 19 (lf 18 (o_ic (nI 1) 19)) (lf 19 (o_iadd 20)))) (nd 24 (nd 21 (lf 20 (o_iald 0 21)) (lf 21 (o_ic (nI 255) 24))) (nd 25 (lf 24 (o_iand 25)) (nd 26 (lf 25 (o_ior 26)) (lf 26 (o_iret)))))))
def k_MH_four : Cd := (nd 9 (nd 5 (nd 1 (lf 0 (o_al 0 1)) (nd 2 (lf 1 (o_il 1 2)) (lf 2 (o_invV 114 8 1 5)))) (nd 7 (lf 5 (o_ic (nI 16) 7)) (nd 8 (lf 7 (o_ishl 8)) (lf 8 (o_al 0 9))))) (nd 12 (nd 10 (lf 9 (o_il 1 10)) (nd 11 (lf 10 (o_ic (nI 2) 11)) (lf 11 (o_iadd 12)))) (nd 15 (lf 12 (o_invV 114 8 1 15)) (nd 16 (lf 15 (o_ior 16)) (lf 16 (o_iret))))))
def k_MH_bits : Cd := (nd 30 (nd 14 (nd 7 (nd 4 (nd 1 (lf 0 (o_al 0 1)) (lf 1 (o_getf 8 3 4))) (nd 5 (lf 4 (o_il 1 5)) (nd 6 (lf 5 (o_iald 1 6)) (lf 6 (o_ic (nI 1) 7))))) (nd 9 (nd 8 (lf 7 (o_iadd 8)) (lf 8 (o_is 2 9))) (nd 10 (lf 9 (o_al 0 10)) (nd 13 (lf 10 (o_getf 8 2 13)) (lf 13 (o_il 1 14)))))) (nd 23 (nd 16 (nd 15 (lf 14 (o_iald 1 15)) (lf 15 (o_ic (nI 3) 16))) (nd 19 (lf 16 (o_ceq 29 19)) (nd 20 (lf 19 (o_al 0 20)) (lf 20 (o_getf 8 2 23))))) (nd 25 (nd 24 (lf 23 (o_il 1 24)) (lf 24 (o_iald 1 25))) (nd 26 (lf 25 (o_ic (nI 4) 26)) (nd 29 (lf 26 (o_cne 38 29)) (lf 29 (o_al 0 30))))))) (nd 47 (nd 39 (nd 34 (nd 31 (lf 30 (o_il 2 31)) (lf 31 (o_invV 115 8 1 34))) (nd 35 (lf 34 (o_i2l 35)) (nd 38 (lf 35 (o_goto 60)) (lf 38 (o_al 0 39))))) (nd 43 (nd 40 (lf 39 (o_il 2 40)) (lf 40 (o_invV 115 8 1 43))) (nd 44 (lf 43 (o_i2l 44)) (nd 46 (lf 44 (o_ic (nI 32) 46)) (lf 46 (o_lshl 47)))))) (nd 54 (nd 49 (nd 48 (lf 47 (o_al 0 48)) (lf 48 (o_il 2 49))) (nd 50 (lf 49 (o_ic (nI 4) 50)) (nd 51 (lf 50 (o_iadd 51)) (lf 51 (o_invV 115 8 1 54))))) (nd 58 (nd 55 (lf 54 (o_i2l 55)) (lf 55 (o_lc (4294967295) 58))) (nd 59 (lf 58 (o_land 59)) (nd 60 (lf 59 (o_lor 60)) (lf 60 (o_lret))))))))
def k_MH_first : Cd := (nd 6 (nd 2 (nd 1 (lf 0 (o_al 0 1)) (lf 1 (o_al 0 2))) (nd 5 (lf 2 (o_getf 8 3 5)) (lf 5 (o_il 1 6)))) (nd 8 (nd 7 (lf 6 (o_iald 1 7)) (lf 7 (o_ic (nI 1) 8))) (nd 9 (lf 8 (o_iadd 9)) (nd 12 (lf 9 (o_invV 114 8 1 12)) (lf 12 (o_iret))))))
def k_MH_second : Cd := (nd 6 (nd 2 (nd 1 (lf 0 (o_al 0 1)) (lf 1 (o_al 0 2))) (nd 5 (lf 2 (o_getf 8 3 5)) (lf 5 (o_il 1 6)))) (nd 8 (nd 7 (lf 6 (o_iald 1 7)) (lf 7 (o_ic (nI 3) 8))) (nd 9 (lf 8 (o_iadd 9)) (nd 12 (lf 9 (o_invV 114 8 1 12)) (lf 12 (o_iret))))))
def k_MM_init (nb sa : Nat) : Cd := (nd 12 (nd 5 (nd 1 (lf 0 (o_al 0 1)) (nd 4 (lf 1 (o_pop0 4)) (lf 4 (o_al 0 5)))) (nd 8 (lf 5 (o_ref nb 8)) (nd 11 (lf 8 (o_putf 9 2 2 11)) (lf 11 (o_al 0 12))))) (nd 19 (nd 15 (lf 12 (o_ref nb 15)) (nd 18 (lf 15 (o_putf 9 3 2 18)) (lf 18 (o_al 0 19)))) (nd 22 (lf 19 (o_ref nb 22)) (nd 25 (lf 22 (o_putf 9 4 2 25)) (lf 25 (o_vret))))))
def k_MB_init : Cd := (nd 1 (lf 0 (o_al 0 1)) (nd 4 (lf 1 (o_pop0 4)) (lf 4 (o_vret))))
def k_MO_init : Cd := (nd 30 (nd 14 (nd 5 (nd 1 (lf 0 (o_al 0 1)) (nd 4 (lf 1 (o_pop0 4)) (lf 4 (o_al 0 5)))) (nd 10 (nd 7 (lf 5 (o_ic (nI 6) 7)) (lf 7 (o_newq 7 10))) (nd 13 (lf 10 (o_putf 11 1 2 13)) (lf 13 (o_al 0 14))))) (nd 23 (nd 19 (nd 17 (lf 14 (o_ic (nI 400) 17)) (lf 17 (o_newi 0 19))) (nd 22 (lf 19 (o_putf 11 3 2 22)) (lf 22 (o_al 0 23)))) (nd 26 (nd 24 (lf 23 (o_ic (nI 0) 24)) (lf 24 (o_newi 0 26))) (nd 29 (lf 26 (o_putf 11 5 2 29)) (lf 29 (o_al 0 30)))))) (nd 43 (nd 35 (nd 31 (lf 30 (o_ic (-1) 31)) (nd 34 (lf 31 (o_putf 11 9 0 34)) (lf 34 (o_al 0 35)))) (nd 39 (nd 36 (lf 35 (o_ic (nI 0) 36)) (lf 36 (o_newq 10 39))) (nd 42 (lf 39 (o_putf 11 10 2 42)) (lf 42 (o_al 0 43))))) (nd 52 (nd 48 (nd 46 (lf 43 (o_ic (nI 408) 46)) (lf 46 (o_newi 0 48))) (nd 51 (lf 48 (o_putf 11 12 2 51)) (lf 51 (o_al 0 52)))) (nd 57 (nd 55 (lf 52 (o_ic (nI 152) 55)) (lf 55 (o_newi 1 57))) (nd 60 (lf 57 (o_putf 11 16 2 60)) (lf 60 (o_vret)))))))
def k_MO_thrown : Cd := (nd 1 (lf 0 (o_al 0 1)) (nd 4 (lf 1 (o_getf 11 0 4)) (lf 4 (o_iret))))
def k_MO_isIn : Cd := (nd 7 (nd 2 (nd 1 (lf 0 (o_il 0 1)) (lf 1 (o_il 1 2))) (nd 5 (lf 2 (o_clt 14 5)) (nd 6 (lf 5 (o_il 0 6)) (lf 6 (o_il 2 7))))) (nd 11 (nd 10 (lf 7 (o_cgt 14 10)) (lf 10 (o_ic (nI 1) 11))) (nd 14 (lf 11 (o_goto 15)) (nd 15 (lf 14 (o_ic (nI 0) 15)) (lf 15 (o_zret))))))
def k_MO_isFile : Cd := (nd 7 (nd 2 (nd 1 (lf 0 (o_al 0 1)) (lf 1 (o_ic (nI 0) 2))) (nd 5 (lf 2 (o_putf 11 0 0 5)) (nd 6 (lf 5 (o_il 1 6)) (lf 6 (o_ic (nI 0) 7))))) (nd 12 (nd 8 (lf 7 (o_al 0 8)) (nd 11 (lf 8 (o_getf 11 2 11)) (lf 11 (o_ic (nI 1) 12)))) (nd 13 (lf 12 (o_isub 13)) (nd 16 (lf 13 (o_inv 123 3 16)) (lf 16 (o_zret))))))
def k_MO_feed : Cd := (nd 40 (nd 19 (nd 7 (nd 2 (nd 1 (lf 0 (o_al 0 1)) (lf 1 (o_ic (nI 0) 2))) (nd 5 (lf 2 (o_putf 11 0 0 5)) (nd 6 (lf 5 (o_il 3 6)) (lf 6 (o_ic (nI 1) 7))))) (nd 15 (nd 9 (lf 7 (o_ic (nI 8) 9)) (nd 12 (lf 9 (o_inv 123 3 12)) (lf 12 (o_ifne 18 15)))) (nd 17 (lf 15 (o_ic (-2) 17)) (nd 18 (lf 17 (o_iret)) (lf 18 (o_al 0 19)))))) (nd 32 (nd 24 (nd 22 (lf 19 (o_getf 11 4 22)) (nd 23 (lf 22 (o_il 3 23)) (lf 23 (o_iadd 24)))) (nd 27 (lf 24 (o_ic (nI 400) 27)) (nd 30 (lf 27 (o_cle 33 30)) (lf 30 (o_ic (-3) 32))))) (nd 35 (nd 33 (lf 32 (o_iret)) (nd 34 (lf 33 (o_il 3 34)) (lf 34 (o_ic (nI 1) 35)))) (nd 36 (lf 35 (o_isub 36)) (nd 38 (lf 36 (o_is 4 38)) (lf 38 (o_il 4 40))))))) (nd 60 (nd 52 (nd 47 (nd 43 (lf 40 (o_iflt 77 43)) (nd 44 (lf 43 (o_al 0 44)) (lf 44 (o_getf 11 3 47)))) (nd 48 (lf 47 (o_al 0 48)) (nd 51 (lf 48 (o_getf 11 4 51)) (lf 51 (o_ll 1 52))))) (nd 57 (nd 54 (lf 52 (o_ic (nI 8) 54)) (nd 56 (lf 54 (o_il 4 56)) (lf 56 (o_imul 57)))) (nd 58 (lf 57 (o_lshr 58)) (nd 59 (lf 58 (o_l2i 59)) (lf 59 (o_i2b 60)))))) (nd 68 (nd 63 (nd 61 (lf 60 (o_bast 61)) (nd 62 (lf 61 (o_al 0 62)) (lf 62 (o_dup 63)))) (nd 66 (lf 63 (o_getf 11 4 66)) (nd 67 (lf 66 (o_ic (nI 1) 67)) (lf 67 (o_iadd 68))))) (nd 77 (nd 71 (lf 68 (o_putf 11 4 0 71)) (nd 74 (lf 71 (o_inc 4 (-1) 74)) (lf 74 (o_goto 38)))) (nd 78 (lf 77 (o_al 0 78)) (nd 81 (lf 78 (o_getf 11 4 81)) (lf 81 (o_iret))))))))
def k_MO_fails : Cd := (nd 9 (nd 4 (nd 1 (lf 0 (o_al 0 1)) (lf 1 (o_getf 11 8 4))) (nd 7 (lf 4 (o_ifne 17 7)) (nd 8 (lf 7 (o_al 0 8)) (lf 8 (o_il 1 9))))) (nd 13 (nd 12 (lf 9 (o_putf 11 8 0 12)) (lf 12 (o_al 0 13))) (nd 14 (lf 13 (o_il 2 14)) (nd 17 (lf 14 (o_putf 11 9 0 17)) (lf 17 (o_vret))))))
def k_MO_goes : Cd := (nd 34 (nd 17 (nd 8 (nd 4 (nd 1 (lf 0 (o_al 0 1)) (lf 1 (o_getf 11 8 4))) (nd 7 (lf 4 (o_ifne 37 7)) (lf 7 (o_il 1 8)))) (nd 12 (nd 9 (lf 8 (o_al 0 9)) (lf 9 (o_getf 11 6 12))) (nd 15 (lf 12 (o_getf 8 0 15)) (nd 16 (lf 15 (o_alen 16)) (lf 16 (o_al 0 17)))))) (nd 25 (nd 21 (nd 20 (lf 17 (o_getf 11 7 20)) (lf 20 (o_isub 21))) (nd 24 (lf 21 (o_cle 37 24)) (lf 24 (o_al 0 25)))) (nd 27 (nd 26 (lf 25 (o_ic (nI 1) 26)) (lf 26 (o_al 0 27))) (nd 30 (lf 27 (o_getf 11 6 30)) (nd 33 (lf 30 (o_getf 8 0 33)) (lf 33 (o_alen 34))))))) (nd 53 (nd 42 (nd 38 (nd 37 (lf 34 (o_invV 126 11 2 37)) (lf 37 (o_al 0 38))) (nd 39 (lf 38 (o_dup 39)) (lf 39 (o_getf 11 7 42)))) (nd 46 (nd 43 (lf 42 (o_al 0 43)) (lf 43 (o_getf 11 8 46))) (nd 49 (lf 46 (o_ifne 53 49)) (nd 50 (lf 49 (o_il 1 50)) (lf 50 (o_goto 54)))))) (nd 62 (nd 55 (nd 54 (lf 53 (o_ic (nI 0) 54)) (lf 54 (o_iadd 55))) (nd 58 (lf 55 (o_putf 11 7 0 58)) (nd 59 (lf 58 (o_al 0 59)) (lf 59 (o_getf 11 8 62))))) (nd 66 (nd 65 (lf 62 (o_ifne 69 65)) (lf 65 (o_ic (nI 1) 66))) (nd 69 (lf 66 (o_goto 70)) (nd 70 (lf 69 (o_ic (nI 0) 70)) (lf 70 (o_zret))))))))
def k_MO_nextTwo : Cd := (nd 13 (nd 5 (nd 1 (lf 0 (o_al 0 1)) (nd 2 (lf 1 (o_ic (nI 2) 2)) (lf 2 (o_invV 127 11 1 5)))) (nd 9 (nd 8 (lf 5 (o_ifeq 24 8)) (lf 8 (o_al 0 9))) (nd 12 (lf 9 (o_getf 11 6 12)) (lf 12 (o_al 0 13))))) (nd 18 (nd 16 (lf 13 (o_getf 11 7 16)) (nd 17 (lf 16 (o_ic (nI 2) 17)) (lf 17 (o_isub 18)))) (nd 24 (nd 21 (lf 18 (o_invV 114 8 1 21)) (lf 21 (o_goto 25))) (nd 25 (lf 24 (o_ic (nI 0) 25)) (lf 25 (o_iret))))))
def k_MO_many : Cd := (nd 16 (nd 7 (nd 4 (nd 1 (lf 0 (o_al 0 1)) (lf 1 (o_invV 128 11 0 4))) (nd 5 (lf 4 (o_is 2 5)) (nd 6 (lf 5 (o_il 2 6)) (lf 6 (o_il 1 7))))) (nd 11 (nd 10 (lf 7 (o_cle 21 10)) (lf 10 (o_al 0 11))) (nd 12 (lf 11 (o_ic (nI 3) 12)) (nd 13 (lf 12 (o_al 0 13)) (lf 13 (o_getf 11 7 16)))))) (nd 25 (nd 18 (nd 17 (lf 16 (o_ic (nI 2) 17)) (lf 17 (o_isub 18))) (nd 21 (lf 18 (o_invV 126 11 2 21)) (nd 22 (lf 21 (o_al 0 22)) (lf 22 (o_getf 11 8 25))))) (nd 29 (nd 28 (lf 25 (o_ifne 32 28)) (lf 28 (o_il 2 29))) (nd 32 (lf 29 (o_goto 33)) (nd 33 (lf 32 (o_ic (nI 0) 33)) (lf 33 (o_iret)))))))
def k_MO_parse : Cd := (nd 168 (nd 78 (nd 32 (nd 16 (nd 8 (nd 3 (nd 1 (lf 0 (o_ic (nI 4) 1)) (lf 1 (o_newi 1 3))) (nd 4 (lf 3 (o_dup 4)) (nd 5 (lf 4 (o_ic (nI 0) 5)) (lf 5 (o_ic (nI 202) 8))))) (nd 11 (nd 9 (lf 8 (o_iast 9)) (nd 10 (lf 9 (o_dup 10)) (lf 10 (o_ic (nI 1) 11)))) (nd 14 (lf 11 (o_ic (nI 254) 14)) (nd 15 (lf 14 (o_iast 15)) (lf 15 (o_dup 16)))))) (nd 26 (nd 21 (nd 17 (lf 16 (o_ic (nI 2) 17)) (nd 20 (lf 17 (o_ic (nI 186) 20)) (lf 20 (o_iast 21)))) (nd 22 (lf 21 (o_dup 22)) (nd 23 (lf 22 (o_ic (nI 3) 23)) (lf 23 (o_ic (nI 190) 26))))) (nd 29 (nd 27 (lf 26 (o_iast 27)) (nd 28 (lf 27 (o_as 1 28)) (lf 28 (o_ic (nI 0) 29)))) (nd 30 (lf 29 (o_is 2 30)) (nd 31 (lf 30 (o_il 2 31)) (lf 31 (o_ic (nI 4) 32))))))) (nd 58 (nd 44 (nd 39 (nd 35 (lf 32 (o_cge 81 35)) (nd 36 (lf 35 (o_al 0 36)) (lf 36 (o_getf 11 8 39)))) (nd 42 (lf 39 (o_ifne 81 42)) (nd 43 (lf 42 (o_al 0 43)) (lf 43 (o_ic (nI 1) 44))))) (nd 51 (nd 47 (lf 44 (o_invV 127 11 1 47)) (nd 50 (lf 47 (o_ifeq 75 50)) (lf 50 (o_al 0 51)))) (nd 54 (lf 51 (o_getf 11 6 54)) (nd 57 (lf 54 (o_getf 8 0 57)) (lf 57 (o_il 2 58)))))) (nd 66 (nd 63 (nd 59 (lf 58 (o_iald 0 59)) (nd 62 (lf 59 (o_ic (nI 255) 62)) (lf 62 (o_iand 63)))) (nd 64 (lf 63 (o_al 1 64)) (nd 65 (lf 64 (o_il 2 65)) (lf 65 (o_iald 1 66))))) (nd 71 (nd 69 (lf 66 (o_ceq 75 69)) (nd 70 (lf 69 (o_al 0 70)) (lf 70 (o_ic (nI 2) 71)))) (nd 72 (lf 71 (o_il 2 72)) (nd 75 (lf 72 (o_invV 126 11 2 75)) (lf 75 (o_inc 2 (nI 1) 78)))))))) (nd 124 (nd 99 (nd 87 (nd 82 (nd 81 (lf 78 (o_goto 30)) (lf 81 (o_al 0 82))) (nd 83 (lf 82 (o_ic (nI 4) 83)) (nd 86 (lf 83 (o_invV 127 11 1 86)) (lf 86 (o_is 2 87))))) (nd 92 (nd 88 (lf 87 (o_al 0 88)) (nd 91 (lf 88 (o_getf 11 6 91)) (lf 91 (o_al 0 92)))) (nd 95 (lf 92 (o_invV 128 11 0 95)) (nd 98 (lf 95 (o_putf 8 1 0 98)) (lf 98 (o_al 0 99)))))) (nd 113 (nd 106 (nd 102 (lf 99 (o_getf 11 8 102)) (nd 105 (lf 102 (o_ifne 132 105)) (lf 105 (o_al 0 106)))) (nd 109 (lf 106 (o_getf 11 6 109)) (nd 112 (lf 109 (o_getf 8 1 112)) (lf 112 (o_ic (nI 1) 113))))) (nd 121 (nd 115 (lf 113 (o_ic (nI 61) 115)) (nd 118 (lf 115 (o_inv 123 3 118)) (lf 118 (o_ifne 132 121)))) (nd 122 (lf 121 (o_al 0 122)) (nd 123 (lf 122 (o_ic (nI 3) 123)) (lf 123 (o_al 0 124))))))) (nd 146 (nd 134 (nd 129 (nd 127 (lf 124 (o_getf 11 7 127)) (nd 128 (lf 127 (o_ic (nI 2) 128)) (lf 128 (o_isub 129)))) (nd 132 (lf 129 (o_invV 126 11 2 132)) (nd 133 (lf 132 (o_ic (nI 1) 133)) (lf 133 (o_is 3 134))))) (nd 139 (nd 135 (lf 134 (o_il 3 135)) (nd 136 (lf 135 (o_al 0 136)) (lf 136 (o_getf 11 6 139)))) (nd 142 (lf 139 (o_getf 8 1 142)) (nd 145 (lf 142 (o_cge 163 145)) (lf 145 (o_al 0 146)))))) (nd 158 (nd 153 (nd 149 (lf 146 (o_getf 11 8 149)) (nd 152 (lf 149 (o_ifne 163 152)) (lf 152 (o_il 3 153)))) (nd 154 (lf 153 (o_al 0 154)) (nd 155 (lf 154 (o_il 3 155)) (lf 155 (o_invV 132 11 1 158))))) (nd 163 (nd 159 (lf 158 (o_iadd 159)) (nd 160 (lf 159 (o_is 3 160)) (lf 160 (o_goto 134)))) (nd 164 (lf 163 (o_al 0 164)) (nd 167 (lf 164 (o_getf 11 6 167)) (lf 167 (o_al 0 168))))))))) (nd 262 (nd 213 (nd 191 (nd 180 (nd 174 (nd 171 (lf 168 (o_getf 11 7 171)) (lf 171 (o_putf 8 5 0 174))) (nd 175 (lf 174 (o_al 0 175)) (nd 177 (lf 175 (o_ic (nI 6) 177)) (lf 177 (o_invV 127 11 1 180))))) (nd 185 (nd 181 (lf 180 (o_is 3 181)) (nd 182 (lf 181 (o_al 0 182)) (lf 182 (o_getf 11 6 185)))) (nd 186 (lf 185 (o_al 0 186)) (nd 188 (lf 186 (o_ic (nI 8) 188)) (lf 188 (o_invV 129 11 1 191)))))) (nd 203 (nd 196 (nd 194 (lf 191 (o_putf 8 6 0 194)) (nd 195 (lf 194 (o_al 0 195)) (lf 195 (o_ic (nI 2) 196)))) (nd 197 (lf 196 (o_al 0 197)) (nd 200 (lf 197 (o_getf 11 6 200)) (lf 200 (o_getf 8 6 203))))) (nd 208 (nd 204 (lf 203 (o_imul 204)) (nd 207 (lf 204 (o_invV 127 11 1 207)) (lf 207 (o_is 3 208)))) (nd 209 (lf 208 (o_ic (nI 0) 209)) (nd 211 (lf 209 (o_is 4 211)) (lf 211 (o_il 4 213))))))) (nd 236 (nd 226 (nd 218 (nd 214 (lf 213 (o_ic (nI 2) 214)) (nd 217 (lf 214 (o_cge 319 217)) (lf 217 (o_al 0 218)))) (nd 221 (lf 218 (o_getf 11 6 221)) (nd 224 (lf 221 (o_getf 8 8 224)) (lf 224 (o_il 4 226))))) (nd 232 (nd 227 (lf 226 (o_al 0 227)) (nd 229 (lf 227 (o_ic (nI 12) 229)) (lf 229 (o_invV 129 11 1 232)))) (nd 233 (lf 232 (o_iast 233)) (nd 234 (lf 233 (o_ic (nI 0) 234)) (lf 234 (o_is 5 236)))))) (nd 248 (nd 242 (nd 238 (lf 236 (o_il 5 238)) (nd 239 (lf 238 (o_al 0 239)) (lf 239 (o_getf 11 6 242)))) (nd 245 (lf 242 (o_getf 8 8 245)) (nd 247 (lf 245 (o_il 4 247)) (lf 247 (o_iald 1 248))))) (nd 255 (nd 251 (lf 248 (o_cge 313 251)) (nd 252 (lf 251 (o_al 0 252)) (lf 252 (o_getf 11 8 255)))) (nd 258 (lf 255 (o_ifne 313 258)) (nd 261 (lf 258 (o_new 10 2 [.int 0, .null] 261)) (lf 261 (o_dup 262)))))))) (nd 310 (nd 285 (nd 273 (nd 267 (nd 265 (lf 262 (o_invI 120 0 265)) (lf 265 (o_as 6 267))) (nd 269 (lf 267 (o_al 6 269)) (nd 270 (lf 269 (o_al 0 270)) (lf 270 (o_getf 11 7 273))))) (nd 279 (nd 276 (lf 273 (o_putf 10 0 0 276)) (nd 277 (lf 276 (o_al 0 277)) (lf 277 (o_ic (nI 6) 279)))) (nd 282 (lf 279 (o_invV 127 11 1 282)) (nd 283 (lf 282 (o_is 3 283)) (lf 283 (o_al 6 285)))))) (nd 299 (nd 292 (nd 286 (lf 285 (o_al 0 286)) (nd 289 (lf 286 (o_invV 131 11 0 289)) (lf 289 (o_putf 10 1 2 292)))) (nd 293 (lf 292 (o_al 0 293)) (nd 296 (lf 293 (o_getf 11 6 296)) (lf 296 (o_getf 8 7 299))))) (nd 304 (nd 301 (lf 299 (o_il 4 301)) (nd 302 (lf 301 (o_aald 302)) (lf 302 (o_il 5 304)))) (nd 306 (lf 304 (o_al 6 306)) (nd 307 (lf 306 (o_aast 8 21 307)) (lf 307 (o_inc 5 (nI 1) 310))))))) (nd 338 (nd 324 (nd 319 (nd 313 (lf 310 (o_goto 236)) (nd 316 (lf 313 (o_inc 4 (nI 1) 316)) (lf 316 (o_goto 211)))) (nd 320 (lf 319 (o_al 0 320)) (nd 323 (lf 320 (o_getf 11 6 323)) (lf 323 (o_al 0 324))))) (nd 331 (nd 327 (lf 324 (o_invV 131 11 0 327)) (nd 330 (lf 327 (o_putf 8 9 2 330)) (lf 330 (o_al 0 331)))) (nd 334 (lf 331 (o_getf 11 8 334)) (nd 337 (lf 334 (o_ifne 362 337)) (lf 337 (o_al 0 338)))))) (nd 352 (nd 345 (nd 341 (lf 338 (o_getf 11 7 341)) (nd 342 (lf 341 (o_al 0 342)) (lf 342 (o_getf 11 6 345)))) (nd 348 (lf 345 (o_getf 8 0 348)) (nd 349 (lf 348 (o_alen 349)) (lf 349 (o_cge 362 352))))) (nd 356 (nd 353 (lf 352 (o_al 0 353)) (nd 355 (lf 353 (o_ic (nI 6) 355)) (lf 355 (o_al 0 356)))) (nd 359 (lf 356 (o_getf 11 7 359)) (nd 362 (lf 359 (o_invV 126 11 2 362)) (lf 362 (o_vret))))))))))
def k_MO_attributes : Cd := (nd 48 (nd 22 (nd 10 (nd 7 (nd 3 (lf 0 (o_new 7 2 [.int 0, .null] 3)) (nd 4 (lf 3 (o_dup 4)) (lf 4 (o_invI 112 0 7)))) (nd 8 (lf 7 (o_as 1 8)) (nd 9 (lf 8 (o_al 1 9)) (lf 9 (o_al 0 10))))) (nd 18 (nd 12 (lf 10 (o_ic (nI 6) 12)) (nd 15 (lf 12 (o_invV 129 11 1 15)) (lf 15 (o_putf 7 0 0 18)))) (nd 20 (nd 19 (lf 18 (o_ic (nI 0) 19)) (lf 19 (o_is 2 20))) (nd 21 (lf 20 (o_il 2 21)) (lf 21 (o_al 1 22)))))) (nd 36 (nd 29 (nd 25 (lf 22 (o_getf 7 0 25)) (nd 28 (lf 25 (o_cge 96 28)) (lf 28 (o_al 0 29)))) (nd 32 (lf 29 (o_getf 11 8 32)) (nd 35 (lf 32 (o_ifne 96 35)) (lf 35 (o_al 1 36))))) (nd 41 (nd 39 (lf 36 (o_getf 7 1 39)) (nd 40 (lf 39 (o_il 2 40)) (lf 40 (o_al 0 41)))) (nd 45 (nd 44 (lf 41 (o_getf 11 7 44)) (lf 44 (o_iast 45))) (nd 46 (lf 45 (o_al 0 46)) (lf 46 (o_ic (nI 6) 48))))))) (nd 73 (nd 62 (nd 55 (nd 51 (lf 48 (o_invV 127 11 1 51)) (nd 54 (lf 51 (o_ifeq 90 54)) (lf 54 (o_al 0 55)))) (nd 58 (lf 55 (o_getf 11 6 58)) (nd 59 (lf 58 (o_al 0 59)) (lf 59 (o_getf 11 7 62))))) (nd 67 (nd 63 (lf 62 (o_ic (nI 4) 63)) (nd 64 (lf 63 (o_isub 64)) (lf 64 (o_invV 115 8 1 67)))) (nd 69 (nd 68 (lf 67 (o_is 3 68)) (lf 68 (o_il 3 69))) (nd 72 (lf 69 (o_ifge 83 72)) (lf 72 (o_al 0 73)))))) (nd 84 (nd 78 (nd 74 (lf 73 (o_ic (nI 5) 74)) (nd 75 (lf 74 (o_al 0 75)) (lf 75 (o_getf 11 7 78)))) (nd 80 (nd 79 (lf 78 (o_ic (nI 4) 79)) (lf 79 (o_isub 80))) (nd 83 (lf 80 (o_invV 126 11 2 83)) (lf 83 (o_al 0 84))))) (nd 90 (nd 85 (lf 84 (o_il 3 85)) (nd 88 (lf 85 (o_invV 127 11 1 88)) (lf 88 (o_is 4 90)))) (nd 96 (nd 93 (lf 90 (o_inc 2 (nI 1) 93)) (lf 93 (o_goto 20))) (nd 97 (lf 96 (o_al 1 97)) (lf 97 (o_aret))))))))
def k_MO_entry : Cd := (nd 101 (nd 48 (nd 24 (nd 13 (nd 5 (nd 1 (lf 0 (o_al 0 1)) (nd 4 (lf 1 (o_getf 11 7 4)) (lf 4 (o_is 2 5)))) (nd 7 (nd 6 (lf 5 (o_al 0 6)) (lf 6 (o_ic (nI 1) 7))) (nd 10 (lf 7 (o_invV 127 11 1 10)) (lf 10 (o_ifne 15 13))))) (nd 16 (nd 14 (lf 13 (o_ic (nI 1) 14)) (nd 15 (lf 14 (o_iret)) (lf 15 (o_al 0 16)))) (nd 22 (nd 19 (lf 16 (o_getf 11 6 19)) (lf 19 (o_getf 8 0 22))) (nd 23 (lf 22 (o_il 2 23)) (lf 23 (o_iald 0 24)))))) (nd 35 (nd 29 (nd 27 (lf 24 (o_ic (nI 255) 27)) (nd 28 (lf 27 (o_iand 28)) (lf 28 (o_is 3 29)))) (nd 31 (nd 30 (lf 29 (o_il 3 30)) (lf 30 (o_ic (nI 5) 31))) (nd 34 (lf 31 (o_ceq 40 34)) (lf 34 (o_il 3 35))))) (nd 41 (nd 37 (lf 35 (o_ic (nI 6) 37)) (nd 40 (lf 37 (o_cne 44 40)) (lf 40 (o_ic (nI 1) 41)))) (nd 45 (nd 44 (lf 41 (o_goto 45)) (lf 44 (o_ic (nI 0) 45))) (nd 47 (lf 45 (o_is 4 47)) (lf 47 (o_il 3 48))))))) (nd 76 (nd 62 (nd 53 (nd 49 (lf 48 (o_ic (nI 1) 49)) (nd 52 (lf 49 (o_ceq 62 52)) (lf 52 (o_il 3 53)))) (nd 56 (nd 54 (lf 53 (o_ic (nI 3) 54)) (lf 54 (o_ic (nI 12) 56))) (nd 59 (lf 56 (o_inv 123 3 59)) (lf 59 (o_ifeq 66 62))))) (nd 67 (nd 63 (lf 62 (o_ic (nI 1) 63)) (nd 66 (lf 63 (o_goto 67)) (lf 66 (o_ic (nI 0) 67)))) (nd 71 (nd 69 (lf 67 (o_is 5 69)) (lf 69 (o_il 5 71))) (nd 74 (lf 71 (o_ifeq 92 74)) (lf 74 (o_il 4 76)))))) (nd 89 (nd 81 (nd 79 (lf 76 (o_ifeq 100 79)) (nd 80 (lf 79 (o_il 1 80)) (lf 80 (o_al 0 81)))) (nd 87 (nd 84 (lf 81 (o_getf 11 6 84)) (lf 84 (o_getf 8 1 87))) (nd 88 (lf 87 (o_ic (nI 1) 88)) (lf 88 (o_isub 89))))) (nd 95 (nd 93 (nd 92 (lf 89 (o_cne 100 92)) (lf 92 (o_al 0 93))) (nd 94 (lf 93 (o_ic (nI 4) 94)) (lf 94 (o_il 2 95)))) (nd 99 (nd 98 (lf 95 (o_invV 126 11 2 98)) (lf 98 (o_ic (nI 1) 99))) (nd 100 (lf 99 (o_iret)) (lf 100 (o_al 0 101)))))))) (nd 156 (nd 125 (nd 114 (nd 108 (nd 104 (lf 101 (o_getf 11 6 104)) (nd 107 (lf 104 (o_getf 8 2 107)) (lf 107 (o_il 1 108)))) (nd 110 (nd 109 (lf 108 (o_il 3 109)) (lf 109 (o_iast 110))) (nd 111 (lf 110 (o_al 0 111)) (lf 111 (o_getf 11 6 114))))) (nd 119 (nd 117 (lf 114 (o_getf 8 3 117)) (nd 118 (lf 117 (o_il 1 118)) (lf 118 (o_il 2 119)))) (nd 121 (nd 120 (lf 119 (o_iast 120)) (lf 120 (o_il 3 121))) (nd 122 (lf 121 (o_ic (nI 1) 122)) (lf 122 (o_cne 171 125)))))) (nd 140 (nd 131 (nd 126 (lf 125 (o_al 0 126)) (nd 129 (lf 126 (o_invV 128 11 0 129)) (lf 129 (o_is 6 131)))) (nd 134 (nd 132 (lf 131 (o_al 0 132)) (lf 132 (o_il 6 134))) (nd 137 (lf 134 (o_invV 127 11 1 137)) (lf 137 (o_ifeq 168 140))))) (nd 148 (nd 144 (nd 141 (lf 140 (o_al 0 141)) (lf 141 (o_getf 11 6 144))) (nd 147 (lf 144 (o_getf 8 4 147)) (lf 147 (o_il 1 148)))) (nd 152 (nd 149 (lf 148 (o_al 0 149)) (lf 149 (o_getf 11 6 152))) (nd 155 (lf 152 (o_getf 8 0 155)) (lf 155 (o_al 0 156))))))) (nd 185 (nd 171 (nd 162 (nd 159 (lf 156 (o_getf 11 7 159)) (nd 161 (lf 159 (o_il 6 161)) (lf 161 (o_isub 162)))) (nd 167 (nd 164 (lf 162 (o_il 6 164)) (lf 164 (o_inv 133 3 167))) (nd 168 (lf 167 (o_aast 4 0 168)) (lf 168 (o_goto 204))))) (nd 177 (nd 172 (lf 171 (o_al 0 172)) (nd 174 (lf 172 (o_il 4 174)) (lf 174 (o_ifeq 182 177)))) (nd 182 (nd 179 (lf 177 (o_ic (nI 8) 179)) (lf 179 (o_goto 199))) (nd 183 (lf 182 (o_il 3 183)) (lf 183 (o_ic (nI 7) 185)))))) (nd 199 (nd 191 (nd 188 (lf 185 (o_ceq 194 188)) (nd 189 (lf 188 (o_il 3 189)) (lf 189 (o_ic (nI 8) 191)))) (nd 195 (nd 194 (lf 191 (o_cne 198 194)) (lf 194 (o_ic (nI 2) 195))) (nd 198 (lf 195 (o_goto 199)) (lf 198 (o_ic (nI 4) 199))))) (nd 209 (nd 204 (nd 202 (lf 199 (o_invV 127 11 1 202)) (lf 202 (o_is 6 204))) (nd 206 (lf 204 (o_il 4 206)) (lf 206 (o_ifeq 213 209)))) (nd 213 (nd 210 (lf 209 (o_ic (nI 2) 210)) (lf 210 (o_goto 214))) (nd 214 (lf 213 (o_ic (nI 1) 214)) (lf 214 (o_iret)))))))))
def k_MO_part : Cd := (nd 6 (nd 3 (nd 1 (lf 0 (o_il 2 1)) (lf 1 (o_newi 0 3))) (nd 4 (lf 3 (o_as 3 4)) (nd 5 (lf 4 (o_al 0 5)) (lf 5 (o_il 1 6))))) (nd 9 (nd 7 (lf 6 (o_al 3 7)) (nd 8 (lf 7 (o_ic (nI 0) 8)) (lf 8 (o_il 2 9)))) (nd 12 (lf 9 (o_acp 12)) (nd 13 (lf 12 (o_al 3 13)) (lf 13 (o_aret))))))
def k_MO_wrongPlace : Cd := (nd 23 (nd 12 (nd 5 (nd 1 (lf 0 (o_il 1 1)) (nd 4 (lf 1 (o_iflt 12 4)) (lf 4 (o_il 1 5)))) (nd 6 (lf 5 (o_al 0 6)) (nd 9 (lf 6 (o_getf 8 1 9)) (lf 9 (o_clt 17 12))))) (nd 18 (nd 14 (lf 12 (o_ic (nI 8) 14)) (nd 17 (lf 14 (o_goto 47)) (lf 17 (o_al 0 18)))) (nd 21 (lf 18 (o_getf 8 2 21)) (nd 22 (lf 21 (o_il 1 22)) (lf 22 (o_iald 1 23)))))) (nd 36 (nd 31 (nd 26 (lf 23 (o_ifne 31 26)) (nd 28 (lf 26 (o_ic (nI 7) 28)) (lf 28 (o_goto 47)))) (nd 32 (lf 31 (o_al 0 32)) (nd 35 (lf 32 (o_getf 8 2 35)) (lf 35 (o_il 1 36))))) (nd 41 (nd 37 (lf 36 (o_iald 1 37)) (nd 38 (lf 37 (o_il 2 38)) (lf 38 (o_ceq 46 41)))) (nd 46 (nd 43 (lf 41 (o_ic (nI 9) 43)) (lf 43 (o_goto 47))) (nd 47 (lf 46 (o_ic (nI 0) 47)) (lf 47 (o_iret)))))))
def k_MO_place : Cd := (nd 16 (nd 8 (nd 4 (nd 1 (lf 0 (o_al 0 1)) (lf 1 (o_getf 11 6 4))) (nd 5 (lf 4 (o_al 0 5)) (lf 5 (o_getf 11 6 8)))) (nd 12 (nd 9 (lf 8 (o_il 1 9)) (lf 9 (o_invV 114 8 1 12))) (nd 13 (lf 12 (o_il 2 13)) (lf 13 (o_inv 134 3 16))))) (nd 22 (nd 18 (nd 17 (lf 16 (o_is 3 17)) (lf 17 (o_il 3 18))) (nd 21 (lf 18 (o_ifle 27 21)) (lf 21 (o_al 0 22)))) (nd 24 (nd 23 (lf 22 (o_il 3 23)) (lf 23 (o_il 1 24))) (nd 27 (lf 24 (o_invV 126 11 2 27)) (lf 27 (o_vret))))))
def k_MO_names : Cd := (nd 12 (nd 4 (nd 2 (nd 1 (lf 0 (o_ic (nI 0) 1)) (lf 1 (o_is 2 2))) (nd 3 (lf 2 (o_il 2 3)) (lf 3 (o_al 1 4)))) (nd 10 (nd 7 (lf 4 (o_getf 7 0 7)) (lf 7 (o_cge 27 10))) (nd 11 (lf 10 (o_al 0 11)) (lf 11 (o_al 1 12))))) (nd 18 (nd 16 (nd 15 (lf 12 (o_getf 7 1 15)) (lf 15 (o_il 2 16))) (nd 17 (lf 16 (o_iald 1 17)) (lf 17 (o_ic (nI 1) 18)))) (nd 24 (nd 21 (lf 18 (o_invV 135 11 2 21)) (lf 21 (o_inc 2 (nI 1) 24))) (nd 27 (lf 24 (o_goto 2)) (lf 27 (o_vret))))))
def k_MO_places : Cd := (nd 136 (nd 67 (nd 32 (nd 17 (nd 4 (nd 2 (nd 1 (lf 0 (o_ic (nI 1) 1)) (lf 1 (o_is 1 2))) (nd 3 (lf 2 (o_il 1 3)) (lf 3 (o_al 0 4)))) (nd 10 (nd 7 (lf 4 (o_getf 11 6 7)) (lf 7 (o_getf 8 1 10))) (nd 13 (lf 10 (o_cge 109 13)) (nd 14 (lf 13 (o_al 0 14)) (lf 14 (o_getf 11 6 17)))))) (nd 23 (nd 21 (nd 20 (lf 17 (o_getf 8 3 20)) (lf 20 (o_il 1 21))) (nd 22 (lf 21 (o_iald 1 22)) (lf 22 (o_ic (nI 1) 23)))) (nd 25 (nd 24 (lf 23 (o_iadd 24)) (lf 24 (o_is 2 25))) (nd 26 (lf 25 (o_al 0 26)) (nd 29 (lf 26 (o_getf 11 6 29)) (lf 29 (o_getf 8 2 32))))))) (nd 47 (nd 36 (nd 34 (nd 33 (lf 32 (o_il 1 33)) (lf 33 (o_iald 1 34))) (nd 35 (lf 34 (o_is 3 35)) (lf 35 (o_il 3 36)))) (nd 41 (nd 38 (lf 36 (o_ic (nI 7) 38)) (lf 38 (o_ceq 47 41))) (nd 42 (lf 41 (o_il 3 42)) (nd 44 (lf 42 (o_ic (nI 8) 44)) (lf 44 (o_cne 56 47)))))) (nd 56 (nd 49 (nd 48 (lf 47 (o_al 0 48)) (lf 48 (o_il 2 49))) (nd 50 (lf 49 (o_ic (nI 1) 50)) (nd 53 (lf 50 (o_invV 135 11 2 53)) (lf 53 (o_goto 103))))) (nd 59 (nd 57 (lf 56 (o_il 3 57)) (lf 57 (o_ic (nI 9) 59))) (nd 61 (lf 59 (o_ic (nI 12) 61)) (nd 64 (lf 61 (o_inv 123 3 64)) (lf 64 (o_ifeq 103 67)))))))) (nd 100 (nd 84 (nd 72 (nd 69 (nd 68 (lf 67 (o_al 0 68)) (lf 68 (o_il 2 69))) (nd 70 (lf 69 (o_il 3 70)) (lf 70 (o_ic (nI 12) 72)))) (nd 76 (nd 75 (lf 72 (o_cne 79 75)) (lf 75 (o_ic (nI 1) 76))) (nd 79 (lf 76 (o_goto 81)) (nd 81 (lf 79 (o_ic (nI 7) 81)) (lf 81 (o_invV 135 11 2 84)))))) (nd 89 (nd 86 (nd 85 (lf 84 (o_al 0 85)) (lf 85 (o_il 2 86))) (nd 87 (lf 86 (o_ic (nI 2) 87)) (nd 88 (lf 87 (o_iadd 88)) (lf 88 (o_il 3 89))))) (nd 94 (nd 91 (lf 89 (o_ic (nI 12) 91)) (lf 91 (o_cne 98 94))) (nd 95 (lf 94 (o_ic (nI 1) 95)) (nd 98 (lf 95 (o_goto 100)) (lf 98 (o_ic (nI 12) 100))))))) (nd 119 (nd 110 (nd 106 (nd 103 (lf 100 (o_invV 135 11 2 103)) (lf 103 (o_inc 1 (nI 1) 106))) (nd 109 (lf 106 (o_goto 2)) (lf 109 (o_al 0 110)))) (nd 116 (nd 113 (lf 110 (o_getf 11 6 113)) (lf 113 (o_getf 8 5 116))) (nd 117 (lf 116 (o_is 1 117)) (nd 118 (lf 117 (o_al 0 118)) (lf 118 (o_il 1 119)))))) (nd 127 (nd 121 (nd 120 (lf 119 (o_ic (nI 2) 120)) (lf 120 (o_iadd 121))) (nd 123 (lf 121 (o_ic (nI 7) 123)) (nd 126 (lf 123 (o_invV 135 11 2 126)) (lf 126 (o_al 0 127))))) (nd 131 (nd 130 (lf 127 (o_getf 11 6 130)) (lf 130 (o_il 1 131))) (nd 132 (lf 131 (o_ic (nI 4) 132)) (nd 133 (lf 132 (o_iadd 133)) (lf 133 (o_invV 114 8 1 136))))))))) (nd 199 (nd 167 (nd 150 (nd 142 (nd 140 (nd 139 (lf 136 (o_ifeq 148 139)) (lf 139 (o_al 0 140))) (nd 141 (lf 140 (o_il 1 141)) (lf 141 (o_ic (nI 4) 142)))) (nd 145 (nd 143 (lf 142 (o_iadd 143)) (lf 143 (o_ic (nI 7) 145))) (nd 148 (lf 145 (o_invV 135 11 2 148)) (nd 149 (lf 148 (o_ic (nI 0) 149)) (lf 149 (o_is 2 150)))))) (nd 161 (nd 152 (nd 151 (lf 150 (o_il 2 151)) (lf 151 (o_al 0 152))) (nd 155 (lf 152 (o_getf 11 6 155)) (nd 158 (lf 155 (o_getf 8 6 158)) (lf 158 (o_cge 181 161))))) (nd 163 (nd 162 (lf 161 (o_al 0 162)) (lf 162 (o_il 1 163))) (nd 165 (lf 163 (o_ic (nI 8) 165)) (nd 166 (lf 165 (o_iadd 166)) (lf 166 (o_ic (nI 2) 167))))))) (nd 183 (nd 172 (nd 169 (nd 168 (lf 167 (o_il 2 168)) (lf 168 (o_imul 169))) (nd 170 (lf 169 (o_iadd 170)) (lf 170 (o_ic (nI 7) 172)))) (nd 178 (nd 175 (lf 172 (o_invV 135 11 2 175)) (lf 175 (o_inc 2 (nI 1) 178))) (nd 181 (lf 178 (o_goto 150)) (nd 182 (lf 181 (o_ic (nI 0) 182)) (lf 182 (o_is 2 183)))))) (nd 190 (nd 185 (nd 184 (lf 183 (o_il 2 184)) (lf 184 (o_ic (nI 2) 185))) (nd 188 (lf 185 (o_cge 261 188)) (nd 189 (lf 188 (o_ic (nI 0) 189)) (lf 189 (o_is 3 190))))) (nd 192 (nd 191 (lf 190 (o_il 3 191)) (lf 191 (o_al 0 192))) (nd 195 (lf 192 (o_getf 11 6 195)) (nd 198 (lf 195 (o_getf 8 8 198)) (lf 198 (o_il 2 199)))))))) (nd 231 (nd 214 (nd 207 (nd 203 (nd 200 (lf 199 (o_iald 1 200)) (lf 200 (o_cge 255 203))) (nd 204 (lf 203 (o_al 0 204)) (lf 204 (o_getf 11 6 207)))) (nd 211 (nd 210 (lf 207 (o_getf 8 7 210)) (lf 210 (o_il 2 211))) (nd 212 (lf 211 (o_aald 212)) (nd 213 (lf 212 (o_il 3 213)) (lf 213 (o_aald 214)))))) (nd 223 (nd 217 (nd 216 (lf 214 (o_as 4 216)) (lf 216 (o_al 0 217))) (nd 219 (lf 217 (o_al 4 219)) (nd 222 (lf 219 (o_getf 10 0 222)) (lf 222 (o_ic (nI 2) 223))))) (nd 225 (nd 224 (lf 223 (o_iadd 224)) (lf 224 (o_ic (nI 1) 225))) (nd 228 (lf 225 (o_invV 135 11 2 228)) (nd 229 (lf 228 (o_al 0 229)) (lf 229 (o_al 4 231))))))) (nd 249 (nd 237 (nd 235 (nd 234 (lf 231 (o_getf 10 0 234)) (lf 234 (o_ic (nI 4) 235))) (nd 236 (lf 235 (o_iadd 236)) (lf 236 (o_ic (nI 1) 237)))) (nd 241 (nd 240 (lf 237 (o_invV 135 11 2 240)) (lf 240 (o_al 0 241))) (nd 243 (lf 241 (o_al 4 243)) (nd 246 (lf 243 (o_getf 10 1 246)) (lf 246 (o_invV 136 11 1 249)))))) (nd 262 (nd 255 (nd 252 (lf 249 (o_inc 3 (nI 1) 252)) (lf 252 (o_goto 190))) (nd 258 (lf 255 (o_inc 2 (nI 1) 258)) (nd 261 (lf 258 (o_goto 183)) (lf 261 (o_al 0 262))))) (nd 266 (nd 263 (lf 262 (o_al 0 263)) (lf 263 (o_getf 11 6 266))) (nd 269 (lf 266 (o_getf 8 9 269)) (nd 272 (lf 269 (o_invV 136 11 1 272)) (lf 272 (o_vret))))))))))
def k_MO_type (nb sa : Nat) : Cd := (nd 55 (nd 28 (nd 10 (nd 4 (nd 2 (nd 1 (lf 0 (o_il 1 1)) (lf 1 (o_is 2 2))) (nd 3 (lf 2 (o_il 2 3)) (lf 3 (o_al 0 4)))) (nd 8 (nd 5 (lf 4 (o_alen 5)) (lf 5 (o_cge 22 8))) (nd 9 (lf 8 (o_al 0 9)) (lf 9 (o_il 2 10))))) (nd 19 (nd 13 (nd 11 (lf 10 (o_iald 0 11)) (lf 11 (o_ic (nI 91) 13))) (nd 16 (lf 13 (o_cne 22 16)) (lf 16 (o_inc 2 (nI 1) 19)))) (nd 23 (nd 22 (lf 19 (o_goto 2)) (lf 22 (o_il 2 23))) (nd 24 (lf 23 (o_al 0 24)) (nd 25 (lf 24 (o_alen 25)) (lf 25 (o_ceq 37 28))))))) (nd 42 (nd 34 (nd 30 (nd 29 (lf 28 (o_il 2 29)) (lf 29 (o_il 1 30))) (nd 31 (lf 30 (o_isub 31)) (lf 31 (o_ic (nI 255) 34)))) (nd 38 (nd 37 (lf 34 (o_cle 39 37)) (lf 37 (o_ic (-1) 38))) (nd 39 (lf 38 (o_iret)) (nd 41 (lf 39 (o_ref sa 41)) (lf 41 (o_al 0 42)))))) (nd 50 (nd 44 (nd 43 (lf 42 (o_il 2 43)) (lf 43 (o_iald 0 44))) (nd 47 (lf 44 (o_invV 184 12 1 47)) (lf 47 (o_iflt 54 50)))) (nd 52 (nd 51 (lf 50 (o_il 2 51)) (lf 51 (o_ic (nI 1) 52))) (nd 53 (lf 52 (o_iadd 53)) (nd 54 (lf 53 (o_iret)) (lf 54 (o_al 0 55)))))))) (nd 79 (nd 67 (nd 62 (nd 57 (nd 56 (lf 55 (o_il 2 56)) (lf 56 (o_iald 0 57))) (nd 59 (lf 57 (o_ic (nI 76) 59)) (lf 59 (o_ceq 64 62)))) (nd 64 (nd 63 (lf 62 (o_ic (-1) 63)) (lf 63 (o_iret))) (nd 65 (lf 64 (o_il 2 65)) (nd 66 (lf 65 (o_ic (nI 1) 66)) (lf 66 (o_iadd 67)))))) (nd 71 (nd 69 (nd 68 (lf 67 (o_is 3 68)) (lf 68 (o_il 3 69))) (nd 70 (lf 69 (o_al 0 70)) (lf 70 (o_alen 71)))) (nd 75 (nd 74 (lf 71 (o_cge 88 74)) (lf 74 (o_al 0 75))) (nd 76 (lf 75 (o_il 3 76)) (nd 77 (lf 76 (o_iald 0 77)) (lf 77 (o_ic (nI 59) 79))))))) (nd 96 (nd 89 (nd 85 (nd 82 (lf 79 (o_ceq 88 82)) (lf 82 (o_inc 3 (nI 1) 85))) (nd 88 (lf 85 (o_goto 68)) (lf 88 (o_il 3 89)))) (nd 91 (nd 90 (lf 89 (o_al 0 90)) (lf 90 (o_alen 91))) (nd 94 (lf 91 (o_ceq 101 94)) (nd 95 (lf 94 (o_il 3 95)) (lf 95 (o_il 2 96)))))) (nd 102 (nd 98 (nd 97 (lf 96 (o_ic (nI 1) 97)) (lf 97 (o_iadd 98))) (nd 101 (lf 98 (o_cne 105 101)) (lf 101 (o_ic (-1) 102)))) (nd 106 (nd 105 (lf 102 (o_goto 108)) (lf 105 (o_il 3 106))) (nd 107 (lf 106 (o_ic (nI 1) 107)) (nd 108 (lf 107 (o_iadd 108)) (lf 108 (o_iret)))))))))
def k_MO_slotsOf : Cd := (nd 10 (nd 3 (nd 1 (lf 0 (o_al 0 1)) (nd 2 (lf 1 (o_il 1 2)) (lf 2 (o_iald 0 3)))) (nd 8 (nd 5 (lf 3 (o_ic (nI 74) 5)) (lf 5 (o_ceq 16 8))) (nd 9 (lf 8 (o_al 0 9)) (lf 9 (o_il 1 10))))) (nd 16 (nd 11 (lf 10 (o_iald 0 11)) (nd 13 (lf 11 (o_ic (nI 68) 13)) (lf 13 (o_cne 20 16)))) (nd 20 (nd 17 (lf 16 (o_ic (nI 2) 17)) (lf 17 (o_goto 21))) (nd 21 (lf 20 (o_ic (nI 1) 21)) (lf 21 (o_iret))))))
def k_MO_isSort : Cd := (nd 62 (nd 33 (nd 18 (nd 9 (nd 4 (nd 1 (lf 0 (o_il 1 1)) (lf 1 (o_ifne 20 4))) (nd 5 (lf 4 (o_al 0 5)) (nd 6 (lf 5 (o_ic (nI 0) 6)) (lf 6 (o_inv 138 2 9))))) (nd 11 (nd 10 (lf 9 (o_al 0 10)) (lf 10 (o_alen 11))) (nd 14 (lf 11 (o_cne 18 14)) (nd 15 (lf 14 (o_ic (nI 1) 15)) (lf 15 (o_goto 19)))))) (nd 25 (nd 20 (nd 19 (lf 18 (o_ic (nI 0) 19)) (lf 19 (o_zret))) (nd 21 (lf 20 (o_al 0 21)) (nd 22 (lf 21 (o_alen 22)) (lf 22 (o_ifeq 33 25))))) (nd 27 (nd 26 (lf 25 (o_al 0 26)) (lf 26 (o_ic (nI 0) 27))) (nd 28 (lf 27 (o_iald 0 28)) (nd 30 (lf 28 (o_ic (nI 40) 30)) (lf 30 (o_ceq 35 33))))))) (nd 45 (nd 38 (nd 35 (nd 34 (lf 33 (o_ic (nI 0) 34)) (lf 34 (o_zret))) (nd 36 (lf 35 (o_ic (nI 1) 36)) (nd 37 (lf 36 (o_is 2 37)) (lf 37 (o_il 2 38))))) (nd 42 (nd 39 (lf 38 (o_ic (-1) 39)) (lf 39 (o_ceq 65 42))) (nd 43 (lf 42 (o_il 2 43)) (nd 44 (lf 43 (o_al 0 44)) (lf 44 (o_alen 45)))))) (nd 53 (nd 49 (nd 48 (lf 45 (o_cge 65 48)) (lf 48 (o_al 0 49))) (nd 50 (lf 49 (o_il 2 50)) (nd 51 (lf 50 (o_iald 0 51)) (lf 51 (o_ic (nI 41) 53))))) (nd 57 (nd 56 (lf 53 (o_ceq 65 56)) (lf 56 (o_al 0 57))) (nd 58 (lf 57 (o_il 2 58)) (nd 61 (lf 58 (o_inv 138 2 61)) (lf 61 (o_is 2 62)))))))) (nd 90 (nd 78 (nd 71 (nd 66 (nd 65 (lf 62 (o_goto 37)) (lf 65 (o_il 2 66))) (nd 67 (lf 66 (o_ic (-1) 67)) (nd 70 (lf 67 (o_ceq 76 70)) (lf 70 (o_il 2 71))))) (nd 73 (nd 72 (lf 71 (o_al 0 72)) (lf 72 (o_alen 73))) (nd 76 (lf 73 (o_clt 78 76)) (nd 77 (lf 76 (o_ic (nI 0) 77)) (lf 77 (o_zret)))))) (nd 83 (nd 80 (nd 79 (lf 78 (o_il 2 79)) (lf 79 (o_ic (nI 2) 80))) (nd 81 (lf 80 (o_iadd 81)) (nd 82 (lf 81 (o_al 0 82)) (lf 82 (o_alen 83))))) (nd 87 (nd 86 (lf 83 (o_cne 100 86)) (lf 86 (o_al 0 87))) (nd 88 (lf 87 (o_il 2 88)) (nd 89 (lf 88 (o_ic (nI 1) 89)) (lf 89 (o_iadd 90))))))) (nd 107 (nd 100 (nd 93 (nd 91 (lf 90 (o_iald 0 91)) (lf 91 (o_ic (nI 86) 93))) (nd 96 (lf 93 (o_cne 100 96)) (nd 97 (lf 96 (o_ic (nI 1) 97)) (lf 97 (o_goto 101))))) (nd 102 (nd 101 (lf 100 (o_ic (nI 0) 101)) (lf 101 (o_is 3 102))) (nd 103 (lf 102 (o_il 3 103)) (nd 106 (lf 103 (o_ifne 118 106)) (lf 106 (o_al 0 107)))))) (nd 114 (nd 109 (nd 108 (lf 107 (o_il 2 108)) (lf 108 (o_ic (nI 1) 109))) (nd 110 (lf 109 (o_iadd 110)) (nd 113 (lf 110 (o_inv 138 2 113)) (lf 113 (o_al 0 114))))) (nd 119 (nd 115 (lf 114 (o_alen 115)) (nd 118 (lf 115 (o_cne 122 118)) (lf 118 (o_ic (nI 1) 119)))) (nd 122 (lf 119 (o_goto 123)) (nd 123 (lf 122 (o_ic (nI 0) 123)) (lf 123 (o_zret)))))))))
def k_MO_sortOf : Cd := (nd 11 (nd 5 (nd 1 (lf 0 (o_al 1 1)) (nd 4 (lf 1 (o_getf 8 4 4)) (lf 4 (o_al 1 5)))) (nd 9 (nd 6 (lf 5 (o_al 1 6)) (lf 6 (o_getf 8 7 9))) (nd 10 (lf 9 (o_il 2 10)) (lf 10 (o_aald 11))))) (nd 17 (nd 13 (nd 12 (lf 11 (o_il 3 12)) (lf 12 (o_aald 13))) (nd 16 (lf 13 (o_getf 10 0 16)) (lf 16 (o_ic (nI 4) 17)))) (nd 21 (nd 18 (lf 17 (o_iadd 18)) (lf 18 (o_invV 114 8 1 21))) (nd 22 (lf 21 (o_aald 22)) (lf 22 (o_aret))))))
def k_MO_read : Cd := (nd 103 (nd 53 (nd 25 (nd 11 (nd 5 (nd 1 (lf 0 (o_al 0 1)) (nd 2 (lf 1 (o_ic (nI 0) 2)) (lf 2 (o_putf 11 0 0 5)))) (nd 6 (lf 5 (o_al 0 6)) (nd 9 (lf 6 (o_getf 11 2 9)) (lf 9 (o_ic (nI 6) 11))))) (nd 17 (nd 14 (lf 11 (o_cne 17 14)) (nd 16 (lf 14 (o_ic (-3) 16)) (lf 16 (o_iret)))) (nd 21 (nd 18 (lf 17 (o_al 0 18)) (lf 18 (o_new 8 10 [.null, .int 0, .null, .null, .null, .int 0, .int 0, .null, .null, .null] 21))) (nd 22 (lf 21 (o_dup 22)) (lf 22 (o_invI 113 0 25)))))) (nd 38 (nd 32 (nd 28 (lf 25 (o_putf 11 6 2 28)) (nd 29 (lf 28 (o_al 0 29)) (lf 29 (o_getf 11 6 32)))) (nd 36 (nd 33 (lf 32 (o_al 0 33)) (lf 33 (o_getf 11 3 36))) (nd 37 (lf 36 (o_ic (nI 0) 37)) (lf 37 (o_al 0 38))))) (nd 47 (nd 41 (lf 38 (o_getf 11 4 41)) (nd 44 (lf 41 (o_inv 133 3 44)) (lf 44 (o_putf 8 0 2 47)))) (nd 49 (nd 48 (lf 47 (o_al 0 48)) (lf 48 (o_ic (nI 0) 49))) (nd 52 (lf 49 (o_putf 11 4 0 52)) (lf 52 (o_al 0 53))))))) (nd 79 (nd 64 (nd 58 (nd 54 (lf 53 (o_ic (nI 0) 54)) (nd 57 (lf 54 (o_putf 11 7 0 57)) (lf 57 (o_al 0 58)))) (nd 62 (nd 59 (lf 58 (o_ic (nI 0) 59)) (lf 59 (o_putf 11 8 0 62))) (nd 63 (lf 62 (o_al 0 63)) (lf 63 (o_ic (-1) 64))))) (nd 71 (nd 67 (lf 64 (o_putf 11 9 0 67)) (nd 68 (lf 67 (o_al 0 68)) (lf 68 (o_invV 130 11 0 71)))) (nd 75 (nd 72 (lf 71 (o_al 0 72)) (lf 72 (o_getf 11 8 75))) (nd 78 (lf 75 (o_ifne 82 78)) (lf 78 (o_al 0 79)))))) (nd 90 (nd 84 (nd 82 (lf 79 (o_invV 137 11 0 82)) (nd 83 (lf 82 (o_ic (nI 0) 83)) (lf 83 (o_is 1 84)))) (nd 86 (nd 85 (lf 84 (o_il 1 85)) (lf 85 (o_ic (nI 2) 86))) (nd 89 (lf 86 (o_cge 162 89)) (lf 89 (o_al 0 90))))) (nd 97 (nd 93 (lf 90 (o_getf 11 8 93)) (nd 96 (lf 93 (o_ifne 162 96)) (lf 96 (o_ic (nI 0) 97)))) (nd 99 (nd 98 (lf 97 (o_is 2 98)) (lf 98 (o_il 2 99))) (nd 100 (lf 99 (o_al 0 100)) (lf 100 (o_getf 11 6 103)))))))) (nd 156 (nd 129 (nd 116 (nd 108 (nd 106 (lf 103 (o_getf 8 8 106)) (nd 107 (lf 106 (o_il 1 107)) (lf 107 (o_iald 1 108)))) (nd 112 (nd 111 (lf 108 (o_cge 156 111)) (lf 111 (o_al 0 112))) (nd 113 (lf 112 (o_al 0 113)) (lf 113 (o_getf 11 6 116))))) (nd 121 (nd 117 (lf 116 (o_il 1 117)) (nd 118 (lf 117 (o_il 2 118)) (lf 118 (o_invV 141 11 3 121)))) (nd 125 (nd 122 (lf 121 (o_il 1 122)) (lf 122 (o_inv 140 2 125))) (nd 128 (lf 125 (o_ifne 150 128)) (lf 128 (o_al 0 129)))))) (nd 141 (nd 135 (nd 131 (lf 129 (o_ic (nI 10) 131)) (nd 132 (lf 131 (o_al 0 132)) (lf 132 (o_getf 11 6 135)))) (nd 139 (nd 138 (lf 135 (o_getf 8 7 138)) (lf 138 (o_il 1 139))) (nd 140 (lf 139 (o_aald 140)) (lf 140 (o_il 2 141))))) (nd 146 (nd 142 (lf 141 (o_aald 142)) (nd 145 (lf 142 (o_getf 10 0 145)) (lf 145 (o_ic (nI 4) 146)))) (nd 150 (nd 147 (lf 146 (o_iadd 147)) (lf 147 (o_invV 126 11 2 150))) (nd 153 (lf 150 (o_inc 2 (nI 1) 153)) (lf 153 (o_goto 98))))))) (nd 185 (nd 172 (nd 163 (nd 159 (lf 156 (o_inc 1 (nI 1) 159)) (nd 162 (lf 159 (o_goto 84)) (lf 162 (o_al 0 163)))) (nd 169 (nd 166 (lf 163 (o_getf 11 8 166)) (lf 166 (o_ifle 177 169))) (nd 171 (lf 169 (o_ic (-20) 171)) (lf 171 (o_al 0 172))))) (nd 177 (nd 175 (lf 172 (o_getf 11 8 175)) (nd 176 (lf 175 (o_isub 176)) (lf 176 (o_iret)))) (nd 181 (nd 178 (lf 177 (o_al 0 178)) (lf 178 (o_getf 11 1 181))) (nd 182 (lf 181 (o_al 0 182)) (lf 182 (o_getf 11 2 185)))))) (nd 196 (nd 190 (nd 186 (lf 185 (o_al 0 186)) (nd 189 (lf 186 (o_getf 11 6 189)) (lf 189 (o_aast 7 17 190)))) (nd 192 (nd 191 (lf 190 (o_al 0 191)) (lf 191 (o_dup 192))) (nd 195 (lf 192 (o_getf 11 2 195)) (lf 195 (o_ic (nI 1) 196))))) (nd 201 (nd 197 (lf 196 (o_iadd 197)) (nd 200 (lf 197 (o_putf 11 2 0 200)) (lf 200 (o_al 0 201)))) (nd 205 (nd 204 (lf 201 (o_getf 11 2 204)) (lf 204 (o_ic (nI 1) 205))) (nd 206 (lf 205 (o_isub 206)) (lf 206 (o_iret)))))))))
def k_MO_place_ : Cd := (nd 5 (nd 1 (lf 0 (o_al 0 1)) (nd 2 (lf 1 (o_ic (nI 0) 2)) (lf 2 (o_putf 11 0 0 5)))) (nd 6 (lf 5 (o_al 0 6)) (nd 9 (lf 6 (o_getf 11 9 9)) (lf 9 (o_iret)))))
def k_MO_drop : Cd := (nd 27 (nd 12 (nd 8 (nd 2 (nd 1 (lf 0 (o_al 0 1)) (lf 1 (o_il 1 2))) (nd 5 (lf 2 (o_invV 124 11 1 5)) (lf 5 (o_ifne 10 8)))) (nd 10 (nd 9 (lf 8 (o_ic (-1) 9)) (lf 9 (o_iret))) (nd 11 (lf 10 (o_il 1 11)) (lf 11 (o_is 2 12))))) (nd 16 (nd 14 (nd 13 (lf 12 (o_il 2 13)) (lf 13 (o_ic (nI 1) 14))) (nd 15 (lf 14 (o_iadd 15)) (lf 15 (o_al 0 16)))) (nd 22 (nd 19 (lf 16 (o_getf 11 2 19)) (lf 19 (o_cge 42 22))) (nd 23 (lf 22 (o_al 0 23)) (nd 26 (lf 23 (o_getf 11 1 26)) (lf 26 (o_il 2 27))))))) (nd 42 (nd 33 (nd 31 (nd 28 (lf 27 (o_al 0 28)) (lf 28 (o_getf 11 1 31))) (nd 32 (lf 31 (o_il 2 32)) (lf 32 (o_ic (nI 1) 33)))) (nd 35 (nd 34 (lf 33 (o_iadd 34)) (lf 34 (o_aald 35))) (nd 36 (lf 35 (o_aast 7 17 36)) (nd 39 (lf 36 (o_inc 2 (nI 1) 39)) (lf 39 (o_goto 12)))))) (nd 48 (nd 44 (nd 43 (lf 42 (o_al 0 43)) (lf 43 (o_dup 44))) (nd 47 (lf 44 (o_getf 11 2 47)) (lf 47 (o_ic (nI 1) 48)))) (nd 52 (nd 49 (lf 48 (o_isub 49)) (lf 49 (o_putf 11 2 0 52))) (nd 53 (lf 52 (o_al 0 53)) (nd 56 (lf 53 (o_getf 11 2 56)) (lf 56 (o_iret))))))))
def k_MO_file : Cd := (nd 84 (nd 18 (nd 10 (nd 5 (nd 1 (lf 0 (o_al 0 1)) (nd 2 (lf 1 (o_il 1 2)) (lf 2 (o_invV 124 11 1 5)))) (nd 8 (lf 5 (o_ifne 10 8)) (nd 9 (lf 8 (o_ic (-1) 9)) (lf 9 (o_iret))))) (nd 15 (nd 11 (lf 10 (o_al 0 11)) (nd 14 (lf 11 (o_getf 11 1 14)) (lf 14 (o_il 1 15)))) (nd 16 (lf 15 (o_aald 16)) (nd 17 (lf 16 (o_as 3 17)) (lf 17 (o_il 2 18)))))) (nd 71 (nd 68 (nd 64 (lf 18 (o_sw [(0, 64), (1, 70), (2, 86), (3, 91), (4, 100), (5, 105), (6, 105), (7, 114)] 122)) (nd 65 (lf 64 (o_al 3 65)) (lf 65 (o_getf 8 0 68)))) (nd 69 (lf 68 (o_alen 69)) (nd 70 (lf 69 (o_iret)) (lf 70 (o_al 3 71))))) (nd 78 (nd 73 (lf 71 (o_ic (nI 6) 73)) (nd 76 (lf 73 (o_invV 114 8 1 76)) (lf 76 (o_ic (nI 16) 78)))) (nd 80 (nd 79 (lf 78 (o_ishl 79)) (lf 79 (o_al 3 80))) (nd 81 (lf 80 (o_ic (nI 4) 81)) (lf 81 (o_invV 114 8 1 84))))))) (nd 105 (nd 92 (nd 87 (nd 85 (lf 84 (o_ior 85)) (nd 86 (lf 85 (o_iret)) (lf 86 (o_al 3 87)))) (nd 90 (lf 87 (o_getf 8 1 90)) (nd 91 (lf 90 (o_iret)) (lf 91 (o_al 3 92))))) (nd 99 (nd 93 (lf 92 (o_al 3 93)) (nd 96 (lf 93 (o_getf 8 5 96)) (lf 96 (o_invV 114 8 1 99)))) (nd 101 (nd 100 (lf 99 (o_iret)) (lf 100 (o_al 3 101))) (nd 104 (lf 101 (o_getf 8 6 104)) (lf 104 (o_iret)))))) (nd 113 (nd 110 (nd 106 (lf 105 (o_al 3 106)) (nd 109 (lf 106 (o_getf 8 8 109)) (lf 109 (o_il 2 110)))) (nd 111 (lf 110 (o_ic (nI 5) 111)) (nd 112 (lf 111 (o_isub 112)) (lf 112 (o_iald 1 113))))) (nd 118 (nd 114 (lf 113 (o_iret)) (nd 115 (lf 114 (o_al 3 115)) (lf 115 (o_getf 8 9 118)))) (nd 122 (nd 121 (lf 118 (o_getf 7 0 121)) (lf 121 (o_iret))) (nd 124 (lf 122 (o_ic (-2) 124)) (lf 124 (o_iret))))))))
def k_MO_entry_ : Cd := (nd 79 (nd 27 (nd 11 (nd 5 (nd 1 (lf 0 (o_al 0 1)) (nd 2 (lf 1 (o_il 1 2)) (lf 2 (o_invV 124 11 1 5)))) (nd 9 (nd 8 (lf 5 (o_ifeq 27 8)) (lf 8 (o_il 2 9))) (nd 10 (lf 9 (o_ic (nI 0) 10)) (lf 10 (o_al 0 11))))) (nd 19 (nd 15 (nd 14 (lf 11 (o_getf 11 1 14)) (lf 14 (o_il 1 15))) (nd 16 (lf 15 (o_aald 16)) (lf 16 (o_getf 8 1 19)))) (nd 21 (nd 20 (lf 19 (o_ic (nI 1) 20)) (lf 20 (o_isub 21))) (nd 24 (lf 21 (o_inv 123 3 24)) (lf 24 (o_ifne 29 27)))))) (nd 39 (nd 33 (nd 29 (nd 28 (lf 27 (o_ic (-1) 28)) (lf 28 (o_iret))) (nd 30 (lf 29 (o_al 0 30)) (lf 30 (o_getf 11 1 33)))) (nd 35 (nd 34 (lf 33 (o_il 1 34)) (lf 34 (o_aald 35))) (nd 37 (lf 35 (o_as 4 37)) (lf 37 (o_al 4 39))))) (nd 46 (nd 43 (nd 42 (lf 39 (o_getf 8 2 42)) (lf 42 (o_il 2 43))) (nd 44 (lf 43 (o_iald 1 44)) (lf 44 (o_is 5 46)))) (nd 76 (nd 47 (lf 46 (o_il 3 47)) (lf 47 (o_sw [(0, 76), (1, 79), (2, 97), (3, 115)] 134))) (nd 78 (lf 76 (o_il 5 78)) (lf 78 (o_iret))))))) (nd 110 (nd 95 (nd 86 (nd 81 (lf 79 (o_il 5 81)) (nd 83 (lf 81 (o_ic (nI 7) 83)) (lf 83 (o_clt 95 86)))) (nd 89 (nd 88 (lf 86 (o_al 4 88)) (lf 88 (o_il 2 89))) (nd 92 (lf 89 (o_invV 117 8 1 92)) (lf 92 (o_goto 96))))) (nd 101 (nd 97 (nd 96 (lf 95 (o_ic (nI 0) 96)) (lf 96 (o_iret))) (nd 99 (lf 97 (o_il 5 99)) (lf 99 (o_ic (nI 9) 101)))) (nd 106 (nd 104 (lf 101 (o_clt 113 104)) (lf 104 (o_al 4 106))) (nd 107 (lf 106 (o_il 2 107)) (lf 107 (o_invV 118 8 1 110)))))) (nd 126 (nd 117 (nd 114 (nd 113 (lf 110 (o_goto 114)) (lf 113 (o_ic (nI 0) 114))) (nd 115 (lf 114 (o_iret)) (lf 115 (o_il 5 117)))) (nd 121 (nd 118 (lf 117 (o_ic (nI 1) 118)) (lf 118 (o_cne 132 121))) (nd 123 (lf 121 (o_al 4 123)) (lf 123 (o_getf 8 4 126))))) (nd 132 (nd 128 (nd 127 (lf 126 (o_il 2 127)) (lf 127 (o_aald 128))) (nd 129 (lf 128 (o_alen 129)) (lf 129 (o_goto 133)))) (nd 134 (nd 133 (lf 132 (o_ic (nI 0) 133)) (lf 133 (o_iret))) (nd 136 (lf 134 (o_ic (-2) 136)) (lf 136 (o_iret))))))))
def k_MO_number : Cd := (nd 42 (nd 21 (nd 10 (nd 5 (nd 1 (lf 0 (o_al 0 1)) (nd 2 (lf 1 (o_il 1 2)) (lf 2 (o_invV 124 11 1 5)))) (nd 8 (lf 5 (o_ifne 15 8)) (nd 9 (lf 8 (o_al 0 9)) (lf 9 (o_ic (nI 1) 10))))) (nd 15 (nd 13 (lf 10 (o_putf 11 0 0 13)) (nd 14 (lf 13 (o_lc (0) 14)) (lf 14 (o_lret)))) (nd 19 (nd 16 (lf 15 (o_al 0 16)) (lf 16 (o_getf 11 1 19))) (nd 20 (lf 19 (o_il 1 20)) (lf 20 (o_aald 21)))))) (nd 29 (nd 24 (nd 22 (lf 21 (o_as 3 22)) (nd 23 (lf 22 (o_al 0 23)) (lf 23 (o_il 2 24)))) (nd 25 (lf 24 (o_ic (nI 0) 25)) (nd 26 (lf 25 (o_al 3 26)) (lf 26 (o_getf 8 1 29))))) (nd 34 (nd 30 (lf 29 (o_ic (nI 1) 30)) (nd 31 (lf 30 (o_isub 31)) (lf 31 (o_inv 123 3 34)))) (nd 38 (nd 37 (lf 34 (o_ifne 41 37)) (lf 37 (o_ic (nI 2) 38))) (nd 41 (lf 38 (o_goto 74)) (lf 41 (o_al 3 42))))))) (nd 66 (nd 54 (nd 47 (nd 45 (lf 42 (o_getf 8 2 45)) (nd 46 (lf 45 (o_il 2 46)) (lf 46 (o_iald 1 47)))) (nd 50 (lf 47 (o_ifne 54 50)) (nd 51 (lf 50 (o_ic (nI 3) 51)) (lf 51 (o_goto 74))))) (nd 59 (nd 55 (lf 54 (o_al 3 55)) (nd 58 (lf 55 (o_getf 8 2 58)) (lf 58 (o_il 2 59)))) (nd 61 (nd 60 (lf 59 (o_iald 1 60)) (lf 60 (o_ic (nI 3) 61))) (nd 63 (lf 61 (o_ic (nI 6) 63)) (lf 63 (o_inv 123 3 66)))))) (nd 81 (nd 73 (nd 69 (lf 66 (o_ifne 73 69)) (nd 70 (lf 69 (o_ic (nI 4) 70)) (lf 70 (o_goto 74)))) (nd 77 (nd 74 (lf 73 (o_ic (nI 0) 74)) (lf 74 (o_putf 11 0 0 77))) (nd 78 (lf 77 (o_al 0 78)) (lf 78 (o_getf 11 0 81))))) (nd 86 (nd 84 (lf 81 (o_ifne 92 84)) (nd 85 (lf 84 (o_al 3 85)) (lf 85 (o_il 2 86)))) (nd 92 (nd 89 (lf 86 (o_invV 116 8 1 89)) (lf 89 (o_goto 93))) (nd 93 (lf 92 (o_lc (0) 93)) (lf 93 (o_lret))))))))
def k_MO_shows : Cd := (nd 5 (nd 1 (lf 0 (o_al 0 1)) (nd 2 (lf 1 (o_al 1 2)) (lf 2 (o_putf 11 5 2 5)))) (nd 6 (lf 5 (o_al 1 6)) (nd 7 (lf 6 (o_alen 7)) (lf 7 (o_iret)))))
def k_MO_text : Cd := (nd 42 (nd 21 (nd 10 (nd 5 (nd 1 (lf 0 (o_al 0 1)) (nd 2 (lf 1 (o_il 1 2)) (lf 2 (o_invV 124 11 1 5)))) (nd 8 (lf 5 (o_ifne 10 8)) (nd 9 (lf 8 (o_ic (-1) 9)) (lf 9 (o_iret))))) (nd 13 (nd 11 (lf 10 (o_il 3 11)) (nd 12 (lf 11 (o_ic (nI 0) 12)) (lf 12 (o_ic (nI 2) 13)))) (nd 16 (lf 13 (o_inv 123 3 16)) (nd 19 (lf 16 (o_ifne 22 19)) (lf 19 (o_ic (-2) 21)))))) (nd 30 (nd 26 (nd 22 (lf 21 (o_iret)) (nd 23 (lf 22 (o_al 0 23)) (lf 23 (o_getf 11 1 26)))) (nd 27 (lf 26 (o_il 1 27)) (nd 28 (lf 27 (o_aald 28)) (lf 28 (o_as 4 30))))) (nd 34 (nd 32 (lf 30 (o_al 4 32)) (nd 33 (lf 32 (o_il 2 33)) (lf 33 (o_il 3 34)))) (nd 38 (nd 37 (lf 34 (o_ifne 41 37)) (lf 37 (o_ic (nI 1) 38))) (nd 41 (lf 38 (o_goto 53)) (lf 41 (o_il 3 42))))))) (nd 71 (nd 56 (nd 48 (nd 43 (lf 42 (o_ic (nI 1) 43)) (nd 46 (lf 43 (o_cne 51 46)) (lf 46 (o_ic (nI 7) 48)))) (nd 51 (lf 48 (o_goto 53)) (nd 53 (lf 51 (o_ic (nI 8) 53)) (lf 53 (o_inv 134 3 56))))) (nd 63 (nd 58 (lf 56 (o_is 5 58)) (nd 60 (lf 58 (o_il 5 60)) (lf 60 (o_ifle 71 63)))) (nd 67 (nd 65 (lf 63 (o_ic (-30) 65)) (lf 65 (o_il 5 67))) (nd 68 (lf 67 (o_isub 68)) (lf 68 (o_goto 95)))))) (nd 82 (nd 77 (nd 72 (lf 71 (o_al 0 72)) (nd 74 (lf 72 (o_al 4 74)) (lf 74 (o_getf 8 4 77)))) (nd 78 (lf 77 (o_il 3 78)) (nd 81 (lf 78 (o_ifne 85 81)) (lf 81 (o_il 2 82))))) (nd 88 (nd 85 (lf 82 (o_goto 91)) (nd 87 (lf 85 (o_al 4 87)) (lf 87 (o_il 2 88)))) (nd 92 (nd 91 (lf 88 (o_invV 117 8 1 91)) (lf 91 (o_aald 92))) (nd 95 (lf 92 (o_invV 148 11 1 95)) (lf 95 (o_iret))))))))
def k_MO_member : Cd := (nd 95 (nd 47 (nd 23 (nd 11 (nd 5 (nd 1 (lf 0 (o_al 0 1)) (nd 2 (lf 1 (o_il 1 2)) (lf 2 (o_invV 124 11 1 5)))) (nd 9 (nd 8 (lf 5 (o_ifne 10 8)) (lf 8 (o_ic (-1) 9))) (nd 10 (lf 9 (o_iret)) (lf 10 (o_il 2 11))))) (nd 16 (nd 12 (lf 11 (o_ic (nI 0) 12)) (nd 13 (lf 12 (o_ic (nI 2) 13)) (lf 13 (o_inv 123 3 16)))) (nd 21 (nd 19 (lf 16 (o_ifne 22 19)) (lf 19 (o_ic (-2) 21))) (nd 22 (lf 21 (o_iret)) (lf 22 (o_al 0 23)))))) (nd 35 (nd 28 (nd 26 (lf 23 (o_getf 11 1 26)) (nd 27 (lf 26 (o_il 1 27)) (lf 27 (o_aald 28)))) (nd 31 (nd 30 (lf 28 (o_as 5 30)) (lf 30 (o_il 2 31))) (nd 32 (lf 31 (o_ic (nI 2) 32)) (lf 32 (o_cne 131 35))))) (nd 38 (nd 36 (lf 35 (o_il 3 36)) (nd 37 (lf 36 (o_ic (nI 0) 37)) (lf 37 (o_ic (nI 1) 38)))) (nd 43 (nd 40 (lf 38 (o_al 5 40)) (lf 40 (o_getf 8 6 43))) (nd 44 (lf 43 (o_iadd 44)) (lf 44 (o_inv 123 3 47))))))) (nd 74 (nd 62 (nd 52 (nd 50 (lf 47 (o_ifeq 70 50)) (nd 51 (lf 50 (o_il 3 51)) (lf 51 (o_ic (nI 1) 52)))) (nd 57 (nd 55 (lf 52 (o_cne 72 55)) (lf 55 (o_al 5 57))) (nd 59 (lf 57 (o_al 5 59)) (lf 59 (o_getf 8 5 62))))) (nd 67 (nd 63 (lf 62 (o_ic (nI 4) 63)) (nd 64 (lf 63 (o_iadd 64)) (lf 64 (o_invV 114 8 1 67)))) (nd 71 (nd 70 (lf 67 (o_ifne 72 70)) (lf 70 (o_ic (-1) 71))) (nd 72 (lf 71 (o_iret)) (lf 72 (o_al 5 74)))))) (nd 85 (nd 79 (nd 77 (lf 74 (o_getf 8 5 77)) (nd 78 (lf 77 (o_il 3 78)) (lf 78 (o_ic (nI 2) 79)))) (nd 83 (nd 82 (lf 79 (o_cge 90 82)) (lf 82 (o_ic (nI 2) 83))) (nd 84 (lf 83 (o_ic (nI 2) 84)) (lf 84 (o_il 3 85))))) (nd 91 (nd 87 (nd 86 (lf 85 (o_imul 86)) (lf 86 (o_iadd 87))) (nd 90 (lf 87 (o_goto 95)) (lf 90 (o_ic (nI 4) 91)))) (nd 93 (nd 92 (lf 91 (o_ic (nI 2) 92)) (lf 92 (o_il 3 93))) (nd 94 (lf 93 (o_imul 94)) (lf 94 (o_iadd 95)))))))) (nd 149 (nd 126 (nd 109 (nd 100 (nd 96 (lf 95 (o_iadd 96)) (nd 98 (lf 96 (o_is 6 98)) (lf 98 (o_il 4 100)))) (nd 105 (nd 103 (lf 100 (o_ifeq 108 103)) (lf 103 (o_ic (-2) 105))) (nd 108 (lf 105 (o_goto 130)) (lf 108 (o_al 0 109))))) (nd 116 (nd 111 (lf 109 (o_al 5 111)) (nd 114 (lf 111 (o_getf 8 4 114)) (lf 114 (o_al 5 116)))) (nd 120 (nd 118 (lf 116 (o_al 5 118)) (lf 118 (o_il 6 120))) (nd 123 (lf 120 (o_invV 114 8 1 123)) (lf 123 (o_invV 117 8 1 126)))))) (nd 138 (nd 131 (nd 127 (lf 126 (o_aald 127)) (nd 130 (lf 127 (o_invV 148 11 1 130)) (lf 130 (o_iret)))) (nd 133 (nd 132 (lf 131 (o_il 3 132)) (lf 132 (o_ic (nI 0) 133))) (nd 135 (lf 133 (o_al 5 135)) (lf 135 (o_getf 8 8 138))))) (nd 141 (nd 139 (lf 138 (o_il 2 139)) (nd 140 (lf 139 (o_iald 1 140)) (lf 140 (o_ic (nI 1) 141)))) (nd 145 (nd 142 (lf 141 (o_isub 142)) (lf 142 (o_inv 123 3 145))) (nd 148 (lf 145 (o_ifne 150 148)) (lf 148 (o_ic (-1) 149))))))) (nd 178 (nd 162 (nd 153 (nd 150 (lf 149 (o_iret)) (nd 152 (lf 150 (o_il 4 152)) (lf 152 (o_ic (nI 0) 153)))) (nd 157 (nd 154 (lf 153 (o_ic (nI 1) 154)) (lf 154 (o_inv 123 3 157))) (nd 160 (lf 157 (o_ifne 165 160)) (lf 160 (o_ic (-2) 162))))) (nd 168 (nd 165 (lf 162 (o_goto 199)) (nd 166 (lf 165 (o_al 0 166)) (lf 166 (o_al 5 168)))) (nd 173 (nd 171 (lf 168 (o_getf 8 4 171)) (lf 171 (o_al 5 173))) (nd 175 (lf 173 (o_al 5 175)) (lf 175 (o_getf 8 7 178)))))) (nd 187 (nd 181 (nd 179 (lf 178 (o_il 2 179)) (nd 180 (lf 179 (o_aald 180)) (lf 180 (o_il 3 181)))) (nd 185 (nd 182 (lf 181 (o_aald 182)) (lf 182 (o_getf 10 0 185))) (nd 186 (lf 185 (o_ic (nI 2) 186)) (lf 186 (o_iadd 187))))) (nd 192 (nd 190 (nd 188 (lf 187 (o_ic (nI 2) 188)) (lf 188 (o_il 4 190))) (nd 191 (lf 190 (o_imul 191)) (lf 191 (o_iadd 192)))) (nd 196 (nd 195 (lf 192 (o_invV 114 8 1 195)) (lf 195 (o_aald 196))) (nd 199 (lf 196 (o_invV 148 11 1 199)) (lf 199 (o_iret)))))))))
def k_MO_told : Cd := (nd 76 (nd 38 (nd 19 (nd 9 (nd 2 (nd 1 (lf 0 (o_al 0 1)) (lf 1 (o_il 1 2))) (nd 5 (lf 2 (o_invV 124 11 1 5)) (nd 8 (lf 5 (o_ifne 10 8)) (lf 8 (o_ic (-1) 9))))) (nd 12 (nd 10 (lf 9 (o_iret)) (nd 11 (lf 10 (o_il 2 11)) (lf 11 (o_ic (nI 0) 12)))) (nd 13 (lf 12 (o_ic (nI 1) 13)) (nd 16 (lf 13 (o_inv 123 3 16)) (lf 16 (o_ifne 22 19)))))) (nd 28 (nd 23 (nd 21 (lf 19 (o_ic (-2) 21)) (nd 22 (lf 21 (o_iret)) (lf 22 (o_al 0 23)))) (nd 26 (lf 23 (o_getf 11 1 26)) (nd 27 (lf 26 (o_il 1 27)) (lf 27 (o_aald 28))))) (nd 32 (nd 30 (lf 28 (o_as 5 30)) (nd 31 (lf 30 (o_il 3 31)) (lf 31 (o_ic (nI 0) 32)))) (nd 34 (lf 32 (o_al 5 34)) (nd 37 (lf 34 (o_getf 8 8 37)) (lf 37 (o_il 2 38))))))) (nd 56 (nd 47 (nd 40 (nd 39 (lf 38 (o_iald 1 39)) (lf 39 (o_ic (nI 1) 40))) (nd 41 (lf 40 (o_isub 41)) (nd 44 (lf 41 (o_inv 123 3 44)) (lf 44 (o_ifne 49 47))))) (nd 51 (nd 48 (lf 47 (o_ic (-1) 48)) (nd 49 (lf 48 (o_iret)) (lf 49 (o_al 5 51)))) (nd 54 (lf 51 (o_getf 8 7 54)) (nd 55 (lf 54 (o_il 2 55)) (lf 55 (o_aald 56)))))) (nd 64 (nd 60 (nd 57 (lf 56 (o_il 3 57)) (nd 58 (lf 57 (o_aald 58)) (lf 58 (o_as 6 60)))) (nd 61 (lf 60 (o_al 0 61)) (nd 63 (lf 61 (o_al 5 63)) (lf 63 (o_il 2 64))))) (nd 70 (nd 65 (lf 64 (o_il 3 65)) (nd 68 (lf 65 (o_invV 141 11 3 68)) (lf 68 (o_as 7 70)))) (nd 71 (lf 70 (o_il 2 71)) (nd 74 (lf 71 (o_ifne 83 74)) (lf 74 (o_al 7 76)))))))) (nd 119 (nd 94 (nd 86 (nd 80 (nd 77 (lf 76 (o_ic (nI 0) 77)) (lf 77 (o_inv 139 2 80))) (nd 83 (lf 80 (o_goto 84)) (nd 84 (lf 83 (o_ic (nI 0) 84)) (lf 84 (o_is 8 86))))) (nd 90 (nd 87 (lf 86 (o_ic (nI 0) 87)) (nd 89 (lf 87 (o_is 9 89)) (lf 89 (o_ic (nI 1) 90)))) (nd 92 (lf 90 (o_is 10 92)) (nd 93 (lf 92 (o_il 2 93)) (lf 93 (o_ic (nI 1) 94)))))) (nd 107 (nd 101 (nd 97 (lf 94 (o_cne 134 97)) (nd 99 (lf 97 (o_al 7 99)) (lf 99 (o_il 10 101)))) (nd 102 (lf 101 (o_iald 0 102)) (nd 104 (lf 102 (o_ic (nI 41) 104)) (lf 104 (o_ceq 134 107))))) (nd 113 (nd 109 (lf 107 (o_il 8 109)) (nd 111 (lf 109 (o_al 7 111)) (lf 111 (o_il 10 113)))) (nd 116 (lf 113 (o_inv 139 2 116)) (nd 117 (lf 116 (o_iadd 117)) (lf 117 (o_is 8 119))))))) (nd 175 (nd 131 (nd 124 (nd 122 (lf 119 (o_inc 9 (nI 1) 122)) (lf 122 (o_al 7 124))) (nd 126 (lf 124 (o_il 10 126)) (nd 129 (lf 126 (o_inv 138 2 129)) (lf 129 (o_is 10 131))))) (nd 168 (nd 134 (lf 131 (o_goto 92)) (nd 136 (lf 134 (o_il 4 136)) (lf 136 (o_sw [(0, 168), (1, 179), (2, 188), (3, 191)] 194)))) (nd 170 (lf 168 (o_al 5 170)) (nd 172 (lf 170 (o_al 6 172)) (lf 172 (o_getf 10 0 175)))))) (nd 188 (nd 181 (nd 178 (lf 175 (o_invV 114 8 1 178)) (nd 179 (lf 178 (o_iret)) (lf 179 (o_al 6 181)))) (nd 184 (lf 181 (o_getf 10 1 184)) (nd 187 (lf 184 (o_getf 7 0 187)) (lf 187 (o_iret))))) (nd 193 (nd 190 (lf 188 (o_il 8 190)) (nd 191 (lf 190 (o_iret)) (lf 191 (o_il 9 193)))) (nd 194 (lf 193 (o_iret)) (nd 196 (lf 194 (o_ic (-2) 196)) (lf 196 (o_iret)))))))))
def k_MO_attribute : Cd := (nd 82 (nd 39 (nd 19 (nd 9 (nd 2 (nd 1 (lf 0 (o_al 0 1)) (lf 1 (o_il 1 2))) (nd 5 (lf 2 (o_invV 124 11 1 5)) (nd 8 (lf 5 (o_ifne 10 8)) (lf 8 (o_ic (-1) 9))))) (nd 12 (nd 10 (lf 9 (o_iret)) (nd 11 (lf 10 (o_il 2 11)) (lf 11 (o_ic (nI 0) 12)))) (nd 13 (lf 12 (o_ic (nI 2) 13)) (nd 16 (lf 13 (o_inv 123 3 16)) (lf 16 (o_ifne 22 19)))))) (nd 28 (nd 23 (nd 21 (lf 19 (o_ic (-2) 21)) (nd 22 (lf 21 (o_iret)) (lf 22 (o_al 0 23)))) (nd 26 (lf 23 (o_getf 11 1 26)) (nd 27 (lf 26 (o_il 1 27)) (lf 27 (o_aald 28))))) (nd 32 (nd 30 (lf 28 (o_as 6 30)) (nd 31 (lf 30 (o_il 2 31)) (lf 31 (o_ic (nI 2) 32)))) (nd 35 (lf 32 (o_cne 42 35)) (nd 36 (lf 35 (o_il 3 36)) (lf 36 (o_ifeq 61 39))))))) (nd 60 (nd 50 (nd 44 (nd 42 (lf 39 (o_goto 59)) (nd 43 (lf 42 (o_il 3 43)) (lf 43 (o_ic (nI 0) 44)))) (nd 46 (lf 44 (o_al 6 46)) (nd 49 (lf 46 (o_getf 8 8 49)) (lf 49 (o_il 2 50))))) (nd 53 (nd 51 (lf 50 (o_iald 1 51)) (nd 52 (lf 51 (o_ic (nI 1) 52)) (lf 52 (o_isub 53)))) (nd 56 (lf 53 (o_inv 123 3 56)) (nd 59 (lf 56 (o_ifne 61 59)) (lf 59 (o_ic (-1) 60)))))) (nd 71 (nd 63 (nd 61 (lf 60 (o_iret)) (nd 62 (lf 61 (o_il 2 62)) (lf 62 (o_ic (nI 2) 63)))) (nd 66 (lf 63 (o_cne 74 66)) (nd 68 (lf 66 (o_al 6 68)) (lf 68 (o_getf 8 9 71))))) (nd 79 (nd 74 (lf 71 (o_goto 86)) (nd 76 (lf 74 (o_al 6 76)) (lf 76 (o_getf 8 7 79)))) (nd 80 (lf 79 (o_il 2 80)) (nd 81 (lf 80 (o_aald 81)) (lf 81 (o_il 3 82)))))))) (nd 129 (nd 105 (nd 93 (nd 88 (nd 83 (lf 82 (o_aald 83)) (nd 86 (lf 83 (o_getf 10 1 86)) (lf 86 (o_as 7 88)))) (nd 90 (lf 88 (o_il 4 90)) (nd 91 (lf 90 (o_ic (nI 0) 91)) (lf 91 (o_al 7 93))))) (nd 98 (nd 96 (lf 93 (o_getf 7 0 96)) (nd 97 (lf 96 (o_ic (nI 1) 97)) (lf 97 (o_isub 98)))) (nd 101 (lf 98 (o_inv 123 3 101)) (nd 104 (lf 101 (o_ifne 106 104)) (lf 104 (o_ic (-1) 105)))))) (nd 116 (nd 111 (nd 106 (lf 105 (o_iret)) (nd 108 (lf 106 (o_al 7 108)) (lf 108 (o_getf 7 1 111)))) (nd 113 (lf 111 (o_il 4 113)) (nd 114 (lf 113 (o_iald 1 114)) (lf 114 (o_is 8 116))))) (nd 122 (nd 118 (lf 116 (o_il 5 118)) (nd 121 (lf 118 (o_ifne 139 121)) (lf 121 (o_al 0 122)))) (nd 124 (lf 122 (o_al 6 124)) (nd 127 (lf 124 (o_getf 8 4 127)) (lf 127 (o_al 6 129))))))) (nd 153 (nd 141 (nd 135 (nd 131 (lf 129 (o_il 8 131)) (nd 134 (lf 131 (o_invV 114 8 1 134)) (lf 134 (o_aald 135)))) (nd 138 (lf 135 (o_invV 148 11 1 138)) (nd 139 (lf 138 (o_iret)) (lf 139 (o_il 5 141))))) (nd 146 (nd 142 (lf 141 (o_ic (nI 1) 142)) (nd 145 (lf 142 (o_cne 174 145)) (lf 145 (o_al 0 146)))) (nd 148 (lf 146 (o_al 6 148)) (nd 151 (lf 148 (o_getf 8 0 151)) (lf 151 (o_il 8 153)))))) (nd 162 (nd 158 (nd 155 (lf 153 (o_ic (nI 6) 155)) (nd 156 (lf 155 (o_iadd 156)) (lf 156 (o_al 6 158)))) (nd 160 (lf 158 (o_il 8 160)) (nd 161 (lf 160 (o_ic (nI 2) 161)) (lf 161 (o_iadd 162))))) (nd 171 (nd 165 (lf 162 (o_invV 115 8 1 165)) (nd 168 (lf 165 (o_inv 133 3 168)) (lf 168 (o_invV 148 11 1 171)))) (nd 174 (lf 171 (o_goto 176)) (nd 176 (lf 174 (o_ic (-2) 176)) (lf 176 (o_iret)))))))))
def k_MO_out : Cd := (nd 14 (nd 7 (nd 2 (nd 1 (lf 0 (o_al 0 1)) (lf 1 (o_ic (nI 0) 2))) (nd 5 (lf 2 (o_putf 11 0 0 5)) (nd 6 (lf 5 (o_il 1 6)) (lf 6 (o_ic (nI 0) 7))))) (nd 11 (nd 8 (lf 7 (o_al 0 8)) (lf 8 (o_getf 11 5 11))) (nd 12 (lf 11 (o_alen 12)) (nd 13 (lf 12 (o_ic (nI 1) 13)) (lf 13 (o_isub 14)))))) (nd 25 (nd 20 (nd 17 (lf 14 (o_inv 123 3 17)) (lf 17 (o_ifeq 33 20))) (nd 21 (lf 20 (o_al 0 21)) (nd 24 (lf 21 (o_getf 11 5 24)) (lf 24 (o_il 1 25))))) (nd 30 (nd 26 (lf 25 (o_iald 0 26)) (nd 29 (lf 26 (o_ic (nI 255) 29)) (lf 29 (o_iand 30)))) (nd 33 (lf 30 (o_goto 34)) (nd 34 (lf 33 (o_ic (-1) 34)) (lf 34 (o_iret)))))))
def k_MO_meaningOf : Cd := (nd 100 (nd 46 (nd 22 (nd 10 (nd 7 (nd 3 (lf 0 (o_new 9 5 [.int 0, .long 0, .null, .null, .null] 3)) (nd 4 (lf 3 (o_dup 4)) (lf 4 (o_invI 119 0 7)))) (nd 8 (lf 7 (o_as 3 8)) (nd 9 (lf 8 (o_al 3 9)) (lf 9 (o_al 1 10))))) (nd 15 (nd 13 (lf 10 (o_getf 8 2 13)) (nd 14 (lf 13 (o_il 2 14)) (lf 14 (o_iald 1 15)))) (nd 18 (lf 15 (o_putf 9 0 0 18)) (nd 19 (lf 18 (o_al 3 19)) (lf 19 (o_getf 9 0 22)))))) (nd 32 (nd 27 (nd 23 (lf 22 (o_ic (nI 1) 23)) (nd 26 (lf 23 (o_cne 39 26)) (lf 26 (o_al 3 27)))) (nd 28 (lf 27 (o_al 1 28)) (nd 31 (lf 28 (o_getf 8 4 31)) (lf 31 (o_il 2 32))))) (nd 39 (nd 33 (lf 32 (o_aald 33)) (nd 36 (lf 33 (o_putf 9 2 2 36)) (lf 36 (o_goto 194)))) (nd 43 (nd 40 (lf 39 (o_al 3 40)) (lf 40 (o_getf 9 0 43))) (nd 44 (lf 43 (o_ic (nI 3) 44)) (lf 44 (o_ic (nI 6) 46))))))) (nd 74 (nd 58 (nd 53 (nd 49 (lf 46 (o_inv 123 3 49)) (nd 52 (lf 49 (o_ifeq 64 52)) (lf 52 (o_al 3 53)))) (nd 54 (lf 53 (o_al 1 54)) (nd 55 (lf 54 (o_il 2 55)) (lf 55 (o_invV 116 8 1 58))))) (nd 65 (nd 61 (lf 58 (o_putf 9 1 1 61)) (nd 64 (lf 61 (o_goto 194)) (lf 64 (o_al 3 65)))) (nd 70 (nd 68 (lf 65 (o_getf 9 0 68)) (lf 68 (o_ic (nI 7) 70))) (nd 73 (lf 70 (o_ceq 82 73)) (lf 73 (o_al 3 74)))))) (nd 87 (nd 82 (nd 77 (lf 74 (o_getf 9 0 77)) (nd 79 (lf 77 (o_ic (nI 8) 79)) (lf 79 (o_cne 99 82)))) (nd 83 (lf 82 (o_al 3 83)) (nd 84 (lf 83 (o_al 1 84)) (lf 84 (o_getf 8 4 87))))) (nd 92 (nd 88 (lf 87 (o_al 1 88)) (nd 89 (lf 88 (o_il 2 89)) (lf 89 (o_invV 117 8 1 92)))) (nd 96 (nd 93 (lf 92 (o_aald 93)) (lf 93 (o_putf 9 2 2 96))) (nd 99 (lf 96 (o_goto 194)) (lf 99 (o_al 3 100)))))))) (nd 148 (nd 124 (nd 113 (nd 108 (nd 103 (lf 100 (o_getf 9 0 103)) (nd 105 (lf 103 (o_ic (nI 12) 105)) (lf 105 (o_cne 139 108)))) (nd 109 (lf 108 (o_al 3 109)) (nd 110 (lf 109 (o_al 1 110)) (lf 110 (o_getf 8 4 113))))) (nd 118 (nd 114 (lf 113 (o_al 1 114)) (nd 115 (lf 114 (o_il 2 115)) (lf 115 (o_invV 117 8 1 118)))) (nd 122 (nd 119 (lf 118 (o_aald 119)) (lf 119 (o_putf 9 2 2 122))) (nd 123 (lf 122 (o_al 3 123)) (lf 123 (o_al 1 124)))))) (nd 136 (nd 129 (nd 127 (lf 124 (o_getf 8 4 127)) (nd 128 (lf 127 (o_al 1 128)) (lf 128 (o_il 2 129)))) (nd 132 (lf 129 (o_invV 118 8 1 132)) (nd 133 (lf 132 (o_aald 133)) (lf 133 (o_putf 9 3 2 136))))) (nd 141 (nd 139 (lf 136 (o_goto 194)) (nd 140 (lf 139 (o_al 1 140)) (lf 140 (o_il 2 141)))) (nd 146 (nd 144 (lf 141 (o_invV 118 8 1 144)) (lf 144 (o_is 4 146))) (nd 147 (lf 146 (o_al 3 147)) (lf 147 (o_al 1 148))))))) (nd 172 (nd 160 (nd 153 (nd 151 (lf 148 (o_getf 8 4 151)) (nd 152 (lf 151 (o_al 1 152)) (lf 152 (o_al 1 153)))) (nd 154 (lf 153 (o_il 2 154)) (nd 157 (lf 154 (o_invV 117 8 1 157)) (lf 157 (o_invV 117 8 1 160))))) (nd 165 (nd 161 (lf 160 (o_aald 161)) (nd 164 (lf 161 (o_putf 9 2 2 164)) (lf 164 (o_al 3 165)))) (nd 169 (nd 166 (lf 165 (o_al 1 166)) (lf 166 (o_getf 8 4 169))) (nd 170 (lf 169 (o_al 1 170)) (lf 170 (o_il 4 172)))))) (nd 184 (nd 179 (nd 175 (lf 172 (o_invV 117 8 1 175)) (nd 176 (lf 175 (o_aald 176)) (lf 176 (o_putf 9 3 2 179)))) (nd 180 (lf 179 (o_al 3 180)) (nd 181 (lf 180 (o_al 1 181)) (lf 181 (o_getf 8 4 184))))) (nd 190 (nd 185 (lf 184 (o_al 1 185)) (nd 187 (lf 185 (o_il 4 187)) (lf 187 (o_invV 118 8 1 190)))) (nd 194 (nd 191 (lf 190 (o_aald 191)) (lf 191 (o_putf 9 4 2 194))) (nd 195 (lf 194 (o_al 3 195)) (lf 195 (o_aret)))))))))
def k_MO_compare : Cd := (nd 26 (nd 14 (nd 5 (nd 2 (nd 1 (lf 0 (o_ic (nI 0) 1)) (lf 1 (o_is 2 2))) (nd 3 (lf 2 (o_il 2 3)) (nd 4 (lf 3 (o_al 0 4)) (lf 4 (o_alen 5))))) (nd 9 (nd 8 (lf 5 (o_cge 52 8)) (lf 8 (o_il 2 9))) (nd 10 (lf 9 (o_al 1 10)) (nd 11 (lf 10 (o_alen 11)) (lf 11 (o_cge 52 14)))))) (nd 19 (nd 16 (nd 15 (lf 14 (o_al 0 15)) (lf 15 (o_il 2 16))) (nd 17 (lf 16 (o_iald 0 17)) (nd 18 (lf 17 (o_al 1 18)) (lf 18 (o_il 2 19))))) (nd 23 (nd 20 (lf 19 (o_iald 0 20)) (lf 20 (o_ceq 46 23))) (nd 24 (lf 23 (o_al 0 24)) (nd 25 (lf 24 (o_il 2 25)) (lf 25 (o_iald 0 26))))))) (nd 44 (nd 33 (nd 30 (nd 29 (lf 26 (o_ic (nI 255) 29)) (lf 29 (o_iand 30))) (nd 31 (lf 30 (o_al 1 31)) (nd 32 (lf 31 (o_il 2 32)) (lf 32 (o_iald 0 33))))) (nd 37 (nd 36 (lf 33 (o_ic (nI 255) 36)) (lf 36 (o_iand 37))) (nd 40 (lf 37 (o_cge 44 40)) (nd 41 (lf 40 (o_ic (-1) 41)) (lf 41 (o_goto 45)))))) (nd 53 (nd 46 (nd 45 (lf 44 (o_ic (nI 1) 45)) (lf 45 (o_iret))) (nd 49 (lf 46 (o_inc 2 (nI 1) 49)) (nd 52 (lf 49 (o_goto 2)) (lf 52 (o_al 0 53))))) (nd 55 (nd 54 (lf 53 (o_alen 54)) (lf 54 (o_al 1 55))) (nd 56 (lf 55 (o_alen 56)) (nd 59 (lf 56 (o_inv 179 2 59)) (lf 59 (o_iret))))))))
def k_MO_compare_ : Cd := (nd 56 (nd 28 (nd 15 (nd 5 (nd 1 (lf 0 (o_al 0 1)) (nd 4 (lf 1 (o_getf 9 0 4)) (lf 4 (o_al 1 5)))) (nd 11 (nd 8 (lf 5 (o_getf 9 0 8)) (lf 8 (o_ceq 28 11))) (nd 12 (lf 11 (o_al 0 12)) (lf 12 (o_getf 9 0 15))))) (nd 22 (nd 16 (lf 15 (o_al 1 16)) (nd 19 (lf 16 (o_getf 9 0 19)) (lf 19 (o_cge 26 22)))) (nd 26 (nd 23 (lf 22 (o_ic (-1) 23)) (lf 23 (o_goto 27))) (nd 27 (lf 26 (o_ic (nI 1) 27)) (lf 27 (o_iret)))))) (nd 41 (nd 33 (nd 29 (lf 28 (o_al 0 29)) (nd 32 (lf 29 (o_getf 9 1 32)) (lf 32 (o_al 1 33)))) (nd 37 (nd 36 (lf 33 (o_getf 9 1 36)) (lf 36 (o_lcmp 37))) (nd 40 (lf 37 (o_ifeq 58 40)) (lf 40 (o_al 0 41))))) (nd 48 (nd 44 (lf 41 (o_getf 9 1 44)) (nd 45 (lf 44 (o_al 1 45)) (lf 45 (o_getf 9 1 48)))) (nd 52 (nd 49 (lf 48 (o_lcmp 49)) (lf 49 (o_ifge 56 52))) (nd 53 (lf 52 (o_ic (-1) 53)) (lf 53 (o_goto 57))))))) (nd 82 (nd 69 (nd 59 (nd 57 (lf 56 (o_ic (nI 1) 57)) (nd 58 (lf 57 (o_iret)) (lf 58 (o_al 0 59)))) (nd 63 (nd 62 (lf 59 (o_getf 9 2 62)) (lf 62 (o_al 1 63))) (nd 66 (lf 63 (o_getf 9 2 66)) (lf 66 (o_inv 155 2 69))))) (nd 74 (nd 70 (lf 69 (o_is 2 70)) (nd 71 (lf 70 (o_il 2 71)) (lf 71 (o_ifne 88 74)))) (nd 78 (nd 75 (lf 74 (o_al 0 75)) (lf 75 (o_getf 9 3 78))) (nd 79 (lf 78 (o_al 1 79)) (lf 79 (o_getf 9 3 82)))))) (nd 95 (nd 89 (nd 85 (lf 82 (o_inv 155 2 85)) (nd 88 (lf 85 (o_goto 89)) (lf 88 (o_il 2 89)))) (nd 91 (nd 90 (lf 89 (o_is 2 90)) (lf 90 (o_il 2 91))) (nd 94 (lf 91 (o_ifne 108 94)) (lf 94 (o_al 0 95))))) (nd 102 (nd 98 (lf 95 (o_getf 9 4 98)) (nd 99 (lf 98 (o_al 1 99)) (lf 99 (o_getf 9 4 102)))) (nd 108 (nd 105 (lf 102 (o_inv 155 2 105)) (lf 105 (o_goto 109))) (nd 109 (lf 108 (o_il 2 109)) (lf 109 (o_iret))))))))
def k_MO_find : Cd := (nd 23 (nd 9 (nd 3 (nd 1 (lf 0 (o_ic (nI 0) 1)) (nd 2 (lf 1 (o_is 3 2)) (lf 2 (o_il 3 3)))) (nd 7 (nd 4 (lf 3 (o_il 1 4)) (lf 4 (o_cge 41 7))) (nd 8 (lf 7 (o_al 0 8)) (lf 8 (o_il 3 9))))) (nd 14 (nd 10 (lf 9 (o_aald 10)) (nd 11 (lf 10 (o_al 2 11)) (lf 11 (o_inv 156 2 14)))) (nd 18 (nd 16 (lf 14 (o_is 4 16)) (lf 16 (o_il 4 18))) (nd 21 (lf 18 (o_iflt 35 21)) (lf 21 (o_il 4 23)))))) (nd 34 (nd 30 (nd 26 (lf 23 (o_ifne 30 26)) (nd 27 (lf 26 (o_il 3 27)) (lf 27 (o_goto 34)))) (nd 32 (nd 31 (lf 30 (o_il 3 31)) (lf 31 (o_ineg 32))) (nd 33 (lf 32 (o_ic (nI 1) 33)) (lf 33 (o_isub 34))))) (nd 42 (nd 38 (nd 35 (lf 34 (o_iret)) (lf 35 (o_inc 3 (nI 1) 38))) (nd 41 (lf 38 (o_goto 2)) (lf 41 (o_il 1 42)))) (nd 44 (nd 43 (lf 42 (o_ineg 43)) (lf 43 (o_ic (nI 1) 44))) (nd 45 (lf 44 (o_isub 45)) (lf 45 (o_iret)))))))
def k_MO_lay : Cd := (nd 57 (nd 29 (nd 12 (nd 4 (nd 1 (lf 0 (o_il 3 1)) (nd 3 (lf 1 (o_is 4 3)) (lf 3 (o_ic (nI 1) 4)))) (nd 8 (nd 6 (lf 4 (o_is 5 6)) (lf 6 (o_il 5 8))) (nd 9 (lf 8 (o_al 1 9)) (lf 9 (o_getf 8 1 12))))) (nd 20 (nd 15 (lf 12 (o_cge 106 15)) (nd 17 (lf 15 (o_il 4 17)) (lf 17 (o_ic (nI 150) 20)))) (nd 24 (nd 23 (lf 20 (o_cgt 106 23)) (lf 23 (o_al 1 24))) (nd 27 (lf 24 (o_getf 8 2 27)) (lf 27 (o_il 5 29)))))) (nd 42 (nd 34 (nd 30 (lf 29 (o_iald 1 30)) (nd 33 (lf 30 (o_ifeq 100 33)) (lf 33 (o_al 0 34)))) (nd 37 (nd 35 (lf 34 (o_al 1 35)) (lf 35 (o_il 5 37))) (nd 40 (lf 37 (o_invV 154 11 2 40)) (lf 40 (o_as 6 42))))) (nd 47 (nd 43 (lf 42 (o_al 2 43)) (nd 45 (lf 43 (o_il 4 45)) (lf 45 (o_al 6 47)))) (nd 52 (nd 50 (lf 47 (o_inv 157 3 50)) (lf 50 (o_is 7 52))) (nd 54 (lf 52 (o_il 7 54)) (lf 54 (o_ifge 100 57))))))) (nd 81 (nd 68 (nd 61 (nd 59 (lf 57 (o_il 7 59)) (nd 60 (lf 59 (o_ineg 60)) (lf 60 (o_ic (nI 1) 61)))) (nd 64 (nd 62 (lf 61 (o_isub 62)) (lf 62 (o_is 7 64))) (nd 66 (lf 64 (o_il 4 66)) (lf 66 (o_is 8 68))))) (nd 75 (nd 70 (lf 68 (o_il 8 70)) (nd 72 (lf 70 (o_il 7 72)) (lf 72 (o_cle 91 75)))) (nd 78 (nd 76 (lf 75 (o_al 2 76)) (lf 76 (o_il 8 78))) (nd 79 (lf 78 (o_al 2 79)) (lf 79 (o_il 8 81)))))) (nd 92 (nd 84 (nd 82 (lf 81 (o_ic (nI 1) 82)) (nd 83 (lf 82 (o_isub 83)) (lf 83 (o_aald 84)))) (nd 88 (nd 85 (lf 84 (o_aast 10 19 85)) (lf 85 (o_inc 8 (-1) 88))) (nd 91 (lf 88 (o_goto 68)) (lf 91 (o_al 2 92))))) (nd 100 (nd 96 (nd 94 (lf 92 (o_il 7 94)) (lf 94 (o_al 6 96))) (nd 97 (lf 96 (o_aast 10 19 97)) (lf 97 (o_inc 4 (nI 1) 100)))) (nd 106 (nd 103 (lf 100 (o_inc 5 (nI 1) 103)) (lf 103 (o_goto 6))) (nd 108 (lf 106 (o_il 4 108)) (lf 108 (o_iret))))))))
def k_MO_join : Cd := (nd 36 (nd 16 (nd 11 (nd 2 (nd 1 (lf 0 (o_al 0 1)) (lf 1 (o_ic (nI 0) 2))) (nd 5 (lf 2 (o_putf 11 0 0 5)) (nd 8 (lf 5 (o_ic (nI 152) 8)) (lf 8 (o_newq 10 11))))) (nd 13 (nd 12 (lf 11 (o_as 1 12)) (lf 12 (o_ic (nI 0) 13))) (nd 14 (lf 13 (o_is 2 14)) (nd 15 (lf 14 (o_ic (nI 0) 15)) (lf 15 (o_is 3 16)))))) (nd 25 (nd 18 (nd 17 (lf 16 (o_il 3 17)) (lf 17 (o_al 0 18))) (nd 21 (lf 18 (o_getf 11 2 21)) (nd 24 (lf 21 (o_cge 50 24)) (lf 24 (o_il 2 25))))) (nd 31 (nd 28 (lf 25 (o_ic (nI 150) 28)) (lf 28 (o_cgt 50 31))) (nd 32 (lf 31 (o_al 0 32)) (nd 33 (lf 32 (o_al 0 33)) (lf 33 (o_getf 11 1 36))))))) (nd 54 (nd 43 (nd 38 (nd 37 (lf 36 (o_il 3 37)) (lf 37 (o_aald 38))) (nd 39 (lf 38 (o_al 1 39)) (nd 40 (lf 39 (o_il 2 40)) (lf 40 (o_invV 158 11 3 43))))) (nd 47 (nd 44 (lf 43 (o_is 2 44)) (lf 44 (o_inc 3 (nI 1) 47))) (nd 50 (lf 47 (o_goto 16)) (nd 51 (lf 50 (o_il 2 51)) (lf 51 (o_ic (nI 150) 54)))))) (nd 62 (nd 59 (nd 57 (lf 54 (o_cle 60 57)) (lf 57 (o_ic (-3) 59))) (nd 60 (lf 59 (o_iret)) (nd 61 (lf 60 (o_al 0 61)) (lf 61 (o_al 1 62))))) (nd 67 (nd 65 (lf 62 (o_putf 11 10 2 65)) (nd 66 (lf 65 (o_al 0 66)) (lf 66 (o_il 2 67)))) (nd 70 (lf 67 (o_putf 11 11 0 70)) (nd 71 (lf 70 (o_il 2 71)) (lf 71 (o_iret))))))))
def k_MO_isEntry : Cd := (nd 21 (nd 10 (nd 5 (nd 1 (lf 0 (o_al 0 1)) (nd 2 (lf 1 (o_il 1 2)) (lf 2 (o_invV 124 11 1 5)))) (nd 8 (lf 5 (o_ifeq 45 8)) (nd 9 (lf 8 (o_il 2 9)) (lf 9 (o_ic (nI 0) 10))))) (nd 15 (nd 11 (lf 10 (o_al 0 11)) (nd 14 (lf 11 (o_getf 11 1 14)) (lf 14 (o_il 1 15)))) (nd 19 (nd 16 (lf 15 (o_aald 16)) (lf 16 (o_getf 8 1 19))) (nd 20 (lf 19 (o_ic (nI 1) 20)) (lf 20 (o_isub 21)))))) (nd 36 (nd 28 (nd 24 (lf 21 (o_inv 123 3 24)) (nd 27 (lf 24 (o_ifeq 45 27)) (lf 27 (o_al 0 28)))) (nd 32 (nd 31 (lf 28 (o_getf 11 1 31)) (lf 31 (o_il 1 32))) (nd 33 (lf 32 (o_aald 33)) (lf 33 (o_getf 8 2 36))))) (nd 41 (nd 37 (lf 36 (o_il 2 37)) (nd 38 (lf 37 (o_iald 1 38)) (lf 38 (o_ifeq 45 41)))) (nd 45 (nd 42 (lf 41 (o_ic (nI 1) 42)) (lf 42 (o_goto 46))) (nd 46 (lf 45 (o_ic (nI 0) 46)) (lf 46 (o_zret)))))))
def k_MO_joined : Cd := (nd 19 (nd 9 (nd 2 (nd 1 (lf 0 (o_al 0 1)) (lf 1 (o_il 1 2))) (nd 3 (lf 2 (o_il 2 3)) (nd 6 (lf 3 (o_invV 160 11 2 6)) (lf 6 (o_ifeq 38 9))))) (nd 14 (nd 10 (lf 9 (o_ic (-1) 10)) (nd 11 (lf 10 (o_al 0 11)) (lf 11 (o_getf 11 10 14)))) (nd 15 (lf 14 (o_al 0 15)) (nd 18 (lf 15 (o_getf 11 11 18)) (lf 18 (o_al 0 19)))))) (nd 26 (nd 23 (nd 20 (lf 19 (o_al 0 20)) (lf 20 (o_getf 11 1 23))) (nd 24 (lf 23 (o_il 1 24)) (nd 25 (lf 24 (o_aald 25)) (lf 25 (o_il 2 26))))) (nd 35 (nd 29 (lf 26 (o_invV 154 11 2 29)) (nd 32 (lf 29 (o_inv 157 3 32)) (lf 32 (o_inv 181 2 35)))) (nd 38 (lf 35 (o_goto 39)) (nd 39 (lf 38 (o_ic (-1) 39)) (lf 39 (o_iret)))))))
def k_MO_meaning : Cd := (nd 63 (nd 31 (nd 13 (nd 6 (nd 2 (nd 1 (lf 0 (o_al 0 1)) (lf 1 (o_ic (nI 0) 2))) (nd 5 (lf 2 (o_putf 11 0 0 5)) (lf 5 (o_il 1 6)))) (nd 8 (nd 7 (lf 6 (o_ic (nI 0) 7)) (lf 7 (o_al 0 8))) (nd 11 (lf 8 (o_getf 11 11 11)) (nd 12 (lf 11 (o_ic (nI 1) 12)) (lf 12 (o_isub 13)))))) (nd 22 (nd 19 (nd 16 (lf 13 (o_inv 123 3 16)) (lf 16 (o_ifne 21 19))) (nd 20 (lf 19 (o_ic (-1) 20)) (nd 21 (lf 20 (o_iret)) (lf 21 (o_il 2 22))))) (nd 26 (nd 25 (lf 22 (o_ifne 35 25)) (lf 25 (o_al 0 26))) (nd 29 (lf 26 (o_getf 11 10 29)) (nd 30 (lf 29 (o_il 1 30)) (lf 30 (o_aald 31))))))) (nd 45 (nd 37 (nd 35 (nd 34 (lf 31 (o_getf 9 0 34)) (lf 34 (o_iret))) (nd 36 (lf 35 (o_il 2 36)) (lf 36 (o_ic (nI 1) 37)))) (nd 42 (nd 40 (lf 37 (o_ceq 43 40)) (lf 40 (o_ic (-2) 42))) (nd 43 (lf 42 (o_iret)) (nd 44 (lf 43 (o_ic (nI 0) 44)) (lf 44 (o_is 3 45)))))) (nd 54 (nd 48 (nd 46 (lf 45 (o_ic (nI 0) 46)) (lf 46 (o_is 4 48))) (nd 50 (lf 48 (o_il 4 50)) (nd 51 (lf 50 (o_al 0 51)) (lf 51 (o_getf 11 2 54))))) (nd 58 (nd 57 (lf 54 (o_cge 136 57)) (lf 57 (o_ic (nI 1) 58))) (nd 60 (lf 58 (o_is 5 60)) (nd 62 (lf 60 (o_il 5 62)) (lf 62 (o_al 0 63)))))))) (nd 100 (nd 82 (nd 72 (nd 68 (nd 66 (lf 63 (o_getf 11 1 66)) (lf 66 (o_il 4 68))) (nd 69 (lf 68 (o_aald 69)) (lf 69 (o_getf 8 1 72)))) (nd 76 (nd 75 (lf 72 (o_cge 130 75)) (lf 75 (o_il 3 76))) (nd 77 (lf 76 (o_al 0 77)) (nd 80 (lf 77 (o_getf 11 1 80)) (lf 80 (o_il 4 82)))))) (nd 92 (nd 86 (nd 83 (lf 82 (o_aald 83)) (lf 83 (o_getf 8 2 86))) (nd 88 (lf 86 (o_il 5 88)) (nd 89 (lf 88 (o_iald 1 89)) (lf 89 (o_ifeq 121 92))))) (nd 94 (nd 93 (lf 92 (o_al 0 93)) (lf 93 (o_al 0 94))) (nd 97 (lf 94 (o_getf 11 1 97)) (nd 99 (lf 97 (o_il 4 99)) (lf 99 (o_aald 100))))))) (nd 118 (nd 109 (nd 105 (nd 102 (lf 100 (o_il 5 102)) (lf 102 (o_invV 154 11 2 105))) (nd 106 (lf 105 (o_al 0 106)) (lf 106 (o_getf 11 10 109)))) (nd 111 (nd 110 (lf 109 (o_il 1 110)) (lf 110 (o_aald 111))) (nd 114 (lf 111 (o_inv 156 2 114)) (nd 117 (lf 114 (o_ifne 121 117)) (lf 117 (o_ic (nI 1) 118)))))) (nd 127 (nd 122 (nd 121 (lf 118 (o_goto 122)) (lf 121 (o_ic (nI 0) 122))) (nd 123 (lf 122 (o_iadd 123)) (nd 124 (lf 123 (o_is 3 124)) (lf 124 (o_inc 5 (nI 1) 127))))) (nd 133 (nd 130 (lf 127 (o_goto 60)) (lf 130 (o_inc 4 (nI 1) 133))) (nd 136 (lf 133 (o_goto 48)) (nd 137 (lf 136 (o_il 3 137)) (lf 137 (o_iret)))))))))
def k_MO_sameBytes : Cd := (nd 25 (nd 13 (nd 4 (nd 1 (lf 0 (o_ic (nI 1) 1)) (nd 3 (lf 1 (o_is 6 3)) (lf 3 (o_ic (nI 0) 4)))) (nd 8 (nd 6 (lf 4 (o_is 7 6)) (lf 6 (o_il 7 8))) (nd 10 (lf 8 (o_il 5 10)) (lf 10 (o_cge 51 13))))) (nd 20 (nd 16 (nd 15 (lf 13 (o_il 6 15)) (lf 15 (o_al 1 16))) (nd 19 (lf 16 (o_getf 8 0 19)) (lf 19 (o_il 2 20)))) (nd 23 (nd 22 (lf 20 (o_il 7 22)) (lf 22 (o_iadd 23))) (nd 24 (lf 23 (o_iald 0 24)) (lf 24 (o_al 3 25)))))) (nd 38 (nd 32 (nd 28 (lf 25 (o_getf 8 0 28)) (nd 30 (lf 28 (o_il 4 30)) (lf 30 (o_il 7 32)))) (nd 34 (nd 33 (lf 32 (o_iadd 33)) (lf 33 (o_iald 0 34))) (nd 37 (lf 34 (o_cne 41 37)) (lf 37 (o_ic (nI 1) 38))))) (nd 45 (nd 42 (nd 41 (lf 38 (o_goto 42)) (lf 41 (o_ic (nI 0) 42))) (nd 43 (lf 42 (o_iand 43)) (lf 43 (o_is 6 45)))) (nd 51 (nd 48 (lf 45 (o_inc 7 (nI 1) 48)) (lf 48 (o_goto 6))) (nd 53 (lf 51 (o_il 6 53)) (lf 53 (o_zret)))))))
def k_MO_samePlace : Cd := (nd 33 (nd 15 (nd 7 (nd 2 (nd 1 (lf 0 (o_al 1 1)) (lf 1 (o_il 2 2))) (nd 5 (lf 2 (o_invV 114 8 1 5)) (lf 5 (o_is 5 7)))) (nd 10 (nd 8 (lf 7 (o_al 3 8)) (lf 8 (o_il 4 10))) (nd 13 (lf 10 (o_invV 114 8 1 13)) (lf 13 (o_is 6 15))))) (nd 25 (nd 20 (nd 17 (lf 15 (o_il 5 17)) (lf 17 (o_ifeq 25 20))) (nd 22 (lf 20 (o_il 6 22)) (lf 22 (o_ifne 40 25)))) (nd 29 (nd 27 (lf 25 (o_il 5 27)) (lf 27 (o_il 6 29))) (nd 32 (lf 29 (o_cne 36 32)) (lf 32 (o_ic (nI 1) 33)))))) (nd 48 (nd 41 (nd 37 (nd 36 (lf 33 (o_goto 65)) (lf 36 (o_ic (nI 0) 37))) (nd 40 (lf 37 (o_goto 65)) (lf 40 (o_al 0 41)))) (nd 44 (nd 42 (lf 41 (o_al 1 42)) (lf 42 (o_il 5 44))) (nd 47 (lf 44 (o_invV 154 11 2 47)) (lf 47 (o_al 0 48))))) (nd 57 (nd 51 (nd 49 (lf 48 (o_al 3 49)) (lf 49 (o_il 6 51))) (nd 54 (lf 51 (o_invV 154 11 2 54)) (lf 54 (o_inv 156 2 57)))) (nd 61 (nd 60 (lf 57 (o_ifne 64 60)) (lf 60 (o_ic (nI 1) 61))) (nd 64 (lf 61 (o_goto 65)) (nd 65 (lf 64 (o_ic (nI 0) 65)) (lf 65 (o_zret))))))))
def k_MO_same : Cd := (nd 69 (nd 37 (nd 19 (nd 9 (nd 4 (nd 1 (lf 0 (o_al 2 1)) (lf 1 (o_getf 7 0 4))) (nd 6 (lf 4 (o_al 4 6)) (lf 6 (o_getf 7 0 9)))) (nd 13 (nd 12 (lf 9 (o_cne 16 12)) (lf 12 (o_ic (nI 1) 13))) (nd 16 (lf 13 (o_goto 17)) (nd 17 (lf 16 (o_ic (nI 0) 17)) (lf 17 (o_is 5 19)))))) (nd 25 (nd 22 (nd 20 (lf 19 (o_ic (nI 0) 20)) (lf 20 (o_is 6 22))) (nd 24 (lf 22 (o_il 6 24)) (lf 24 (o_al 2 25)))) (nd 31 (nd 28 (lf 25 (o_getf 7 0 28)) (lf 28 (o_cge 139 31))) (nd 33 (lf 31 (o_il 5 33)) (nd 36 (lf 33 (o_ifeq 139 36)) (lf 36 (o_al 1 37))))))) (nd 52 (nd 44 (nd 41 (nd 38 (lf 37 (o_al 2 38)) (lf 38 (o_getf 7 1 41))) (nd 43 (lf 41 (o_il 6 43)) (lf 43 (o_iald 1 44)))) (nd 46 (nd 45 (lf 44 (o_ic (nI 2) 45)) (lf 45 (o_iadd 46))) (nd 49 (lf 46 (o_invV 115 8 1 49)) (nd 51 (lf 49 (o_is 7 51)) (lf 51 (o_al 0 52)))))) (nd 60 (nd 54 (nd 53 (lf 52 (o_al 1 53)) (lf 53 (o_al 2 54))) (nd 57 (lf 54 (o_getf 7 1 57)) (nd 59 (lf 57 (o_il 6 59)) (lf 59 (o_iald 1 60))))) (nd 63 (nd 61 (lf 60 (o_al 3 61)) (lf 61 (o_al 4 63))) (nd 66 (lf 63 (o_getf 7 1 66)) (nd 68 (lf 66 (o_il 6 68)) (lf 68 (o_iald 1 69)))))))) (nd 105 (nd 87 (nd 78 (nd 75 (nd 72 (lf 69 (o_invV 164 11 4 72)) (lf 72 (o_ifeq 130 75))) (nd 77 (lf 75 (o_il 7 77)) (lf 77 (o_al 3 78)))) (nd 83 (nd 80 (lf 78 (o_al 4 80)) (lf 80 (o_getf 7 1 83))) (nd 85 (lf 83 (o_il 6 85)) (nd 86 (lf 85 (o_iald 1 86)) (lf 86 (o_ic (nI 2) 87)))))) (nd 96 (nd 91 (nd 88 (lf 87 (o_iadd 88)) (lf 88 (o_invV 115 8 1 91))) (nd 94 (lf 91 (o_cne 130 94)) (nd 95 (lf 94 (o_al 0 95)) (lf 95 (o_al 1 96))))) (nd 100 (nd 97 (lf 96 (o_al 2 97)) (lf 97 (o_getf 7 1 100))) (nd 102 (lf 100 (o_il 6 102)) (nd 103 (lf 102 (o_iald 1 103)) (lf 103 (o_ic (nI 6) 105))))))) (nd 120 (nd 112 (nd 107 (nd 106 (lf 105 (o_iadd 106)) (lf 106 (o_al 3 107))) (nd 109 (lf 107 (o_al 4 109)) (lf 109 (o_getf 7 1 112)))) (nd 115 (nd 114 (lf 112 (o_il 6 114)) (lf 114 (o_iald 1 115))) (nd 117 (lf 115 (o_ic (nI 6) 117)) (nd 118 (lf 117 (o_iadd 118)) (lf 118 (o_il 7 120)))))) (nd 131 (nd 126 (nd 123 (lf 120 (o_invV 163 11 5 123)) (lf 123 (o_ifeq 130 126))) (nd 127 (lf 126 (o_ic (nI 1) 127)) (nd 130 (lf 127 (o_goto 131)) (lf 130 (o_ic (nI 0) 131))))) (nd 136 (nd 133 (lf 131 (o_is 5 133)) (lf 133 (o_inc 6 (nI 1) 136))) (nd 139 (lf 136 (o_goto 22)) (nd 141 (lf 139 (o_il 5 141)) (lf 141 (o_zret)))))))))
def k_MO_isAlike : Cd := (nd 179 (nd 90 (nd 49 (nd 22 (nd 10 (nd 5 (nd 1 (lf 0 (o_al 1 1)) (nd 2 (lf 1 (o_ic (nI 4) 2)) (lf 2 (o_invV 114 8 1 5)))) (nd 6 (lf 5 (o_al 2 6)) (nd 7 (lf 6 (o_ic (nI 4) 7)) (lf 7 (o_invV 114 8 1 10))))) (nd 16 (nd 13 (lf 10 (o_cne 104 13)) (nd 14 (lf 13 (o_al 1 14)) (lf 14 (o_ic (nI 6) 16)))) (nd 19 (lf 16 (o_invV 114 8 1 19)) (nd 20 (lf 19 (o_al 2 20)) (lf 20 (o_ic (nI 6) 22)))))) (nd 36 (nd 29 (nd 25 (lf 22 (o_invV 114 8 1 25)) (nd 28 (lf 25 (o_cne 104 28)) (lf 28 (o_al 1 29)))) (nd 30 (lf 29 (o_al 1 30)) (nd 33 (lf 30 (o_getf 8 5 33)) (lf 33 (o_invV 114 8 1 36))))) (nd 41 (nd 37 (lf 36 (o_al 2 37)) (nd 38 (lf 37 (o_al 2 38)) (lf 38 (o_getf 8 5 41)))) (nd 47 (nd 44 (lf 41 (o_invV 114 8 1 44)) (lf 44 (o_cne 104 47))) (nd 48 (lf 47 (o_al 0 48)) (lf 48 (o_al 1 49))))))) (nd 69 (nd 57 (nd 54 (nd 50 (lf 49 (o_al 1 50)) (nd 53 (lf 50 (o_getf 8 5 53)) (lf 53 (o_ic (nI 2) 54)))) (nd 55 (lf 54 (o_iadd 55)) (nd 56 (lf 55 (o_al 2 56)) (lf 56 (o_al 2 57))))) (nd 62 (nd 60 (lf 57 (o_getf 8 5 60)) (nd 61 (lf 60 (o_ic (nI 2) 61)) (lf 61 (o_iadd 62)))) (nd 65 (lf 62 (o_invV 164 11 4 65)) (nd 68 (lf 65 (o_ifeq 104 68)) (lf 68 (o_al 0 69)))))) (nd 77 (nd 74 (nd 70 (lf 69 (o_al 1 70)) (nd 71 (lf 70 (o_al 1 71)) (lf 71 (o_getf 8 5 74)))) (nd 75 (lf 74 (o_ic (nI 4) 75)) (nd 76 (lf 75 (o_iadd 76)) (lf 76 (o_al 2 77))))) (nd 82 (nd 78 (lf 77 (o_al 2 78)) (nd 81 (lf 78 (o_getf 8 5 81)) (lf 81 (o_ic (nI 4) 82)))) (nd 86 (nd 83 (lf 82 (o_iadd 83)) (lf 83 (o_invV 164 11 4 86))) (nd 89 (lf 86 (o_ifeq 104 89)) (lf 89 (o_al 1 90)))))))) (nd 135 (nd 112 (nd 104 (nd 97 (nd 93 (lf 90 (o_getf 8 6 93)) (nd 94 (lf 93 (o_al 2 94)) (lf 94 (o_getf 8 6 97)))) (nd 100 (lf 97 (o_cne 104 100)) (nd 101 (lf 100 (o_ic (nI 1) 101)) (lf 101 (o_goto 105))))) (nd 107 (nd 105 (lf 104 (o_ic (nI 0) 105)) (nd 106 (lf 105 (o_is 3 106)) (lf 106 (o_ic (nI 0) 107)))) (nd 109 (lf 107 (o_is 4 109)) (nd 111 (lf 109 (o_il 4 111)) (lf 111 (o_al 1 112)))))) (nd 124 (nd 119 (nd 115 (lf 112 (o_getf 8 6 115)) (nd 118 (lf 115 (o_cge 159 118)) (lf 118 (o_il 3 119)))) (nd 122 (lf 119 (o_ifeq 159 122)) (nd 123 (lf 122 (o_al 0 123)) (lf 123 (o_al 1 124))))) (nd 130 (nd 125 (lf 124 (o_al 1 125)) (nd 128 (lf 125 (o_getf 8 5 128)) (lf 128 (o_ic (nI 8) 130)))) (nd 132 (nd 131 (lf 130 (o_iadd 131)) (lf 131 (o_ic (nI 2) 132))) (nd 134 (lf 132 (o_il 4 134)) (lf 134 (o_imul 135))))))) (nd 153 (nd 144 (nd 138 (nd 136 (lf 135 (o_iadd 136)) (nd 137 (lf 136 (o_al 2 137)) (lf 137 (o_al 2 138)))) (nd 141 (lf 138 (o_getf 8 5 141)) (nd 143 (lf 141 (o_ic (nI 8) 143)) (lf 143 (o_iadd 144))))) (nd 148 (nd 145 (lf 144 (o_ic (nI 2) 145)) (nd 147 (lf 145 (o_il 4 147)) (lf 147 (o_imul 148)))) (nd 149 (lf 148 (o_iadd 149)) (nd 152 (lf 149 (o_invV 164 11 4 152)) (lf 152 (o_is 3 153)))))) (nd 165 (nd 160 (nd 156 (lf 153 (o_inc 4 (nI 1) 156)) (nd 159 (lf 156 (o_goto 109)) (lf 159 (o_ic (nI 0) 160)))) (nd 162 (lf 160 (o_is 4 162)) (nd 164 (lf 162 (o_il 4 164)) (lf 164 (o_ic (nI 2) 165))))) (nd 172 (nd 168 (lf 165 (o_cge 342 168)) (nd 169 (lf 168 (o_il 3 169)) (lf 169 (o_ifeq 193 172)))) (nd 176 (nd 173 (lf 172 (o_al 1 173)) (lf 173 (o_getf 8 8 176))) (nd 178 (lf 176 (o_il 4 178)) (lf 178 (o_iald 1 179))))))))) (nd 271 (nd 224 (nd 199 (nd 190 (nd 185 (nd 180 (lf 179 (o_al 2 180)) (nd 183 (lf 180 (o_getf 8 8 183)) (lf 183 (o_il 4 185)))) (nd 186 (lf 185 (o_iald 1 186)) (nd 189 (lf 186 (o_cne 193 189)) (lf 189 (o_ic (nI 1) 190))))) (nd 195 (nd 193 (lf 190 (o_goto 194)) (nd 194 (lf 193 (o_ic (nI 0) 194)) (lf 194 (o_is 3 195)))) (nd 196 (lf 195 (o_ic (nI 0) 196)) (nd 198 (lf 196 (o_is 5 198)) (lf 198 (o_il 3 199)))))) (nd 211 (nd 205 (nd 202 (lf 199 (o_ifeq 336 202)) (nd 204 (lf 202 (o_il 5 204)) (lf 204 (o_al 1 205)))) (nd 208 (lf 205 (o_getf 8 8 208)) (nd 210 (lf 208 (o_il 4 210)) (lf 210 (o_iald 1 211))))) (nd 218 (nd 214 (lf 211 (o_cge 336 214)) (nd 215 (lf 214 (o_al 1 215)) (lf 215 (o_getf 8 7 218)))) (nd 221 (nd 220 (lf 218 (o_il 4 220)) (lf 220 (o_aald 221))) (nd 223 (lf 221 (o_il 5 223)) (lf 223 (o_aald 224))))))) (nd 247 (nd 235 (nd 230 (nd 226 (lf 224 (o_as 6 226)) (nd 227 (lf 226 (o_al 2 227)) (lf 227 (o_getf 8 7 230)))) (nd 232 (lf 230 (o_il 4 232)) (nd 233 (lf 232 (o_aald 233)) (lf 233 (o_il 5 235))))) (nd 239 (nd 236 (lf 235 (o_aald 236)) (nd 238 (lf 236 (o_as 7 238)) (lf 238 (o_al 1 239)))) (nd 241 (lf 239 (o_al 6 241)) (nd 244 (lf 241 (o_getf 10 0 244)) (lf 244 (o_invV 114 8 1 247)))))) (nd 260 (nd 253 (nd 248 (lf 247 (o_al 2 248)) (nd 250 (lf 248 (o_al 7 250)) (lf 250 (o_getf 10 0 253)))) (nd 256 (lf 253 (o_invV 114 8 1 256)) (nd 259 (lf 256 (o_cne 328 259)) (lf 259 (o_al 0 260))))) (nd 266 (nd 261 (lf 260 (o_al 1 261)) (nd 263 (lf 261 (o_al 6 263)) (lf 263 (o_getf 10 0 266)))) (nd 268 (nd 267 (lf 266 (o_ic (nI 2) 267)) (lf 267 (o_iadd 268))) (nd 269 (lf 268 (o_al 2 269)) (lf 269 (o_al 7 271)))))))) (nd 318 (nd 292 (nd 283 (nd 276 (nd 274 (lf 271 (o_getf 10 0 274)) (nd 275 (lf 274 (o_ic (nI 2) 275)) (lf 275 (o_iadd 276)))) (nd 279 (lf 276 (o_invV 164 11 4 279)) (nd 282 (lf 279 (o_ifeq 328 282)) (lf 282 (o_al 0 283))))) (nd 289 (nd 284 (lf 283 (o_al 1 284)) (nd 286 (lf 284 (o_al 6 286)) (lf 286 (o_getf 10 0 289)))) (nd 290 (lf 289 (o_ic (nI 4) 290)) (nd 291 (lf 290 (o_iadd 291)) (lf 291 (o_al 2 292)))))) (nd 305 (nd 298 (nd 294 (lf 292 (o_al 7 294)) (nd 297 (lf 294 (o_getf 10 0 297)) (lf 297 (o_ic (nI 4) 298)))) (nd 299 (lf 298 (o_iadd 299)) (nd 302 (lf 299 (o_invV 164 11 4 302)) (lf 302 (o_ifeq 328 305))))) (nd 309 (nd 306 (lf 305 (o_al 0 306)) (nd 307 (lf 306 (o_al 1 307)) (lf 307 (o_al 6 309)))) (nd 313 (nd 312 (lf 309 (o_getf 10 1 312)) (lf 312 (o_al 2 313))) (nd 315 (lf 313 (o_al 7 315)) (lf 315 (o_getf 10 1 318))))))) (nd 346 (nd 330 (nd 325 (nd 321 (lf 318 (o_invV 165 11 4 321)) (nd 324 (lf 321 (o_ifeq 328 324)) (lf 324 (o_ic (nI 1) 325)))) (nd 328 (lf 325 (o_goto 329)) (nd 329 (lf 328 (o_ic (nI 0) 329)) (lf 329 (o_is 3 330))))) (nd 339 (nd 333 (lf 330 (o_inc 5 (nI 1) 333)) (nd 336 (lf 333 (o_goto 198)) (lf 336 (o_inc 4 (nI 1) 339)))) (nd 342 (lf 339 (o_goto 162)) (nd 343 (lf 342 (o_il 3 343)) (lf 343 (o_ifeq 367 346)))))) (nd 354 (nd 349 (nd 347 (lf 346 (o_al 0 347)) (nd 348 (lf 347 (o_al 1 348)) (lf 348 (o_al 1 349)))) (nd 352 (lf 349 (o_getf 8 9 352)) (nd 353 (lf 352 (o_al 2 353)) (lf 353 (o_al 2 354))))) (nd 363 (nd 357 (lf 354 (o_getf 8 9 357)) (nd 360 (lf 357 (o_invV 165 11 4 360)) (lf 360 (o_ifeq 367 363)))) (nd 367 (nd 364 (lf 363 (o_ic (nI 1) 364)) (lf 364 (o_goto 368))) (nd 368 (lf 367 (o_ic (nI 0) 368)) (lf 368 (o_zret))))))))))
def k_MO_alike : Cd := (nd 30 (nd 17 (nd 8 (nd 2 (nd 1 (lf 0 (o_al 0 1)) (lf 1 (o_il 1 2))) (nd 5 (lf 2 (o_invV 124 11 1 5)) (lf 5 (o_ifeq 16 8)))) (nd 10 (nd 9 (lf 8 (o_al 0 9)) (lf 9 (o_il 2 10))) (nd 13 (lf 10 (o_invV 124 11 1 13)) (nd 16 (lf 13 (o_ifne 18 16)) (lf 16 (o_ic (-1) 17)))))) (nd 23 (nd 19 (nd 18 (lf 17 (o_iret)) (lf 18 (o_al 0 19))) (nd 22 (lf 19 (o_getf 11 1 22)) (lf 22 (o_il 1 23)))) (nd 25 (nd 24 (lf 23 (o_aald 24)) (lf 24 (o_as 3 25))) (nd 26 (lf 25 (o_al 0 26)) (nd 29 (lf 26 (o_getf 11 1 29)) (lf 29 (o_il 2 30))))))) (nd 49 (nd 37 (nd 33 (nd 31 (lf 30 (o_aald 31)) (lf 31 (o_as 4 33))) (nd 34 (lf 33 (o_al 3 34)) (lf 34 (o_getf 8 0 37)))) (nd 42 (nd 39 (lf 37 (o_al 4 39)) (lf 39 (o_getf 8 0 42))) (nd 45 (lf 42 (o_inv 155 2 45)) (nd 48 (lf 45 (o_ifne 52 48)) (lf 48 (o_ic (nI 2) 49)))))) (nd 59 (nd 53 (nd 52 (lf 49 (o_goto 67)) (lf 52 (o_al 0 53))) (nd 54 (lf 53 (o_al 3 54)) (nd 56 (lf 54 (o_al 4 56)) (lf 56 (o_invV 166 11 2 59))))) (nd 63 (nd 62 (lf 59 (o_ifeq 66 62)) (lf 62 (o_ic (nI 1) 63))) (nd 66 (lf 63 (o_goto 67)) (nd 67 (lf 66 (o_ic (nI 0) 67)) (lf 67 (o_iret))))))))
def k_MO_add : Cd := (nd 11 (nd 5 (nd 1 (lf 0 (o_al 0 1)) (nd 4 (lf 1 (o_getf 11 12 4)) (lf 4 (o_al 0 5)))) (nd 9 (nd 8 (lf 5 (o_getf 11 13 8)) (lf 8 (o_il 1 9))) (nd 10 (lf 9 (o_i2b 10)) (lf 10 (o_bast 11))))) (nd 16 (nd 12 (lf 11 (o_al 0 12)) (nd 13 (lf 12 (o_dup 13)) (lf 13 (o_getf 11 13 16)))) (nd 18 (nd 17 (lf 16 (o_ic (nI 1) 17)) (lf 17 (o_iadd 18))) (nd 21 (lf 18 (o_putf 11 13 0 21)) (lf 21 (o_vret))))))
def k_MO_addTwo : Cd := (nd 5 (nd 2 (nd 1 (lf 0 (o_al 0 1)) (lf 1 (o_il 1 2))) (nd 4 (lf 2 (o_ic (nI 8) 4)) (lf 4 (o_ishr 5)))) (nd 9 (nd 8 (lf 5 (o_invV 168 11 1 8)) (lf 8 (o_al 0 9))) (nd 10 (lf 9 (o_il 1 10)) (nd 13 (lf 10 (o_invV 168 11 1 13)) (lf 13 (o_vret))))))
def k_MO_addFour : Cd := (nd 5 (nd 2 (nd 1 (lf 0 (o_al 0 1)) (lf 1 (o_il 1 2))) (nd 4 (lf 2 (o_ic (nI 16) 4)) (lf 4 (o_ishr 5)))) (nd 9 (nd 8 (lf 5 (o_invV 169 11 1 8)) (lf 8 (o_al 0 9))) (nd 10 (lf 9 (o_il 1 10)) (nd 13 (lf 10 (o_invV 169 11 1 13)) (lf 13 (o_vret))))))
def k_MO_addBytes : Cd := (nd 11 (nd 5 (nd 1 (lf 0 (o_ic (nI 0) 1)) (nd 3 (lf 1 (o_is 4 3)) (lf 3 (o_il 4 5)))) (nd 9 (nd 6 (lf 5 (o_il 3 6)) (lf 6 (o_cge 25 9))) (nd 10 (lf 9 (o_al 0 10)) (lf 10 (o_al 1 11))))) (nd 16 (nd 14 (nd 12 (lf 11 (o_il 2 12)) (lf 12 (o_il 4 14))) (nd 15 (lf 14 (o_iadd 15)) (lf 15 (o_iald 0 16)))) (nd 22 (nd 19 (lf 16 (o_invV 168 11 1 19)) (lf 19 (o_inc 4 (nI 1) 22))) (nd 25 (lf 22 (o_goto 3)) (lf 25 (o_vret))))))
def k_MO_moved : Cd := (nd 16 (nd 8 (nd 4 (nd 1 (lf 0 (o_il 2 1)) (lf 1 (o_ifne 8 4))) (nd 5 (lf 4 (o_ic (nI 0) 5)) (lf 5 (o_goto 30)))) (nd 12 (nd 9 (lf 8 (o_al 0 9)) (lf 9 (o_getf 11 16 12))) (nd 13 (lf 12 (o_al 0 13)) (lf 13 (o_getf 11 14 16))))) (nd 22 (nd 20 (nd 17 (lf 16 (o_al 0 17)) (lf 17 (o_getf 11 15 20))) (nd 21 (lf 20 (o_al 0 21)) (lf 21 (o_al 1 22)))) (nd 26 (nd 23 (lf 22 (o_il 2 23)) (lf 23 (o_invV 154 11 2 26))) (nd 29 (lf 26 (o_inv 157 3 29)) (nd 30 (lf 29 (o_iald 1 30)) (lf 30 (o_iret)))))))
def k_MO_placeOf : Cd := (nd 23 (nd 11 (nd 4 (nd 3 (lf 0 (o_new 9 5 [.int 0, .long 0, .null, .null, .null] 3)) (lf 3 (o_dup 4))) (nd 7 (lf 4 (o_invI 119 0 7)) (nd 9 (lf 7 (o_as 4 9)) (lf 9 (o_al 4 11))))) (nd 17 (nd 12 (lf 11 (o_il 1 12)) (nd 15 (lf 12 (o_putf 9 0 0 15)) (lf 15 (o_al 4 17)))) (nd 18 (lf 17 (o_al 2 18)) (nd 21 (lf 18 (o_putf 9 2 2 21)) (lf 21 (o_al 4 23)))))) (nd 35 (nd 28 (nd 24 (lf 23 (o_al 3 24)) (nd 27 (lf 24 (o_putf 9 3 2 27)) (lf 27 (o_al 0 28)))) (nd 31 (lf 28 (o_getf 11 16 31)) (nd 32 (lf 31 (o_al 0 32)) (lf 32 (o_getf 11 14 35))))) (nd 41 (nd 36 (lf 35 (o_al 0 36)) (nd 39 (lf 36 (o_getf 11 15 39)) (lf 39 (o_al 4 41)))) (nd 44 (lf 41 (o_inv 157 3 44)) (nd 45 (lf 44 (o_iald 1 45)) (lf 45 (o_iret)))))))
def k_MO_addEntry (nb sa : Nat) : Cd := (nd 143 (nd 100 (nd 81 (nd 9 (nd 4 (nd 3 (lf 0 (o_ref nb 3)) (lf 3 (o_as 2 4))) (nd 5 (lf 4 (o_al 0 5)) (nd 6 (lf 5 (o_al 1 6)) (lf 6 (o_getf 9 0 9))))) (nd 13 (nd 12 (lf 9 (o_invV 168 11 1 12)) (lf 12 (o_al 1 13))) (nd 16 (lf 13 (o_getf 9 0 16)) (nd 80 (lf 16 (o_sw [(1, 80), (2, 190), (3, 106), (4, 106), (5, 118), (6, 118), (7, 142), (8, 142), (9, 190), (10, 190), (11, 190), (12, 159)] 190)) (lf 80 (o_al 0 81)))))) (nd 90 (nd 85 (nd 82 (lf 81 (o_al 1 82)) (lf 82 (o_getf 9 2 85))) (nd 86 (lf 85 (o_alen 86)) (nd 89 (lf 86 (o_invV 169 11 1 89)) (lf 89 (o_al 0 90))))) (nd 95 (nd 91 (lf 90 (o_al 1 91)) (nd 94 (lf 91 (o_getf 9 2 94)) (lf 94 (o_ic (nI 0) 95)))) (nd 96 (lf 95 (o_al 1 96)) (nd 99 (lf 96 (o_getf 9 2 99)) (lf 99 (o_alen 100))))))) (nd 123 (nd 111 (nd 106 (nd 103 (lf 100 (o_invV 171 11 3 103)) (lf 103 (o_goto 223))) (nd 107 (lf 106 (o_al 0 107)) (nd 108 (lf 107 (o_al 1 108)) (lf 108 (o_getf 9 1 111))))) (nd 118 (nd 112 (lf 111 (o_l2i 112)) (nd 115 (lf 112 (o_invV 170 11 1 115)) (lf 115 (o_goto 223)))) (nd 119 (lf 118 (o_al 0 119)) (nd 120 (lf 119 (o_al 1 120)) (lf 120 (o_getf 9 1 123)))))) (nd 131 (nd 126 (nd 125 (lf 123 (o_ic (nI 32) 125)) (lf 125 (o_lshr 126))) (nd 127 (lf 126 (o_l2i 127)) (nd 130 (lf 127 (o_invV 170 11 1 130)) (lf 130 (o_al 0 131))))) (nd 136 (nd 132 (lf 131 (o_al 1 132)) (nd 135 (lf 132 (o_getf 9 1 135)) (lf 135 (o_l2i 136)))) (nd 139 (lf 136 (o_invV 170 11 1 139)) (nd 142 (lf 139 (o_goto 223)) (lf 142 (o_al 0 143)))))))) (nd 180 (nd 161 (nd 150 (nd 145 (nd 144 (lf 143 (o_al 0 144)) (lf 144 (o_ic (nI 1) 145))) (nd 146 (lf 145 (o_al 1 146)) (nd 149 (lf 146 (o_getf 9 2 149)) (lf 149 (o_al 2 150))))) (nd 156 (nd 153 (lf 150 (o_invV 173 11 3 153)) (lf 153 (o_invV 169 11 1 156))) (nd 159 (lf 156 (o_goto 223)) (nd 160 (lf 159 (o_al 0 160)) (lf 160 (o_al 0 161)))))) (nd 170 (nd 163 (nd 162 (lf 161 (o_ic (nI 1) 162)) (lf 162 (o_al 1 163))) (nd 166 (lf 163 (o_getf 9 2 166)) (nd 167 (lf 166 (o_al 2 167)) (lf 167 (o_invV 173 11 3 170))))) (nd 175 (nd 173 (lf 170 (o_invV 169 11 1 173)) (nd 174 (lf 173 (o_al 0 174)) (lf 174 (o_al 0 175)))) (nd 176 (lf 175 (o_ic (nI 1) 176)) (nd 177 (lf 176 (o_al 1 177)) (lf 177 (o_getf 9 3 180))))))) (nd 202 (nd 191 (nd 184 (nd 181 (lf 180 (o_al 2 181)) (lf 181 (o_invV 173 11 3 184))) (nd 187 (lf 184 (o_invV 169 11 1 187)) (nd 190 (lf 187 (o_goto 223)) (lf 190 (o_al 0 191))))) (nd 195 (nd 192 (lf 191 (o_al 0 192)) (nd 194 (lf 192 (o_ic (nI 7) 194)) (lf 194 (o_al 1 195)))) (nd 198 (lf 195 (o_getf 9 2 198)) (nd 199 (lf 198 (o_al 2 199)) (lf 199 (o_invV 173 11 3 202)))))) (nd 210 (nd 206 (nd 205 (lf 202 (o_invV 169 11 1 205)) (lf 205 (o_al 0 206))) (nd 207 (lf 206 (o_al 0 207)) (nd 209 (lf 207 (o_ic (nI 12) 209)) (lf 209 (o_al 1 210))))) (nd 217 (nd 213 (lf 210 (o_getf 9 3 213)) (nd 214 (lf 213 (o_al 1 214)) (lf 214 (o_getf 9 4 217)))) (nd 220 (lf 217 (o_invV 173 11 3 220)) (nd 223 (lf 220 (o_invV 169 11 1 223)) (lf 223 (o_vret)))))))))
def k_MO_addAttributes : Cd := (nd 36 (nd 19 (nd 9 (nd 2 (nd 1 (lf 0 (o_al 0 1)) (lf 1 (o_al 2 2))) (nd 5 (lf 2 (o_getf 7 0 5)) (nd 8 (lf 5 (o_invV 169 11 1 8)) (lf 8 (o_ic (nI 0) 9))))) (nd 12 (nd 10 (lf 9 (o_is 3 10)) (nd 11 (lf 10 (o_il 3 11)) (lf 11 (o_al 2 12)))) (nd 15 (lf 12 (o_getf 7 0 15)) (nd 18 (lf 15 (o_cge 82 18)) (lf 18 (o_al 1 19)))))) (nd 27 (nd 24 (nd 20 (lf 19 (o_al 2 20)) (nd 23 (lf 20 (o_getf 7 1 23)) (lf 23 (o_il 3 24)))) (nd 25 (lf 24 (o_iald 1 25)) (nd 26 (lf 25 (o_ic (nI 2) 26)) (lf 26 (o_iadd 27))))) (nd 33 (nd 30 (lf 27 (o_invV 115 8 1 30)) (nd 32 (lf 30 (o_is 4 32)) (lf 32 (o_al 0 33)))) (nd 34 (lf 33 (o_al 0 34)) (nd 35 (lf 34 (o_al 1 35)) (lf 35 (o_al 1 36))))))) (nd 59 (nd 48 (nd 41 (nd 37 (lf 36 (o_al 2 37)) (nd 40 (lf 37 (o_getf 7 1 40)) (lf 40 (o_il 3 41)))) (nd 42 (lf 41 (o_iald 1 42)) (nd 45 (lf 42 (o_invV 114 8 1 45)) (lf 45 (o_invV 172 11 2 48))))) (nd 54 (nd 51 (lf 48 (o_invV 169 11 1 51)) (nd 52 (lf 51 (o_al 0 52)) (lf 52 (o_il 4 54)))) (nd 57 (lf 54 (o_invV 170 11 1 57)) (nd 58 (lf 57 (o_al 0 58)) (lf 58 (o_al 1 59)))))) (nd 70 (nd 66 (nd 62 (lf 59 (o_getf 8 0 62)) (nd 63 (lf 62 (o_al 2 63)) (lf 63 (o_getf 7 1 66)))) (nd 67 (lf 66 (o_il 3 67)) (nd 68 (lf 67 (o_iald 1 68)) (lf 68 (o_ic (nI 6) 70))))) (nd 76 (nd 71 (lf 70 (o_iadd 71)) (nd 73 (lf 71 (o_il 4 73)) (lf 73 (o_invV 171 11 3 76)))) (nd 79 (lf 76 (o_inc 3 (nI 1) 79)) (nd 82 (lf 79 (o_goto 10)) (lf 82 (o_vret))))))))
def k_MO_inOrder : Cd := (nd 178 (nd 90 (nd 43 (nd 24 (nd 12 (nd 7 (nd 1 (lf 0 (o_al 0 1)) (nd 4 (lf 1 (o_ic (nI 152) 4)) (lf 4 (o_newq 10 7)))) (nd 10 (lf 7 (o_putf 11 14 2 10)) (nd 11 (lf 10 (o_al 0 11)) (lf 11 (o_al 0 12))))) (nd 17 (nd 13 (lf 12 (o_al 1 13)) (nd 14 (lf 13 (o_al 0 14)) (lf 14 (o_getf 11 14 17)))) (nd 18 (lf 17 (o_ic (nI 0) 18)) (nd 21 (lf 18 (o_invV 158 11 3 21)) (lf 21 (o_putf 11 15 0 24)))))) (nd 30 (nd 27 (nd 25 (lf 24 (o_ic (nI 1) 25)) (nd 26 (lf 25 (o_is 2 26)) (lf 26 (o_ic (nI 0) 27)))) (nd 28 (lf 27 (o_is 3 28)) (nd 29 (lf 28 (o_il 3 29)) (lf 29 (o_al 0 30))))) (nd 37 (nd 33 (lf 30 (o_getf 11 15 33)) (nd 36 (lf 33 (o_cge 84 36)) (lf 36 (o_al 0 37)))) (nd 41 (nd 40 (lf 37 (o_getf 11 16 40)) (lf 40 (o_il 3 41))) (nd 42 (lf 41 (o_il 2 42)) (lf 42 (o_iast 43))))))) (nd 66 (nd 53 (nd 48 (nd 44 (lf 43 (o_il 2 44)) (nd 45 (lf 44 (o_al 0 45)) (lf 45 (o_getf 11 14 48)))) (nd 49 (lf 48 (o_il 3 49)) (nd 50 (lf 49 (o_aald 50)) (lf 50 (o_getf 9 0 53))))) (nd 58 (nd 54 (lf 53 (o_ic (nI 5) 54)) (nd 57 (lf 54 (o_ceq 71 57)) (lf 57 (o_al 0 58)))) (nd 62 (nd 61 (lf 58 (o_getf 11 14 61)) (lf 61 (o_il 3 62))) (nd 63 (lf 62 (o_aald 63)) (lf 63 (o_getf 9 0 66)))))) (nd 77 (nd 72 (nd 68 (lf 66 (o_ic (nI 6) 68)) (nd 71 (lf 68 (o_cne 75 71)) (lf 71 (o_ic (nI 2) 72)))) (nd 75 (lf 72 (o_goto 76)) (nd 76 (lf 75 (o_ic (nI 1) 76)) (lf 76 (o_iadd 77))))) (nd 84 (nd 78 (lf 77 (o_is 2 78)) (nd 81 (lf 78 (o_inc 3 (nI 1) 81)) (lf 81 (o_goto 28)))) (nd 86 (nd 85 (lf 84 (o_al 0 85)) (lf 85 (o_ic (nI 0) 86))) (nd 89 (lf 86 (o_putf 11 13 0 89)) (lf 89 (o_al 0 90)))))))) (nd 136 (nd 109 (nd 101 (nd 95 (nd 91 (lf 90 (o_al 1 91)) (nd 94 (lf 91 (o_getf 8 0 94)) (lf 94 (o_ic (nI 0) 95)))) (nd 97 (lf 95 (o_ic (nI 8) 97)) (nd 100 (lf 97 (o_invV 171 11 3 100)) (lf 100 (o_al 0 101))))) (nd 106 (nd 102 (lf 101 (o_il 2 102)) (nd 105 (lf 102 (o_invV 169 11 1 105)) (lf 105 (o_ic (nI 0) 106)))) (nd 107 (lf 106 (o_is 3 107)) (nd 108 (lf 107 (o_il 3 108)) (lf 108 (o_al 0 109)))))) (nd 121 (nd 116 (nd 112 (lf 109 (o_getf 11 15 112)) (nd 115 (lf 112 (o_cge 131 115)) (lf 115 (o_al 0 116)))) (nd 117 (lf 116 (o_al 0 117)) (nd 120 (lf 117 (o_getf 11 14 120)) (lf 120 (o_il 3 121))))) (nd 128 (nd 122 (lf 121 (o_aald 122)) (nd 125 (lf 122 (o_invV 174 11 1 125)) (lf 125 (o_inc 3 (nI 1) 128)))) (nd 132 (nd 131 (lf 128 (o_goto 107)) (lf 131 (o_al 1 132))) (nd 135 (lf 132 (o_getf 8 5 135)) (lf 135 (o_is 3 136))))))) (nd 155 (nd 146 (nd 139 (nd 137 (lf 136 (o_al 0 137)) (nd 138 (lf 137 (o_al 1 138)) (lf 138 (o_il 3 139)))) (nd 142 (lf 139 (o_invV 114 8 1 142)) (nd 145 (lf 142 (o_invV 169 11 1 145)) (lf 145 (o_al 0 146))))) (nd 149 (nd 147 (lf 146 (o_al 0 147)) (nd 148 (lf 147 (o_al 1 148)) (lf 148 (o_al 1 149)))) (nd 151 (nd 150 (lf 149 (o_il 3 150)) (lf 150 (o_ic (nI 2) 151))) (nd 152 (lf 151 (o_iadd 152)) (lf 152 (o_invV 114 8 1 155)))))) (nd 165 (nd 162 (nd 158 (lf 155 (o_invV 172 11 2 158)) (nd 161 (lf 158 (o_invV 169 11 1 161)) (lf 161 (o_al 0 162)))) (nd 163 (lf 162 (o_al 0 163)) (nd 164 (lf 163 (o_al 1 164)) (lf 164 (o_al 1 165))))) (nd 168 (nd 166 (lf 165 (o_il 3 166)) (nd 167 (lf 166 (o_ic (nI 4) 167)) (lf 167 (o_iadd 168)))) (nd 174 (nd 171 (lf 168 (o_invV 114 8 1 171)) (lf 171 (o_invV 172 11 2 174))) (nd 177 (lf 174 (o_invV 169 11 1 177)) (lf 177 (o_al 0 178))))))))) (nd 272 (nd 225 (nd 200 (nd 190 (nd 185 (nd 179 (lf 178 (o_al 1 179)) (nd 182 (lf 179 (o_getf 8 6 182)) (lf 182 (o_invV 169 11 1 185)))) (nd 186 (lf 185 (o_ic (nI 0) 186)) (nd 188 (lf 186 (o_is 4 188)) (lf 188 (o_il 4 190))))) (nd 197 (nd 191 (lf 190 (o_al 1 191)) (nd 194 (lf 191 (o_getf 8 6 194)) (lf 194 (o_cge 225 197)))) (nd 198 (lf 197 (o_al 0 198)) (nd 199 (lf 198 (o_al 0 199)) (lf 199 (o_al 1 200)))))) (nd 208 (nd 204 (nd 201 (lf 200 (o_al 1 201)) (nd 202 (lf 201 (o_il 3 202)) (lf 202 (o_ic (nI 8) 204)))) (nd 205 (lf 204 (o_iadd 205)) (nd 206 (lf 205 (o_ic (nI 2) 206)) (lf 206 (o_il 4 208))))) (nd 213 (nd 209 (lf 208 (o_imul 209)) (nd 210 (lf 209 (o_iadd 210)) (lf 210 (o_invV 114 8 1 213)))) (nd 219 (nd 216 (lf 213 (o_invV 172 11 2 216)) (lf 216 (o_invV 169 11 1 219))) (nd 222 (lf 219 (o_inc 4 (nI 1) 222)) (lf 222 (o_goto 188))))))) (nd 248 (nd 235 (nd 230 (nd 226 (lf 225 (o_ic (nI 0) 226)) (nd 228 (lf 226 (o_is 4 228)) (lf 228 (o_il 4 230)))) (nd 231 (lf 230 (o_ic (nI 2) 231)) (nd 234 (lf 231 (o_cge 347 234)) (lf 234 (o_al 0 235))))) (nd 241 (nd 236 (lf 235 (o_al 1 236)) (nd 239 (lf 236 (o_getf 8 8 239)) (lf 239 (o_il 4 241)))) (nd 245 (nd 242 (lf 241 (o_iald 1 242)) (lf 242 (o_invV 169 11 1 245))) (nd 246 (lf 245 (o_ic (nI 0) 246)) (lf 246 (o_is 5 248)))))) (nd 260 (nd 254 (nd 250 (lf 248 (o_il 5 250)) (nd 251 (lf 250 (o_al 1 251)) (lf 251 (o_getf 8 8 254)))) (nd 256 (lf 254 (o_il 4 256)) (nd 257 (lf 256 (o_iald 1 257)) (lf 257 (o_cge 341 260))))) (nd 266 (nd 261 (lf 260 (o_al 1 261)) (nd 264 (lf 261 (o_getf 8 7 264)) (lf 264 (o_il 4 266)))) (nd 269 (nd 267 (lf 266 (o_aald 267)) (lf 267 (o_il 5 269))) (nd 270 (lf 269 (o_aald 270)) (lf 270 (o_as 6 272)))))))) (nd 316 (nd 294 (nd 285 (nd 276 (nd 273 (lf 272 (o_al 0 273)) (nd 274 (lf 273 (o_al 1 274)) (lf 274 (o_al 6 276)))) (nd 279 (lf 276 (o_getf 10 0 279)) (nd 282 (lf 279 (o_invV 114 8 1 282)) (lf 282 (o_invV 169 11 1 285))))) (nd 288 (nd 286 (lf 285 (o_al 0 286)) (nd 287 (lf 286 (o_al 0 287)) (lf 287 (o_al 1 288)))) (nd 289 (lf 288 (o_al 1 289)) (nd 291 (lf 289 (o_al 6 291)) (lf 291 (o_getf 10 0 294)))))) (nd 306 (nd 299 (nd 295 (lf 294 (o_ic (nI 2) 295)) (nd 296 (lf 295 (o_iadd 296)) (lf 296 (o_invV 114 8 1 299)))) (nd 302 (lf 299 (o_invV 172 11 2 302)) (nd 305 (lf 302 (o_invV 169 11 1 305)) (lf 305 (o_al 0 306))))) (nd 309 (nd 307 (lf 306 (o_al 0 307)) (nd 308 (lf 307 (o_al 1 308)) (lf 308 (o_al 1 309)))) (nd 314 (nd 311 (lf 309 (o_al 6 311)) (lf 311 (o_getf 10 0 314))) (nd 315 (lf 314 (o_ic (nI 4) 315)) (lf 315 (o_iadd 316))))))) (nd 348 (nd 329 (nd 325 (nd 319 (lf 316 (o_invV 114 8 1 319)) (nd 322 (lf 319 (o_invV 172 11 2 322)) (lf 322 (o_invV 169 11 1 325)))) (nd 326 (lf 325 (o_al 0 326)) (nd 327 (lf 326 (o_al 1 327)) (lf 327 (o_al 6 329))))) (nd 338 (nd 332 (lf 329 (o_getf 10 1 332)) (nd 335 (lf 332 (o_invV 175 11 2 335)) (lf 335 (o_inc 5 (nI 1) 338)))) (nd 344 (nd 341 (lf 338 (o_goto 248)) (lf 341 (o_inc 4 (nI 1) 344))) (nd 347 (lf 344 (o_goto 228)) (lf 347 (o_al 0 348)))))) (nd 358 (nd 353 (nd 349 (lf 348 (o_al 1 349)) (nd 350 (lf 349 (o_al 1 350)) (lf 350 (o_getf 8 9 353)))) (nd 356 (lf 353 (o_invV 175 11 2 356)) (nd 357 (lf 356 (o_al 0 357)) (lf 357 (o_al 0 358))))) (nd 363 (nd 361 (lf 358 (o_getf 11 12 361)) (nd 362 (lf 361 (o_ic (nI 0) 362)) (lf 362 (o_al 0 363)))) (nd 369 (nd 366 (lf 363 (o_getf 11 13 366)) (lf 366 (o_inv 133 3 369))) (nd 372 (lf 369 (o_invV 148 11 1 372)) (lf 372 (o_iret))))))))))
def k_MO_write : Cd := (nd 24 (nd 11 (nd 5 (nd 1 (lf 0 (o_al 0 1)) (nd 2 (lf 1 (o_il 1 2)) (lf 2 (o_invV 124 11 1 5)))) (nd 9 (nd 8 (lf 5 (o_ifne 10 8)) (lf 8 (o_ic (-1) 9))) (nd 10 (lf 9 (o_iret)) (lf 10 (o_il 2 11))))) (nd 16 (nd 14 (lf 11 (o_ifne 30 14)) (nd 15 (lf 14 (o_al 0 15)) (lf 15 (o_al 0 16)))) (nd 20 (nd 19 (lf 16 (o_getf 11 1 19)) (lf 19 (o_il 1 20))) (nd 21 (lf 20 (o_aald 21)) (lf 21 (o_getf 8 0 24)))))) (nd 37 (nd 31 (nd 27 (lf 24 (o_invV 148 11 1 27)) (nd 30 (lf 27 (o_goto 50)) (lf 30 (o_il 2 31)))) (nd 35 (nd 32 (lf 31 (o_ic (nI 1) 32)) (lf 32 (o_cne 48 35))) (nd 36 (lf 35 (o_al 0 36)) (lf 36 (o_al 0 37))))) (nd 42 (nd 40 (lf 37 (o_getf 11 1 40)) (nd 41 (lf 40 (o_il 1 41)) (lf 41 (o_aald 42)))) (nd 48 (nd 45 (lf 42 (o_invV 176 11 1 45)) (lf 45 (o_goto 50))) (nd 50 (lf 48 (o_ic (-2) 50)) (lf 50 (o_iret)))))))
def k_MO_back : Cd := (nd 21 (nd 10 (nd 5 (nd 1 (lf 0 (o_al 0 1)) (nd 2 (lf 1 (o_ic (nI 0) 2)) (lf 2 (o_putf 11 0 0 5)))) (nd 6 (lf 5 (o_al 0 6)) (nd 7 (lf 6 (o_al 0 7)) (lf 7 (o_getf 11 5 10))))) (nd 15 (nd 11 (lf 10 (o_alen 11)) (nd 14 (lf 11 (o_putf 11 4 0 14)) (lf 14 (o_ic (nI 0) 15)))) (nd 17 (nd 16 (lf 15 (o_is 1 16)) (lf 16 (o_il 1 17))) (nd 18 (lf 17 (o_al 0 18)) (lf 18 (o_getf 11 4 21)))))) (nd 34 (nd 28 (nd 24 (lf 21 (o_cge 42 24)) (nd 25 (lf 24 (o_al 0 25)) (lf 25 (o_getf 11 3 28)))) (nd 30 (nd 29 (lf 28 (o_il 1 29)) (lf 29 (o_al 0 30))) (nd 33 (lf 30 (o_getf 11 5 33)) (lf 33 (o_il 1 34))))) (nd 39 (nd 35 (lf 34 (o_iald 0 35)) (nd 36 (lf 35 (o_bast 36)) (lf 36 (o_inc 1 (nI 1) 39)))) (nd 43 (nd 42 (lf 39 (o_goto 16)) (lf 42 (o_al 0 43))) (nd 46 (lf 43 (o_getf 11 4 46)) (lf 46 (o_iret)))))))
def k_JI_compare : Cd := (nd 10 (nd 5 (nd 1 (lf 0 (o_il 0 1)) (nd 2 (lf 1 (o_il 1 2)) (lf 2 (o_cge 9 5)))) (nd 6 (lf 5 (o_ic (-1) 6)) (nd 9 (lf 6 (o_goto 19)) (lf 9 (o_il 0 10))))) (nd 15 (nd 11 (lf 10 (o_il 1 11)) (nd 14 (lf 11 (o_cne 18 14)) (lf 14 (o_ic (nI 0) 15)))) (nd 18 (lf 15 (o_goto 19)) (nd 19 (lf 18 (o_ic (nI 1) 19)) (lf 19 (o_iret))))))
def k_JL_compare : Cd := (nd 11 (nd 3 (nd 1 (lf 0 (o_ll 0 1)) (nd 2 (lf 1 (o_ll 2 2)) (lf 2 (o_lcmp 3)))) (nd 7 (nd 6 (lf 3 (o_ifge 10 6)) (lf 6 (o_ic (-1) 7))) (nd 10 (lf 7 (o_goto 21)) (lf 10 (o_ll 0 11))))) (nd 16 (nd 12 (lf 11 (o_ll 2 12)) (nd 13 (lf 12 (o_lcmp 13)) (lf 13 (o_ifne 20 16)))) (nd 20 (nd 17 (lf 16 (o_ic (nI 0) 17)) (lf 17 (o_goto 21))) (nd 21 (lf 20 (o_ic (nI 1) 21)) (lf 21 (o_iret))))))
def k_JM_max : Cd := (nd 5 (nd 1 (lf 0 (o_il 0 1)) (nd 2 (lf 1 (o_il 1 2)) (lf 2 (o_clt 9 5)))) (nd 9 (nd 6 (lf 5 (o_il 0 6)) (lf 6 (o_goto 10))) (nd 10 (lf 9 (o_il 1 10)) (lf 10 (o_iret)))))
def k_JM_min : Cd := (nd 5 (nd 1 (lf 0 (o_il 0 1)) (nd 2 (lf 1 (o_il 1 2)) (lf 2 (o_cgt 9 5)))) (nd 9 (nd 6 (lf 5 (o_il 0 6)) (lf 6 (o_goto 10))) (nd 10 (lf 9 (o_il 1 10)) (lf 10 (o_iret)))))
def k_JS_length : Cd := (nd 5 (nd 1 (lf 0 (o_al 0 1)) (nd 4 (lf 1 (o_getf 12 0 4)) (lf 4 (o_alen 5)))) (nd 9 (nd 6 (lf 5 (o_al 0 6)) (lf 6 (o_invV 186 12 0 9))) (nd 10 (lf 9 (o_ishr 10)) (lf 10 (o_iret)))))
def k_JS_indexOf : Cd := (nd 2 (nd 1 (lf 0 (o_al 0 1)) (lf 1 (o_il 1 2))) (nd 3 (lf 2 (o_ic (nI 0) 3)) (nd 6 (lf 3 (o_invV 185 12 2 6)) (lf 6 (o_iret)))))
def k_JS_indexOf_ : Cd := (nd 17 (nd 8 (nd 4 (nd 1 (lf 0 (o_al 0 1)) (lf 1 (o_invV 187 12 0 4))) (nd 7 (lf 4 (o_ifeq 23 7)) (lf 7 (o_al 0 8)))) (nd 12 (nd 11 (lf 8 (o_getf 12 0 11)) (lf 11 (o_il 1 12))) (nd 13 (lf 12 (o_il 2 13)) (nd 14 (lf 13 (o_al 0 14)) (lf 14 (o_invV 183 12 0 17)))))) (nd 27 (nd 23 (nd 20 (lf 17 (o_inv 189 4 20)) (lf 20 (o_goto 36))) (nd 24 (lf 23 (o_al 0 24)) (lf 24 (o_getf 12 0 27)))) (nd 29 (nd 28 (lf 27 (o_il 1 28)) (lf 28 (o_il 2 29))) (nd 30 (lf 29 (o_al 0 30)) (nd 36 (lf 30 (o_invV 183 12 0 33)) (lf 36 (o_iret)))))))
def k_JS_coder : Cd := (nd 7 (nd 3 (lf 0 (o_ic (nI 1) 3)) (nd 6 (lf 3 (o_ifeq 13 6)) (lf 6 (o_al 0 7)))) (nd 13 (nd 10 (lf 7 (o_getf 12 1 10)) (lf 10 (o_goto 14))) (nd 14 (lf 13 (o_ic (nI 1) 14)) (lf 14 (o_zret)))))
def k_JS_isLatin1 : Cd := (nd 10 (nd 6 (nd 3 (lf 0 (o_ic (nI 1) 3)) (lf 3 (o_ifeq 17 6))) (nd 7 (lf 6 (o_al 0 7)) (lf 7 (o_getf 12 1 10)))) (nd 14 (nd 13 (lf 10 (o_ifne 17 13)) (lf 13 (o_ic (nI 1) 14))) (nd 17 (lf 14 (o_goto 18)) (nd 18 (lf 17 (o_ic (nI 0) 18)) (lf 18 (o_zret))))))
def k_JT_canEncode : Cd := (nd 8 (nd 4 (nd 1 (lf 0 (o_il 0 1)) (lf 1 (o_iflt 15 4))) (nd 5 (lf 4 (o_il 0 5)) (lf 5 (o_ic (nI 255) 8)))) (nd 12 (nd 11 (lf 8 (o_cgt 15 11)) (lf 11 (o_ic (nI 1) 12))) (nd 15 (lf 12 (o_goto 16)) (nd 16 (lf 15 (o_ic (nI 0) 16)) (lf 16 (o_zret))))))
def k_JT_indexOf : Cd := (nd 18 (nd 10 (nd 7 (nd 1 (lf 0 (o_il 1 1)) (nd 4 (lf 1 (o_inv 188 1 4)) (lf 4 (o_ifne 9 7)))) (nd 8 (lf 7 (o_ic (-1) 8)) (nd 9 (lf 8 (o_iret)) (lf 9 (o_il 2 10))))) (nd 15 (nd 11 (lf 10 (o_ic (nI 0) 11)) (nd 14 (lf 11 (o_inv 181 2 14)) (lf 14 (o_is 2 15)))) (nd 16 (lf 15 (o_il 3 16)) (nd 17 (lf 16 (o_al 0 17)) (lf 17 (o_alen 18)))))) (nd 28 (nd 23 (nd 21 (lf 18 (o_inv 182 2 21)) (nd 22 (lf 21 (o_is 3 22)) (lf 22 (o_il 2 23)))) (nd 24 (lf 23 (o_il 3 24)) (nd 27 (lf 24 (o_clt 29 27)) (lf 27 (o_ic (-1) 28))))) (nd 31 (nd 29 (lf 28 (o_iret)) (nd 30 (lf 29 (o_al 0 30)) (lf 30 (o_il 1 31)))) (nd 33 (nd 32 (lf 31 (o_il 2 32)) (lf 32 (o_il 3 33))) (nd 36 (lf 33 (o_inv 190 4 36)) (lf 36 (o_iret)))))))
def k_JT_indexOfChar : Cd := (nd 14 (nd 5 (nd 2 (nd 1 (lf 0 (o_il 1 1)) (lf 1 (o_i2b 2))) (nd 4 (lf 2 (o_is 4 4)) (lf 4 (o_il 2 5)))) (nd 9 (nd 7 (lf 5 (o_is 5 7)) (lf 7 (o_il 5 9))) (nd 10 (lf 9 (o_il 3 10)) (nd 13 (lf 10 (o_cge 31 13)) (lf 13 (o_al 0 14)))))) (nd 24 (nd 17 (nd 16 (lf 14 (o_il 5 16)) (lf 16 (o_iald 0 17))) (nd 19 (lf 17 (o_il 4 19)) (nd 22 (lf 19 (o_cne 25 22)) (lf 22 (o_il 5 24))))) (nd 28 (nd 25 (lf 24 (o_iret)) (lf 25 (o_inc 5 (nI 1) 28))) (nd 31 (lf 28 (o_goto 7)) (nd 32 (lf 31 (o_ic (-1) 32)) (lf 32 (o_iret)))))))
def k_JA_fill : Cd := (nd 7 (nd 3 (nd 1 (lf 0 (o_ic (nI 0) 1)) (nd 2 (lf 1 (o_is 2 2)) (lf 2 (o_al 0 3)))) (nd 5 (nd 4 (lf 3 (o_alen 4)) (lf 4 (o_is 3 5))) (nd 6 (lf 5 (o_il 2 6)) (lf 6 (o_il 3 7))))) (nd 13 (nd 11 (nd 10 (lf 7 (o_cge 20 10)) (lf 10 (o_al 0 11))) (nd 12 (lf 11 (o_il 2 12)) (lf 12 (o_il 1 13)))) (nd 17 (nd 14 (lf 13 (o_iast 14)) (lf 14 (o_inc 2 (nI 1) 17))) (nd 20 (lf 17 (o_goto 5)) (lf 20 (o_vret))))))
def k_LW_law : Cd := (nd 475 (nd 287 (nd 184 (nd 139 (nd 29 (nd 16 (nd 8 (nd 4 (nd 3 (lf 0 (o_new 6 8 [.null, .null, .null, .int 0, .int 0, .null, .null, .null] 3)) (lf 3 (o_dup 4))) (nd 7 (lf 4 (o_invI 86 0 7)) (lf 7 (o_as 1 8)))) (nd 12 (nd 11 (lf 8 (o_new 11 17 [.int 0, .null, .int 0, .null, .int 0, .null, .null, .int 0, .int 0, .int 0, .null, .int 0, .null, .int 0, .null, .int 0, .null] 11)) (lf 11 (o_dup 12))) (nd 15 (lf 12 (o_invI 121 0 15)) (lf 15 (o_as 2 16))))) (nd 21 (nd 19 (nd 17 (lf 16 (o_ic (nI 1) 17)) (lf 17 (o_newl 19))) (nd 20 (lf 19 (o_as 3 20)) (lf 20 (o_ic (nI 0) 21)))) (nd 25 (nd 23 (lf 21 (o_is 4 23)) (lf 23 (o_il 4 25))) (nd 26 (lf 25 (o_al 0 26)) (nd 27 (lf 26 (o_alen 27)) (lf 27 (o_ic (nI 6) 29))))))) (nd 128 (nd 36 (nd 33 (nd 30 (lf 29 (o_isub 30)) (lf 30 (o_cgt 850 33))) (nd 34 (lf 33 (o_al 0 34)) (lf 34 (o_il 4 36)))) (nd 39 (nd 37 (lf 36 (o_iald 1 37)) (lf 37 (o_ic (nI 31) 39))) (nd 40 (lf 39 (o_iand 40)) (lf 40 (o_sw [(0, 128), (1, 197), (2, 210), (3, 223), (4, 248), (5, 285), (6, 334), (7, 401), (8, 450), (9, 511), (10, 572), (11, 645), (12, 670), (13, 683), (14, 720), (15, 757), (16, 794), (17, 831)] 844))))) (nd 133 (nd 130 (nd 129 (lf 128 (o_al 1 129)) (lf 129 (o_al 0 130))) (nd 132 (lf 130 (o_il 4 132)) (lf 132 (o_ic (nI 1) 133)))) (nd 135 (nd 134 (lf 133 (o_iadd 134)) (lf 134 (o_iald 1 135))) (nd 136 (lf 135 (o_i2l 136)) (nd 138 (lf 136 (o_ic (nI 32) 138)) (lf 138 (o_lshl 139)))))))) (nd 162 (nd 150 (nd 144 (nd 142 (nd 140 (lf 139 (o_al 0 140)) (lf 140 (o_il 4 142))) (nd 143 (lf 142 (o_ic (nI 2) 143)) (lf 143 (o_iadd 144)))) (nd 146 (nd 145 (lf 144 (o_iald 1 145)) (lf 145 (o_i2l 146))) (nd 149 (lf 146 (o_lc (4294967295) 149)) (lf 149 (o_land 150))))) (nd 155 (nd 152 (nd 151 (lf 150 (o_lor 151)) (lf 151 (o_al 0 152))) (nd 154 (lf 152 (o_il 4 154)) (lf 154 (o_ic (nI 3) 155)))) (nd 157 (nd 156 (lf 155 (o_iadd 156)) (lf 156 (o_iald 1 157))) (nd 160 (lf 157 (o_invV 87 6 2 160)) (nd 161 (lf 160 (o_al 2 161)) (lf 161 (o_al 0 162))))))) (nd 172 (nd 167 (nd 165 (nd 164 (lf 162 (o_il 4 164)) (lf 164 (o_ic (nI 1) 165))) (nd 166 (lf 165 (o_iadd 166)) (lf 166 (o_iald 1 167)))) (nd 170 (nd 168 (lf 167 (o_i2l 168)) (lf 168 (o_ic (nI 32) 170))) (nd 171 (lf 170 (o_lshl 171)) (lf 171 (o_al 0 172))))) (nd 177 (nd 175 (nd 174 (lf 172 (o_il 4 174)) (lf 174 (o_ic (nI 2) 175))) (nd 176 (lf 175 (o_iadd 176)) (lf 176 (o_iald 1 177)))) (nd 181 (nd 178 (lf 177 (o_i2l 178)) (lf 178 (o_lc (4294967295) 181))) (nd 182 (lf 181 (o_land 182)) (nd 183 (lf 182 (o_lor 183)) (lf 183 (o_al 0 184))))))))) (nd 239 (nd 214 (nd 197 (nd 189 (nd 187 (nd 186 (lf 184 (o_il 4 186)) (lf 186 (o_ic (nI 3) 187))) (nd 188 (lf 187 (o_iadd 188)) (lf 188 (o_iald 1 189)))) (nd 195 (nd 192 (lf 189 (o_invV 125 11 2 192)) (lf 192 (o_ceq 844 195))) (nd 196 (lf 195 (o_ic (nI 0) 196)) (lf 196 (o_zret))))) (nd 205 (nd 201 (nd 198 (lf 197 (o_al 1 198)) (lf 198 (o_invV 88 6 0 201))) (nd 202 (lf 201 (o_al 2 202)) (lf 202 (o_invV 142 11 0 205)))) (nd 209 (nd 208 (lf 205 (o_ceq 844 208)) (lf 208 (o_ic (nI 0) 209))) (nd 210 (lf 209 (o_zret)) (nd 211 (lf 210 (o_al 1 211)) (lf 211 (o_invV 89 6 0 214))))))) (nd 227 (nd 222 (nd 218 (nd 215 (lf 214 (o_al 2 215)) (lf 215 (o_invV 143 11 0 218))) (nd 221 (lf 218 (o_ceq 844 221)) (lf 221 (o_ic (nI 0) 222)))) (nd 224 (nd 223 (lf 222 (o_zret)) (lf 223 (o_al 1 224))) (nd 225 (lf 224 (o_al 0 225)) (lf 225 (o_il 4 227))))) (nd 233 (nd 229 (nd 228 (lf 227 (o_ic (nI 1) 228)) (lf 228 (o_iadd 229))) (nd 230 (lf 229 (o_iald 1 230)) (lf 230 (o_invV 90 6 1 233)))) (nd 235 (nd 234 (lf 233 (o_al 2 234)) (lf 234 (o_al 0 235))) (nd 237 (lf 235 (o_il 4 237)) (nd 238 (lf 237 (o_ic (nI 1) 238)) (lf 238 (o_iadd 239)))))))) (nd 264 (nd 252 (nd 247 (nd 243 (nd 240 (lf 239 (o_iald 1 240)) (lf 240 (o_invV 144 11 1 243))) (nd 246 (lf 243 (o_ceq 844 246)) (lf 246 (o_ic (nI 0) 247)))) (nd 249 (nd 248 (lf 247 (o_zret)) (lf 248 (o_al 1 249))) (nd 250 (lf 249 (o_al 0 250)) (lf 250 (o_il 4 252))))) (nd 256 (nd 254 (nd 253 (lf 252 (o_ic (nI 1) 253)) (lf 253 (o_iadd 254))) (nd 255 (lf 254 (o_iald 1 255)) (lf 255 (o_al 0 256)))) (nd 259 (nd 258 (lf 256 (o_il 4 258)) (lf 258 (o_ic (nI 2) 259))) (nd 260 (lf 259 (o_iadd 260)) (nd 261 (lf 260 (o_iald 1 261)) (lf 261 (o_invV 91 6 2 264))))))) (nd 274 (nd 269 (nd 266 (nd 265 (lf 264 (o_al 2 265)) (lf 265 (o_al 0 266))) (nd 268 (lf 266 (o_il 4 268)) (lf 268 (o_ic (nI 1) 269)))) (nd 271 (nd 270 (lf 269 (o_iadd 270)) (lf 270 (o_iald 1 271))) (nd 272 (lf 271 (o_al 0 272)) (lf 272 (o_il 4 274))))) (nd 280 (nd 276 (nd 275 (lf 274 (o_ic (nI 2) 275)) (lf 275 (o_iadd 276))) (nd 277 (lf 276 (o_iald 1 277)) (lf 277 (o_invV 145 11 2 280)))) (nd 284 (nd 283 (lf 280 (o_ceq 844 283)) (lf 283 (o_ic (nI 0) 284))) (nd 285 (lf 284 (o_zret)) (nd 286 (lf 285 (o_al 1 286)) (lf 286 (o_al 0 287)))))))))) (nd 382 (nd 333 (nd 309 (nd 297 (nd 292 (nd 290 (nd 289 (lf 287 (o_il 4 289)) (lf 289 (o_ic (nI 1) 290))) (nd 291 (lf 290 (o_iadd 291)) (lf 291 (o_iald 1 292)))) (nd 295 (nd 293 (lf 292 (o_al 0 293)) (lf 293 (o_il 4 295))) (nd 296 (lf 295 (o_ic (nI 2) 296)) (lf 296 (o_iadd 297))))) (nd 302 (nd 299 (nd 298 (lf 297 (o_iald 1 298)) (lf 298 (o_al 0 299))) (nd 301 (lf 299 (o_il 4 301)) (lf 301 (o_ic (nI 3) 302)))) (nd 304 (nd 303 (lf 302 (o_iadd 303)) (lf 303 (o_iald 1 304))) (nd 307 (lf 304 (o_invV 92 6 3 307)) (nd 308 (lf 307 (o_al 2 308)) (lf 308 (o_al 0 309))))))) (nd 319 (nd 314 (nd 312 (nd 311 (lf 309 (o_il 4 311)) (lf 311 (o_ic (nI 1) 312))) (nd 313 (lf 312 (o_iadd 313)) (lf 313 (o_iald 1 314)))) (nd 317 (nd 315 (lf 314 (o_al 0 315)) (lf 315 (o_il 4 317))) (nd 318 (lf 317 (o_ic (nI 2) 318)) (lf 318 (o_iadd 319))))) (nd 324 (nd 321 (nd 320 (lf 319 (o_iald 1 320)) (lf 320 (o_al 0 321))) (nd 323 (lf 321 (o_il 4 323)) (lf 323 (o_ic (nI 3) 324)))) (nd 326 (nd 325 (lf 324 (o_iadd 325)) (lf 325 (o_iald 1 326))) (nd 329 (lf 326 (o_invV 146 11 3 329)) (nd 332 (lf 329 (o_ceq 844 332)) (lf 332 (o_ic (nI 0) 333)))))))) (nd 355 (nd 342 (nd 338 (nd 335 (nd 334 (lf 333 (o_zret)) (lf 334 (o_al 1 335))) (nd 336 (lf 335 (o_al 0 336)) (lf 336 (o_il 4 338)))) (nd 340 (nd 339 (lf 338 (o_ic (nI 1) 339)) (lf 339 (o_iadd 340))) (nd 341 (lf 340 (o_iald 1 341)) (lf 341 (o_al 0 342))))) (nd 347 (nd 345 (nd 344 (lf 342 (o_il 4 344)) (lf 344 (o_ic (nI 2) 345))) (nd 346 (lf 345 (o_iadd 346)) (lf 346 (o_iald 1 347)))) (nd 351 (nd 348 (lf 347 (o_al 3 348)) (lf 348 (o_inv 192 4 351))) (nd 353 (lf 351 (o_is 5 353)) (nd 354 (lf 353 (o_al 2 354)) (lf 354 (o_al 0 355))))))) (nd 365 (nd 360 (nd 358 (nd 357 (lf 355 (o_il 4 357)) (lf 357 (o_ic (nI 1) 358))) (nd 359 (lf 358 (o_iadd 359)) (lf 359 (o_iald 1 360)))) (nd 363 (nd 361 (lf 360 (o_al 0 361)) (lf 361 (o_il 4 363))) (nd 364 (lf 363 (o_ic (nI 2) 364)) (lf 364 (o_iadd 365))))) (nd 372 (nd 369 (nd 366 (lf 365 (o_iald 1 366)) (lf 366 (o_invV 147 11 2 369))) (nd 371 (lf 369 (o_ls 6 371)) (lf 371 (o_al 2 372)))) (nd 377 (nd 375 (lf 372 (o_invV 122 11 0 375)) (lf 375 (o_il 5 377))) (nd 380 (lf 377 (o_ceq 382 380)) (nd 381 (lf 380 (o_ic (nI 0) 381)) (lf 381 (o_zret))))))))) (nd 430 (nd 408 (nd 396 (nd 389 (nd 387 (nd 384 (lf 382 (o_il 5 384)) (lf 384 (o_ifne 398 387))) (nd 388 (lf 387 (o_al 3 388)) (lf 388 (o_ic (nI 0) 389)))) (nd 392 (nd 390 (lf 389 (o_lald 390)) (lf 390 (o_ll 6 392))) (nd 393 (lf 392 (o_lcmp 393)) (lf 393 (o_ifeq 398 396))))) (nd 402 (nd 398 (nd 397 (lf 396 (o_ic (nI 0) 397)) (lf 397 (o_zret))) (nd 401 (lf 398 (o_goto 844)) (lf 401 (o_al 1 402)))) (nd 405 (nd 403 (lf 402 (o_al 0 403)) (lf 403 (o_il 4 405))) (nd 406 (lf 405 (o_ic (nI 1) 406)) (nd 407 (lf 406 (o_iadd 407)) (lf 407 (o_iald 1 408))))))) (nd 418 (nd 413 (nd 411 (nd 409 (lf 408 (o_al 0 409)) (lf 409 (o_il 4 411))) (nd 412 (lf 411 (o_ic (nI 2) 412)) (lf 412 (o_iadd 413)))) (nd 415 (nd 414 (lf 413 (o_iald 1 414)) (lf 414 (o_al 0 415))) (nd 417 (lf 415 (o_il 4 417)) (lf 417 (o_ic (nI 3) 418))))) (nd 424 (nd 420 (nd 419 (lf 418 (o_iadd 419)) (lf 419 (o_iald 1 420))) (nd 423 (lf 420 (o_invV 94 6 3 423)) (lf 423 (o_al 2 424)))) (nd 427 (nd 425 (lf 424 (o_al 0 425)) (lf 425 (o_il 4 427))) (nd 428 (lf 427 (o_ic (nI 1) 428)) (nd 429 (lf 428 (o_iadd 429)) (lf 429 (o_iald 1 430)))))))) (nd 454 (nd 440 (nd 435 (nd 433 (nd 431 (lf 430 (o_al 0 431)) (lf 431 (o_il 4 433))) (nd 434 (lf 433 (o_ic (nI 2) 434)) (lf 434 (o_iadd 435)))) (nd 437 (nd 436 (lf 435 (o_iald 1 436)) (lf 436 (o_al 0 437))) (nd 439 (lf 437 (o_il 4 439)) (lf 439 (o_ic (nI 3) 440))))) (nd 448 (nd 442 (nd 441 (lf 440 (o_iadd 441)) (lf 441 (o_iald 1 442))) (nd 445 (lf 442 (o_invV 149 11 3 445)) (lf 445 (o_ceq 844 448)))) (nd 450 (nd 449 (lf 448 (o_ic (nI 0) 449)) (lf 449 (o_zret))) (nd 451 (lf 450 (o_al 1 451)) (nd 452 (lf 451 (o_al 0 452)) (lf 452 (o_il 4 454))))))) (nd 464 (nd 458 (nd 456 (nd 455 (lf 454 (o_ic (nI 1) 455)) (lf 455 (o_iadd 456))) (nd 457 (lf 456 (o_iald 1 457)) (lf 457 (o_al 0 458)))) (nd 461 (nd 460 (lf 458 (o_il 4 460)) (lf 460 (o_ic (nI 2) 461))) (nd 462 (lf 461 (o_iadd 462)) (nd 463 (lf 462 (o_iald 1 463)) (lf 463 (o_al 0 464)))))) (nd 469 (nd 467 (nd 466 (lf 464 (o_il 4 466)) (lf 466 (o_ic (nI 3) 467))) (nd 468 (lf 467 (o_iadd 468)) (lf 468 (o_iald 1 469)))) (nd 472 (nd 470 (lf 469 (o_al 0 470)) (lf 470 (o_il 4 472))) (nd 473 (lf 472 (o_ic (nI 4) 473)) (nd 474 (lf 473 (o_iadd 474)) (lf 474 (o_iald 1 475))))))))))) (nd 652 (nd 563 (nd 521 (nd 497 (nd 486 (nd 482 (nd 479 (nd 478 (lf 475 (o_invV 95 6 4 478)) (lf 478 (o_al 2 479))) (nd 480 (lf 479 (o_al 0 480)) (lf 480 (o_il 4 482)))) (nd 484 (nd 483 (lf 482 (o_ic (nI 1) 483)) (lf 483 (o_iadd 484))) (nd 485 (lf 484 (o_iald 1 485)) (lf 485 (o_al 0 486))))) (nd 491 (nd 489 (nd 488 (lf 486 (o_il 4 488)) (lf 488 (o_ic (nI 2) 489))) (nd 490 (lf 489 (o_iadd 490)) (lf 490 (o_iald 1 491)))) (nd 494 (nd 492 (lf 491 (o_al 0 492)) (lf 492 (o_il 4 494))) (nd 495 (lf 494 (o_ic (nI 3) 495)) (nd 496 (lf 495 (o_iadd 496)) (lf 496 (o_iald 1 497))))))) (nd 510 (nd 502 (nd 500 (nd 498 (lf 497 (o_al 0 498)) (lf 498 (o_il 4 500))) (nd 501 (lf 500 (o_ic (nI 4) 501)) (lf 501 (o_iadd 502)))) (nd 506 (nd 503 (lf 502 (o_iald 1 503)) (lf 503 (o_invV 150 11 4 506))) (nd 509 (lf 506 (o_ceq 844 509)) (lf 509 (o_ic (nI 0) 510))))) (nd 515 (nd 512 (nd 511 (lf 510 (o_zret)) (lf 511 (o_al 1 512))) (nd 513 (lf 512 (o_al 0 513)) (lf 513 (o_il 4 515)))) (nd 517 (nd 516 (lf 515 (o_ic (nI 1) 516)) (lf 516 (o_iadd 517))) (nd 518 (lf 517 (o_iald 1 518)) (nd 519 (lf 518 (o_al 0 519)) (lf 519 (o_il 4 521)))))))) (nd 543 (nd 530 (nd 525 (nd 523 (nd 522 (lf 521 (o_ic (nI 2) 522)) (lf 522 (o_iadd 523))) (nd 524 (lf 523 (o_iald 1 524)) (lf 524 (o_al 0 525)))) (nd 528 (nd 527 (lf 525 (o_il 4 527)) (lf 527 (o_ic (nI 3) 528))) (nd 529 (lf 528 (o_iadd 529)) (lf 529 (o_iald 1 530))))) (nd 535 (nd 533 (nd 531 (lf 530 (o_al 0 531)) (lf 531 (o_il 4 533))) (nd 534 (lf 533 (o_ic (nI 4) 534)) (lf 534 (o_iadd 535)))) (nd 539 (nd 536 (lf 535 (o_iald 1 536)) (lf 536 (o_invV 96 6 4 539))) (nd 540 (lf 539 (o_al 2 540)) (nd 541 (lf 540 (o_al 0 541)) (lf 541 (o_il 4 543))))))) (nd 552 (nd 547 (nd 545 (nd 544 (lf 543 (o_ic (nI 1) 544)) (lf 544 (o_iadd 545))) (nd 546 (lf 545 (o_iald 1 546)) (lf 546 (o_al 0 547)))) (nd 550 (nd 549 (lf 547 (o_il 4 549)) (lf 549 (o_ic (nI 2) 550))) (nd 551 (lf 550 (o_iadd 551)) (lf 551 (o_iald 1 552))))) (nd 557 (nd 555 (nd 553 (lf 552 (o_al 0 553)) (lf 553 (o_il 4 555))) (nd 556 (lf 555 (o_ic (nI 3) 556)) (lf 556 (o_iadd 557)))) (nd 559 (nd 558 (lf 557 (o_iald 1 558)) (lf 558 (o_al 0 559))) (nd 561 (lf 559 (o_il 4 561)) (nd 562 (lf 561 (o_ic (nI 4) 562)) (lf 562 (o_iadd 563))))))))) (nd 608 (nd 586 (nd 576 (nd 571 (nd 567 (nd 564 (lf 563 (o_iald 1 564)) (lf 564 (o_invV 151 11 4 567))) (nd 570 (lf 567 (o_ceq 844 570)) (lf 570 (o_ic (nI 0) 571)))) (nd 573 (nd 572 (lf 571 (o_zret)) (lf 572 (o_al 1 573))) (nd 574 (lf 573 (o_al 0 574)) (lf 574 (o_il 4 576))))) (nd 580 (nd 578 (nd 577 (lf 576 (o_ic (nI 1) 577)) (lf 577 (o_iadd 578))) (nd 579 (lf 578 (o_iald 1 579)) (lf 579 (o_al 0 580)))) (nd 583 (nd 582 (lf 580 (o_il 4 582)) (lf 582 (o_ic (nI 2) 583))) (nd 584 (lf 583 (o_iadd 584)) (nd 585 (lf 584 (o_iald 1 585)) (lf 585 (o_al 0 586))))))) (nd 596 (nd 591 (nd 589 (nd 588 (lf 586 (o_il 4 588)) (lf 588 (o_ic (nI 3) 589))) (nd 590 (lf 589 (o_iadd 590)) (lf 590 (o_iald 1 591)))) (nd 594 (nd 592 (lf 591 (o_al 0 592)) (lf 592 (o_il 4 594))) (nd 595 (lf 594 (o_ic (nI 4) 595)) (lf 595 (o_iadd 596))))) (nd 601 (nd 598 (nd 597 (lf 596 (o_iald 1 597)) (lf 597 (o_al 0 598))) (nd 600 (lf 598 (o_il 4 600)) (lf 600 (o_ic (nI 5) 601)))) (nd 603 (nd 602 (lf 601 (o_iadd 602)) (lf 602 (o_iald 1 603))) (nd 606 (lf 603 (o_invV 97 6 5 606)) (nd 607 (lf 606 (o_al 2 607)) (lf 607 (o_al 0 608)))))))) (nd 629 (nd 618 (nd 613 (nd 611 (nd 610 (lf 608 (o_il 4 610)) (lf 610 (o_ic (nI 1) 611))) (nd 612 (lf 611 (o_iadd 612)) (lf 612 (o_iald 1 613)))) (nd 616 (nd 614 (lf 613 (o_al 0 614)) (lf 614 (o_il 4 616))) (nd 617 (lf 616 (o_ic (nI 2) 617)) (lf 617 (o_iadd 618))))) (nd 623 (nd 620 (nd 619 (lf 618 (o_iald 1 619)) (lf 619 (o_al 0 620))) (nd 622 (lf 620 (o_il 4 622)) (lf 622 (o_ic (nI 3) 623)))) (nd 625 (nd 624 (lf 623 (o_iadd 624)) (lf 624 (o_iald 1 625))) (nd 626 (lf 625 (o_al 0 626)) (nd 628 (lf 626 (o_il 4 628)) (lf 628 (o_ic (nI 4) 629))))))) (nd 640 (nd 634 (nd 631 (nd 630 (lf 629 (o_iadd 630)) (lf 630 (o_iald 1 631))) (nd 632 (lf 631 (o_al 0 632)) (lf 632 (o_il 4 634)))) (nd 636 (nd 635 (lf 634 (o_ic (nI 5) 635)) (lf 635 (o_iadd 636))) (nd 637 (lf 636 (o_iald 1 637)) (lf 637 (o_invV 152 11 5 640))))) (nd 646 (nd 644 (nd 643 (lf 640 (o_ceq 844 643)) (lf 643 (o_ic (nI 0) 644))) (nd 645 (lf 644 (o_zret)) (lf 645 (o_al 1 646)))) (nd 649 (nd 647 (lf 646 (o_al 0 647)) (lf 647 (o_il 4 649))) (nd 650 (lf 649 (o_ic (nI 1) 650)) (nd 651 (lf 650 (o_iadd 651)) (lf 651 (o_iald 1 652)))))))))) (nd 749 (nd 704 (nd 682 (nd 665 (nd 659 (nd 656 (nd 655 (lf 652 (o_invV 98 6 1 655)) (lf 655 (o_al 2 656))) (nd 657 (lf 656 (o_al 0 657)) (lf 657 (o_il 4 659)))) (nd 661 (nd 660 (lf 659 (o_ic (nI 1) 660)) (lf 660 (o_iadd 661))) (nd 662 (lf 661 (o_iald 1 662)) (lf 662 (o_invV 153 11 1 665))))) (nd 671 (nd 669 (nd 668 (lf 665 (o_ceq 844 668)) (lf 668 (o_ic (nI 0) 669))) (nd 670 (lf 669 (o_zret)) (lf 670 (o_al 1 671)))) (nd 675 (nd 674 (lf 671 (o_invV 99 6 0 674)) (lf 674 (o_al 2 675))) (nd 678 (lf 675 (o_invV 159 11 0 678)) (nd 681 (lf 678 (o_ceq 844 681)) (lf 681 (o_ic (nI 0) 682))))))) (nd 691 (nd 687 (nd 684 (nd 683 (lf 682 (o_zret)) (lf 683 (o_al 1 684))) (nd 685 (lf 684 (o_al 0 685)) (lf 685 (o_il 4 687)))) (nd 689 (nd 688 (lf 687 (o_ic (nI 1) 688)) (lf 688 (o_iadd 689))) (nd 690 (lf 689 (o_iald 1 690)) (lf 690 (o_al 0 691))))) (nd 696 (nd 694 (nd 693 (lf 691 (o_il 4 693)) (lf 693 (o_ic (nI 2) 694))) (nd 695 (lf 694 (o_iadd 695)) (lf 695 (o_iald 1 696)))) (nd 700 (nd 699 (lf 696 (o_invV 100 6 2 699)) (lf 699 (o_al 2 700))) (nd 701 (lf 700 (o_al 0 701)) (nd 703 (lf 701 (o_il 4 703)) (lf 703 (o_ic (nI 1) 704)))))))) (nd 727 (nd 715 (nd 709 (nd 706 (nd 705 (lf 704 (o_iadd 705)) (lf 705 (o_iald 1 706))) (nd 707 (lf 706 (o_al 0 707)) (lf 707 (o_il 4 709)))) (nd 711 (nd 710 (lf 709 (o_ic (nI 2) 710)) (lf 710 (o_iadd 711))) (nd 712 (lf 711 (o_iald 1 712)) (lf 712 (o_invV 161 11 2 715))))) (nd 721 (nd 719 (nd 718 (lf 715 (o_ceq 844 718)) (lf 718 (o_ic (nI 0) 719))) (nd 720 (lf 719 (o_zret)) (lf 720 (o_al 1 721)))) (nd 724 (nd 722 (lf 721 (o_al 0 722)) (lf 722 (o_il 4 724))) (nd 725 (lf 724 (o_ic (nI 1) 725)) (nd 726 (lf 725 (o_iadd 726)) (lf 726 (o_iald 1 727))))))) (nd 738 (nd 732 (nd 730 (nd 728 (lf 727 (o_al 0 728)) (lf 728 (o_il 4 730))) (nd 731 (lf 730 (o_ic (nI 2) 731)) (lf 731 (o_iadd 732)))) (nd 736 (nd 733 (lf 732 (o_iald 1 733)) (lf 733 (o_invV 101 6 2 736))) (nd 737 (lf 736 (o_al 2 737)) (lf 737 (o_al 0 738))))) (nd 743 (nd 741 (nd 740 (lf 738 (o_il 4 740)) (lf 740 (o_ic (nI 1) 741))) (nd 742 (lf 741 (o_iadd 742)) (lf 742 (o_iald 1 743)))) (nd 746 (nd 744 (lf 743 (o_al 0 744)) (lf 744 (o_il 4 746))) (nd 747 (lf 746 (o_ic (nI 2) 747)) (nd 748 (lf 747 (o_iadd 748)) (lf 748 (o_iald 1 749))))))))) (nd 798 (nd 774 (nd 762 (nd 757 (nd 755 (nd 752 (lf 749 (o_invV 162 11 2 752)) (lf 752 (o_ceq 844 755))) (nd 756 (lf 755 (o_ic (nI 0) 756)) (lf 756 (o_zret)))) (nd 759 (nd 758 (lf 757 (o_al 1 758)) (lf 758 (o_al 0 759))) (nd 761 (lf 759 (o_il 4 761)) (lf 761 (o_ic (nI 1) 762))))) (nd 767 (nd 764 (nd 763 (lf 762 (o_iadd 763)) (lf 763 (o_iald 1 764))) (nd 765 (lf 764 (o_al 0 765)) (lf 765 (o_il 4 767)))) (nd 769 (nd 768 (lf 767 (o_ic (nI 2) 768)) (lf 768 (o_iadd 769))) (nd 770 (lf 769 (o_iald 1 770)) (nd 773 (lf 770 (o_invV 102 6 2 773)) (lf 773 (o_al 2 774))))))) (nd 784 (nd 779 (nd 777 (nd 775 (lf 774 (o_al 0 775)) (lf 775 (o_il 4 777))) (nd 778 (lf 777 (o_ic (nI 1) 778)) (lf 778 (o_iadd 779)))) (nd 781 (nd 780 (lf 779 (o_iald 1 780)) (lf 780 (o_al 0 781))) (nd 783 (lf 781 (o_il 4 783)) (lf 783 (o_ic (nI 2) 784))))) (nd 792 (nd 786 (nd 785 (lf 784 (o_iadd 785)) (lf 785 (o_iald 1 786))) (nd 789 (lf 786 (o_invV 167 11 2 789)) (lf 789 (o_ceq 844 792)))) (nd 794 (nd 793 (lf 792 (o_ic (nI 0) 793)) (lf 793 (o_zret))) (nd 795 (lf 794 (o_al 1 795)) (nd 796 (lf 795 (o_al 0 796)) (lf 796 (o_il 4 798)))))))) (nd 820 (nd 807 (nd 802 (nd 800 (nd 799 (lf 798 (o_ic (nI 1) 799)) (lf 799 (o_iadd 800))) (nd 801 (lf 800 (o_iald 1 801)) (lf 801 (o_al 0 802)))) (nd 805 (nd 804 (lf 802 (o_il 4 804)) (lf 804 (o_ic (nI 2) 805))) (nd 806 (lf 805 (o_iadd 806)) (lf 806 (o_iald 1 807))))) (nd 814 (nd 811 (nd 810 (lf 807 (o_invV 103 6 2 810)) (lf 810 (o_al 2 811))) (nd 812 (lf 811 (o_al 0 812)) (lf 812 (o_il 4 814)))) (nd 816 (nd 815 (lf 814 (o_ic (nI 1) 815)) (lf 815 (o_iadd 816))) (nd 817 (lf 816 (o_iald 1 817)) (nd 818 (lf 817 (o_al 0 818)) (lf 818 (o_il 4 820))))))) (nd 835 (nd 826 (nd 822 (nd 821 (lf 820 (o_ic (nI 2) 821)) (lf 821 (o_iadd 822))) (nd 823 (lf 822 (o_iald 1 823)) (lf 823 (o_invV 177 11 2 826)))) (nd 830 (nd 829 (lf 826 (o_ceq 844 829)) (lf 829 (o_ic (nI 0) 830))) (nd 831 (lf 830 (o_zret)) (nd 832 (lf 831 (o_al 1 832)) (lf 832 (o_invV 104 6 0 835)))))) (nd 843 (nd 839 (nd 836 (lf 835 (o_al 2 836)) (lf 836 (o_invV 178 11 0 839))) (nd 842 (lf 839 (o_ceq 844 842)) (lf 842 (o_ic (nI 0) 843)))) (nd 847 (nd 844 (lf 843 (o_zret)) (lf 844 (o_inc 4 (nI 6) 847))) (nd 850 (lf 847 (o_goto 23)) (nd 851 (lf 850 (o_ic (nI 1) 851)) (lf 851 (o_zret))))))))))))
end
section
/-! the two methods with exceptions, and the program -/
def k_CP_number : Cd := (nd 45 (nd 20 (nd 5 (nd 1 (lf 0 (o_al 0 1)) (nd 2 (lf 1 (o_il 1 2)) (lf 2 (o_invV 105 6 1 5)))) (nd 7 (nd 6 (lf 5 (o_as 3 6)) (lf 6 (o_al 3 7))) (nd 10 (lf 7 (o_ifnn 20 10)) (lf 10 (o_thr 1 6))))) (nd 28 (nd 24 (nd 21 (lf 20 (o_al 3 21)) (lf 21 (o_getf 0 0 24))) (nd 25 (lf 24 (o_il 2 25)) (lf 25 (o_invV 17 1 1 28)))) (nd 41 (nd 31 (lf 28 (o_ifne 41 31)) (lf 31 (o_thr 2 6))) (nd 42 (lf 41 (o_al 3 42)) (lf 42 (o_getf 0 0 45)))))) (nd 68 (nd 51 (nd 46 (lf 45 (o_il 2 46)) (nd 49 (lf 46 (o_invV 22 1 1 49)) (lf 49 (o_is 4 51)))) (nd 56 (nd 53 (lf 51 (o_il 4 53)) (lf 53 (o_ifne 66 56))) (nd 66 (lf 56 (o_thr 3 8)) (lf 66 (o_il 4 68))))) (nd 85 (nd 74 (nd 71 (lf 68 (o_inv 109 1 71)) (lf 71 (o_ifne 84 74))) (nd 84 (lf 74 (o_thr 4 6)) (lf 84 (o_al 3 85)))) (nd 89 (nd 88 (lf 85 (o_getf 0 0 88)) (lf 88 (o_il 2 89))) (nd 92 (lf 89 (o_invV 28 1 1 92)) (lf 92 (o_lret)))))))
/-- behind the call: a long is laid into the row, an int tells what was thrown -/
def o_lx (nx : Nat) : XOp := fun ls st h => match st with
  | .int k :: _ => some (.inr (.inl (some (.int k), h)))
  | _ => o_last nx ls st h
def k_LW_number : Cd := (nd 5 (nd 2 (nd 1 (lf 0 (o_al 3 1)) (lf 1 (o_ic (nI 0) 2))) (nd 3 (lf 2 (o_al 0 3)) (nd 4 (lf 3 (o_il 1 4)) (lf 4 (o_il 2 5))))) (nd 9 (nd 8 (lf 5 (o_invV 93 6 2 8)) (lf 8 (o_lx 9))) (nd 28 (lf 9 (o_goto 28)) (nd 29 (lf 28 (o_ic (nI 0) 29)) (lf 29 (o_iret))))))
def ktab (nb sa : Nat) : List Cd := [k_CF_init, k_CF_begin, k_CF_addTell, k_CF_tellCount, k_CF_tellAt, k_CF_wanted, k_CF_firstBehind, k_CF_addMember, k_CF_members, k_CF_memberAt, k_CF_faces, k_CF_classPlace, k_CF_attributesOf, k_CF_attributeAt, k_CF_meansAs, k_PL_init, k_PL_places, k_PL_has, k_PL_begin, k_PL_set, k_PL_copy, k_PL_start, k_PL_tag, k_PL_twoOf, k_PL_first, k_PL_second, k_PL_textAt, k_PL_textSize, k_PL_bits, k_PL_bytesOf, k_PL_wrong, k_PL_textOf, k_PL_order, k_RK_init, k_RK_clear, k_RK_size, k_RK_add, k_RK_insert, k_RK_find, k_RK_firstNotBelow, k_RK_orderOf, k_RK_poolOf, k_RK_placeOf, k_RK_tag, k_RK_tally, k_RD_init, k_RD_fail, k_RD_scan, k_RD_skip, k_RD_tell, k_RD_two, k_RD_many, k_RD_magic, k_RD_entries, k_RD_anEntry, k_RD_classAbove, k_RD_members, k_RD_attributes, k_RD_checkTells, k_RD_checkSorts, k_RW_init, k_RW_size, k_RW_has, k_RW_one, k_RW_two, k_RW_four, k_RW_clear, k_RW_push, k_RW_pushTwo, k_RW_putTwo, k_RW_append, k_RW_take, k_RW_order, k_SO_isType, k_SO_isMethod, k_SO_width, k_SO_sum, k_SO_closing, k_SO_typeEnd, k_SO_nameEnd, k_WR_init, k_WR_movePlaces, k_WR_push, k_WR_movedTo, k_WR_pushEntry, k_WR_pushRest, k_CP_init, k_CP_feed, k_CP_read, k_CP_place, k_CP_drop, k_CP_file, k_CP_entry, k_CP_number, k_CP_text, k_CP_member, k_CP_told, k_CP_attribute, k_CP_out, k_CP_join, k_CP_joined, k_CP_meaning, k_CP_alike, k_CP_write, k_CP_back, k_CP_fileAt, k_CP_showText, k_CP_showClass, k_CP_placesOf, k_CP_isNumber, k_CP_isWide, k_CP_isTag, k_MA_init, k_MH_init, k_MH_two, k_MH_four, k_MH_bits, k_MH_first, k_MH_second, k_MM_init nb sa, k_MB_init, k_MO_init, k_MO_thrown, k_MO_isIn, k_MO_isFile, k_MO_feed, k_MO_fails, k_MO_goes, k_MO_nextTwo, k_MO_many, k_MO_parse, k_MO_attributes, k_MO_entry, k_MO_part, k_MO_wrongPlace, k_MO_place, k_MO_names, k_MO_places, k_MO_type nb sa, k_MO_slotsOf, k_MO_isSort, k_MO_sortOf, k_MO_read, k_MO_place_, k_MO_drop, k_MO_file, k_MO_entry_, k_MO_number, k_MO_shows, k_MO_text, k_MO_member, k_MO_told, k_MO_attribute, k_MO_out, k_MO_meaningOf, k_MO_compare, k_MO_compare_, k_MO_find, k_MO_lay, k_MO_join, k_MO_isEntry, k_MO_joined, k_MO_meaning, k_MO_sameBytes, k_MO_samePlace, k_MO_same, k_MO_isAlike, k_MO_alike, k_MO_add, k_MO_addTwo, k_MO_addFour, k_MO_addBytes, k_MO_moved, k_MO_placeOf, k_MO_addEntry nb sa, k_MO_addAttributes, k_MO_inOrder, k_MO_write, k_MO_back, k_JI_compare, k_JL_compare, k_JM_max, k_JM_min, k_JS_length, k_JS_indexOf, k_JS_indexOf_, k_JS_coder, k_JS_isLatin1, k_JT_canEncode, k_JT_indexOf, k_JT_indexOfChar, k_JA_fill, k_LW_number, k_LW_law]
def prog (nb sa : Nat) : Pg := fun mid => ((ktab nb sa).getD mid (fun _ => none), (mI mid).2.2.1)
end
section
/-! runs of the abstract machine, backwards from their ends -/
def Ex (P : Pg) (cd : Cd) (pc : Nat) (ls : Ls) (st : List Value) (h : Hp) (R : Option Value → Hp → Prop) : Prop := ∃ f v h', xexec P f cd pc ls st h = some (v, h') ∧ R v h'
def Ev (P : Pg) (mid : Nat) (As : List Value) (h : Hp) (v : Option Value) (h' : Hp) : Prop := (lent As).length ≤ (P mid).2 ∧ ∃ f, xexec P f (P mid).1 0 (lpad (P mid).2 (lent As)) [] h = some (v, h')
/-- .. that ends so that Q holds -/
def EvQ (P : Pg) (mid : Nat) (As : List Value) (h : Hp) (Q : Option Value → Hp → Prop) : Prop := ∃ v h', Ev P mid As h v h' ∧ Q v h'
theorem xexec_eq (P : Pg) (f : Nat) (cd : Cd) (pc : Nat) (ls : Ls) (st : List Value) (h : Hp) : xexec P (f + 1) cd pc ls st h = (match cd pc with
    | none => none
    | some o => match o ls st h with
      | none => none
      | some (.inl (pc', ls', st', h')) => cond (hle h h') (xexec P f cd pc' ls' st' h') none
      | some (.inr (.inl (v, h'))) => cond (hle h h') (some (v, h')) none
      | some (.inr (.inr (mid, As, pc', ls', st', h'))) => cond (hle h h' && Nat.ble (lent As).length (P mid).2) (match xexec P f (P mid).1 0 (lpad (P mid).2 (lent As)) [] h' with
        | some (v, h2) => xexec P f cd pc' ls' (v.toList ++ st') h2
        | none => none) none) := rfl
theorem xexec_more (P : Pg) : ∀ (f : Nat) (cd : Cd) (pc : Nat) (ls : Ls) (st : List Value) (h : Hp) (R : Option Value × Hp), xexec P f cd pc ls st h = some R → xexec P (f + 1) cd pc ls st h = some R
  | 0, _, _, _, _, _, _, e => by simp [xexec] at e
  | f + 1, cd, pc, ls, st, h, R, e => by
    rw [xexec_eq P f] at e
    rw [xexec_eq P (f + 1)]
    split at e
    next => cases e
    next o ho =>
      try rw [ho]
      split at e
      next => cases e
      next pc1 ls1 st1 h1 hS =>
        try simp only [hS]
        cases hb : hle h h1 with
        | false => rw [hb] at e; cases e
        | true =>
          rw [hb] at e
          simp only [cond_true] at e ⊢
          exact xexec_more P f cd pc1 ls1 st1 h1 R e
      next v1 h1 hS =>
        try simp only [hS]
        exact e
      next mid As pc1 ls1 st1 h1 hS =>
        try simp only [hS]
        cases hb : (hle h h1 && Nat.ble (lent As).length (P mid).2) with
        | false => rw [hb] at e; cases e
        | true =>
          rw [hb] at e
          simp only [cond_true] at e ⊢
          split at e
          next v2 h2 hc =>
            rw [xexec_more P f _ _ _ _ _ _ hc]
            exact xexec_more P f cd pc1 ls1 _ h2 R e
          next => cases e
theorem xexec_ge (P : Pg) {f g : Nat} (hfg : f ≤ g) {cd : Cd} {pc : Nat} {ls : Ls} {st : List Value} {h : Hp} {R : Option Value × Hp} (e : xexec P f cd pc ls st h = some R) : xexec P g cd pc ls st h = some R := by
  induction hfg with
  | refl => exact e
  | step _ ih => exact xexec_more P _ cd pc ls st h R ih
theorem hle_rfl (h : Hp) : hle h h = true := by simp [hle]
section EX
variable {P : Pg} {cd : Cd} {pc pc' : Nat} {ls ls' : Ls} {st st' : List Value} {h h1 : Hp} {R : Option Value → Hp → Prop} {o : XOp}
theorem Ex_go (hc : cd pc = some o) (ho : o ls st h = some (.inl (pc', ls', st', h1))) (hl : hle h h1 = true) (k : Ex P cd pc' ls' st' h1 R) : Ex P cd pc ls st h R := by
  obtain ⟨f, v, h', hf, hR⟩ := k
  exact ⟨f + 1, v, h', by rw [xexec_eq, hc]; simp only [ho, hl, cond_true]; exact hf, hR⟩
theorem Ex_mv (hc : cd pc = some o) (ho : o ls st h = some (.inl (pc', ls', st', h))) (k : Ex P cd pc' ls' st' h R) : Ex P cd pc ls st h R := Ex_go hc ho (hle_rfl h) k
theorem Ex_rt {v : Option Value} (hc : cd pc = some o) (ho : o ls st h = some (.inr (.inl (v, h)))) (e : R v h) : Ex P cd pc ls st h R := ⟨1, v, h, by rw [xexec_eq, hc]; simp only [ho, hle_rfl, cond_true], e⟩
theorem Ex_cl {mid : Nat} {As : List Value} {v : Option Value} (hc : cd pc = some o) (ho : o ls st h = some (.inr (.inr (mid, As, pc', ls', st', h)))) (hE : Ev P mid As h v h1) (k : Ex P cd pc' ls' (v.toList ++ st') h1 R) : Ex P cd pc ls st h R := by
  obtain ⟨hl, f, hf⟩ := hE
  obtain ⟨g, v', h', hg, hR⟩ := k
  refine ⟨max f g + 1, v', h', ?_, hR⟩
  have hb : Nat.ble (lent As).length (P mid).2 = true := Nat.ble_eq_true_of_le hl
  rw [xexec_eq, hc]
  simp only [ho, hle_rfl, hb, Bool.and_self, cond_true]
  rw [xexec_ge P (Nat.le_max_left f g) hf]
  exact xexec_ge P (Nat.le_max_right f g) hg
theorem Ex_if {p : Prop} [Decidable p] {t f : Nat} (ht : p → Ex P cd t ls st h R) (hf : ¬ p → Ex P cd f ls st h R) : Ex P cd (cond (decide p) t f) ls st h R := by
  by_cases hp : p
  · simpa [hp] using ht hp
  · simpa [hp] using hf hp
theorem Ex_sw {x k : Int32} {t d : Nat} {r : List (Int32 × Nat)} (ht : x = k → Ex P cd t ls st h R) (hf : ¬ x = k → Ex P cd (o_swp x r d) ls st h R) : Ex P cd (o_swp x ((k, t) :: r) d) ls st h R := by
  by_cases hp : x = k
  · simpa [o_swp, hp] using ht hp
  · simpa [o_swp, hp] using hf hp
theorem Ex_sw0 {x : Int32} {d : Nat} (hf : Ex P cd d ls st h R) : Ex P cd (o_swp x [] d) ls st h R := hf
theorem Ev_of {mid : Nat} {As : List Value} {v : Option Value} (cd : Cd) (n : Nat) (hp : P mid = (cd, n)) (hl : (lent As).length ≤ n) (k : Ex P cd 0 (lpad n (lent As)) [] h (fun v' h' => v' = v ∧ h' = h1)) : Ev P mid As h v h1 := by
  obtain ⟨f, v', h', hf, rfl, rfl⟩ := k
  unfold Ev
  rw [hp]
  exact ⟨hl, f, hf⟩
theorem EvQ_of {mid : Nat} {As : List Value} (cd : Cd) (n : Nat) (L : Ls) (hp : P mid = (cd, n)) (hl : (lent As).length ≤ n) (hL : lpad n (lent As) = L) (k : Ex P cd 0 L [] h R) : EvQ P mid As h R := by
  obtain ⟨f, v', h', hf, hR⟩ := k
  refine ⟨v', h', ?_, hR⟩
  unfold Ev
  rw [hp]
  exact ⟨hl, f, by rw [hL]; exact hf⟩
theorem Ex_mono {R' : Option Value → Hp → Prop} (k : Ex P cd pc ls st h R) (hR : ∀ v h', R v h' → R' v h') : Ex P cd pc ls st h R' := by
  obtain ⟨f, v, h', e, r⟩ := k
  exact ⟨f, v, h', e, hR v h' r⟩
theorem Ev_ofL {mid : Nat} {As : List Value} {v : Option Value} (cd : Cd) (n : Nat) (L : Ls) (hp : P mid = (cd, n)) (hl : (lent As).length ≤ n) (hL : lpad n (lent As) = L) (k : Ex P cd 0 L [] h (fun v' h' => v' = v ∧ h' = h1)) : Ev P mid As h v h1 := Ev_of cd n hp hl (by rw [hL]; exact k)
theorem Ex_iand {x y : Int32} {nx : Nat} (hc : cd pc = some (o_iand nx)) (kk : Ex P cd nx ls (.int (x &&& y) :: st) h R) : Ex P cd pc ls (.int y :: .int x :: st) h R := Ex_mv hc rfl kk
theorem Ex_ior {x y : Int32} {nx : Nat} (hc : cd pc = some (o_ior nx)) (kk : Ex P cd nx ls (.int (x ||| y) :: st) h R) : Ex P cd pc ls (.int y :: .int x :: st) h R := Ex_mv hc rfl kk
theorem Ex_ishl {x y : Int32} {nx : Nat} (hc : cd pc = some (o_ishl nx)) (kk : Ex P cd nx ls (.int (x <<< (y &&& 31)) :: st) h R) : Ex P cd pc ls (.int y :: .int x :: st) h R := Ex_mv hc rfl kk
theorem Ex_ishr {x y : Int32} {nx : Nat} (hc : cd pc = some (o_ishr nx)) (kk : Ex P cd nx ls (.int (x >>> (y &&& 31)) :: st) h R) : Ex P cd pc ls (.int y :: .int x :: st) h R := Ex_mv hc rfl kk
theorem Ex_land {x y : Int64} {nx : Nat} (hc : cd pc = some (o_land nx)) (kk : Ex P cd nx ls (.long (x &&& y) :: st) h R) : Ex P cd pc ls (.long y :: .long x :: st) h R := Ex_mv hc rfl kk
theorem Ex_lor {x y : Int64} {nx : Nat} (hc : cd pc = some (o_lor nx)) (kk : Ex P cd nx ls (.long (x ||| y) :: st) h R) : Ex P cd pc ls (.long y :: .long x :: st) h R := Ex_mv hc rfl kk
theorem Ex_lshl {x : Int64} {y : Int32} {nx : Nat} (hc : cd pc = some (o_lshl nx)) (kk : Ex P cd nx ls (.long (x <<< (y.toInt64 &&& 63)) :: st) h R) : Ex P cd pc ls (.int y :: .long x :: st) h R := Ex_mv hc rfl kk
theorem Ex_lshr {x : Int64} {y : Int32} {nx : Nat} (hc : cd pc = some (o_lshr nx)) (kk : Ex P cd nx ls (.long (x >>> (y.toInt64 &&& 63)) :: st) h R) : Ex P cd pc ls (.int y :: .long x :: st) h R := Ex_mv hc rfl kk
/-! steps that look at the heap -/
theorem Ex_getf {ci k nx a : Nat} {w : Bool} {fs : List Value} {v : Value} (hc : cd pc = some (o_getf ci k nx)) (hM : h.2.2 a = some (w, .inr (ci, fs))) (hv : fs[k]? = some v) (kk : Ex P cd nx ls (v :: st) h R) : Ex P cd pc ls (.ref a :: st) h R := by
  refine Ex_mv hc ?_ kk
  simp only [o_getf, hM, Nat.beq_refl, cond_true, hv]
theorem Ex_putf {ci k kd nx a : Nat} {fs : List Value} {v : Value} (hc : cd pc = some (o_putf ci k kd nx)) (hM : h.2.2 a = some (true, .inr (ci, fs))) (hv : o_ok kd v = true) (hk : Nat.blt k fs.length = true) (kk : Ex P cd nx ls st (hset h a (.inr (ci, fs.set k v))) R) : Ex P cd pc ls (v :: .ref a :: st) h R := by
  refine Ex_go hc (pc' := nx) (ls' := ls) (st' := st) ?_ (h1 := hset h a (.inr (ci, fs.set k v))) (by simp [hle, hset]) kk
  simp only [o_putf, hM, Nat.beq_refl, hv, hk, Bool.and_self, cond_true]
theorem Ex_alen {nx a k n : Nat} {w : Bool} {x : (Nat → Int32) ⊕ (Nat → Int64) ⊕ (Nat → UInt32) ⊕ (Nat → UInt64) ⊕ (Nat → Option Nat)} (hc : cd pc = some (o_alen nx)) (hM : h.2.2 a = some (w, .inl (k, n, x))) (hk : Nat.blt k 11 = true) (kk : Ex P cd nx ls (.int (nI n) :: st) h R) : Ex P cd pc ls (.ref a :: st) h R := by
  refine Ex_mv hc ?_ kk
  simp only [o_alen, hM, hk, cond_true]
  rfl
theorem in_inb {i : Int32} {n : Nat} (h : vp_in i n) : inb i n = true := by
  simp only [inb, Bool.and_eq_true, Bool.not_eq_true', decide_eq_false_iff_not]
  exact ⟨fun q => h (Or.inl q), Nat.ble_eq_true_of_le (Nat.not_le.mp fun q => h (Or.inr q))⟩
theorem Ex_iald {kd nx a n : Nat} {w : Bool} {f : Nat → Int32} {i : Int32} (hc : cd pc = some (o_iald kd nx)) (hM : h.2.2 a = some (w, .inl (kd, n, .inl f))) (hi : vp_in i n) (kk : Ex P cd nx ls (.int (f i.toNatClampNeg) :: st) h R) : Ex P cd pc ls (.int i :: .ref a :: st) h R := by
  refine Ex_mv hc ?_ kk
  simp only [o_iald, hM, Nat.beq_refl, in_inb hi, Bool.and_self, cond_true]
theorem Ex_lald {nx a n : Nat} {w : Bool} {f : Nat → Int64} {i : Int32} (hc : cd pc = some (o_lald nx)) (hM : h.2.2 a = some (w, .inl (2, n, .inr (.inl f)))) (hi : vp_in i n) (kk : Ex P cd nx ls (.long (f i.toNatClampNeg) :: st) h R) : Ex P cd pc ls (.int i :: .ref a :: st) h R := by
  refine Ex_mv hc ?_ kk
  simp only [o_lald, hM, Nat.beq_refl, in_inb hi, Bool.and_self, cond_true]
theorem Ex_aald {kd nx a n q : Nat} {w : Bool} {f : Nat → Option Nat} {i : Int32} (hc : cd pc = some (o_aald nx)) (hM : h.2.2 a = some (w, .inl (kd, n, .inr (.inr (.inr (.inr f)))))) (hk : (Nat.blt 2 kd && Nat.blt kd 11) = true) (hi : vp_in i n) (hq : f i.toNatClampNeg = some q) (kk : Ex P cd nx ls (.ref q :: st) h R) : Ex P cd pc ls (.int i :: .ref a :: st) h R := by
  refine Ex_mv hc ?_ kk
  simp only [o_aald, hM, hk, in_inb hi, Bool.and_self, cond_true, hq]
theorem Ex_iast {nx a n : Nat} {f : Nat → Int32} {i x : Int32} (hc : cd pc = some (o_iast nx)) (hM : h.2.2 a = some (true, .inl (1, n, .inl f))) (hi : vp_in i n) (kk : Ex P cd nx ls st (hset h a (.inl (1, n, .inl (upd f i.toNatClampNeg x)))) R) : Ex P cd pc ls (.int x :: .int i :: .ref a :: st) h R := by
  refine Ex_go hc (pc' := nx) (ls' := ls) (st' := st) ?_ (h1 := hset h a _) (by simp [hle, hset]) kk
  simp only [o_iast, hM, Nat.beq_refl, in_inb hi, Bool.and_self, cond_true]
theorem Ex_bast {nx a n : Nat} {f : Nat → Int32} {i x : Int32} (hc : cd pc = some (o_bast nx)) (hM : h.2.2 a = some (true, .inl (0, n, .inl f))) (hi : vp_in i n) (kk : Ex P cd nx ls st (hset h a (.inl (0, n, .inl (upd f i.toNatClampNeg x.toInt8.toInt32)))) R) : Ex P cd pc ls (.int x :: .int i :: .ref a :: st) h R := by
  refine Ex_go hc (pc' := nx) (ls' := ls) (st' := st) ?_ (h1 := hset h a _) (by simp [hle, hset]) kk
  simp only [o_bast, hM, Nat.beq_refl, in_inb hi, Bool.and_self, cond_true]
theorem Ex_last {nx a n : Nat} {f : Nat → Int64} {i : Int32} {x : Int64} (hc : cd pc = some (o_last nx)) (hM : h.2.2 a = some (true, .inl (2, n, .inr (.inl f)))) (hi : vp_in i n) (kk : Ex P cd nx ls st (hset h a (.inl (2, n, .inr (.inl (vp_updL f i.toNatClampNeg x))))) R) : Ex P cd pc ls (.long x :: .int i :: .ref a :: st) h R := by
  refine Ex_go hc (pc' := nx) (ls' := ls) (st' := st) ?_ (h1 := hset h a _) (by simp [hle, hset]) kk
  simp only [o_last, hM, Nat.beq_refl, in_inb hi, Bool.and_self, cond_true]
theorem Ex_aast {kd ek nx a n v : Nat} {w : Bool} {ce : Ce} {f : Nat → Option Nat} {i : Int32} (hc : cd pc = some (o_aast kd ek nx)) (hM : h.2.2 a = some (true, .inl (kd, n, .inr (.inr (.inr (.inr f)))))) (hv : h.2.2 v = some (w, ce)) (hk : Nat.beq (kof ce) ek = true) (hi : vp_in i n) (kk : Ex P cd nx ls st (hset h a (.inl (kd, n, .inr (.inr (.inr (.inr (va_up f i.toNatClampNeg (some v)))))))) R) : Ex P cd pc ls (.ref v :: .int i :: .ref a :: st) h R := by
  refine Ex_go hc (pc' := nx) (ls' := ls) (st' := st) ?_ (h1 := hset h a _) (by simp [hle, hset]) kk
  simp only [o_aast, hM, hv, Nat.beq_refl, in_inb hi, hk, Bool.and_self, cond_true]
theorem Ex_new {ci N nx : Nat} {fs : List Value} (hc : cd pc = some (o_new ci N fs nx)) (kk : Ex P cd nx ls (.ref h.1 :: st) (hnew h N (.inr (ci, fs))) R) : Ex P cd pc ls st h R := Ex_go hc rfl (by simp [hle, hnew]) kk
theorem Ex_newi {kd nx : Nat} {n : Int32} (hc : cd pc = some (o_newi kd nx)) (hi : vp_in n 100000) (kk : Ex P cd nx ls (.ref h.1 :: st) (hnew h n.toNatClampNeg (.inl (kd, n.toNatClampNeg, .inl (fun _ => 0)))) R) : Ex P cd pc ls (.int n :: st) h R := by
  refine Ex_go hc (pc' := nx) (ls' := ls) (st' := .ref h.1 :: st) ?_ (h1 := hnew h _ _) (by simp [hle, hnew]) kk
  simp only [o_newi, in_inb hi, cond_true]
theorem Ex_newl {nx : Nat} {n : Int32} (hc : cd pc = some (o_newl nx)) (hi : vp_in n 100000) (kk : Ex P cd nx ls (.ref h.1 :: st) (hnew h n.toNatClampNeg (.inl (2, n.toNatClampNeg, .inr (.inl (fun _ => 0))))) R) : Ex P cd pc ls (.int n :: st) h R := by
  refine Ex_go hc (pc' := nx) (ls' := ls) (st' := .ref h.1 :: st) ?_ (h1 := hnew h _ _) (by simp [hle, hnew]) kk
  simp only [o_newl, in_inb hi, cond_true]
theorem Ex_newq {kd nx : Nat} {n : Int32} (hc : cd pc = some (o_newq kd nx)) (hi : vp_in n 100000) (kk : Ex P cd nx ls (.ref h.1 :: st) (hnew h n.toNatClampNeg (.inl (kd, n.toNatClampNeg, .inr (.inr (.inr (.inr (fun _ => none))))))) R) : Ex P cd pc ls (.int n :: st) h R := by
  refine Ex_go hc (pc' := nx) (ls' := ls) (st' := .ref h.1 :: st) ?_ (h1 := hnew h _ _) (by simp [hle, hnew]) kk
  simp only [o_newq, in_inb hi, cond_true]
theorem Ex_acp {nx k na nd d a : Nat} {w : Bool} {n dp sp : Int32} {f g : Nat → Int32} (hc : cd pc = some (o_acp nx)) (h8 : Nat.ble (stw st) 8 = true) (hMa : h.2.2 a = some (w, .inl (k, na, .inl f))) (hMd : h.2.2 d = some (true, .inl (k, nd, .inl g))) (hk : Nat.blt k 2 = true) (h1 : ¬ n < 0) (h2 : ¬ sp < 0) (h3 : ¬ dp < 0) (h4 : sp.toNatClampNeg + n.toNatClampNeg ≤ na) (h5 : dp.toNatClampNeg + n.toNatClampNeg ≤ nd) (kk : Ex P cd nx ls st (hset h d (.inl (k, nd, .inl (va_cpy f g sp.toNatClampNeg dp.toNatClampNeg n.toNatClampNeg)))) R) : Ex P cd pc ls (.int n :: .int dp :: .ref d :: .int sp :: .ref a :: st) h R := by
  refine Ex_go hc (pc' := nx) (ls' := ls) (st' := st) ?_ (h1 := hset h d _) (by simp [hle, hset]) kk
  simp only [o_acp, hMa, hMd, h8, Nat.beq_refl, hk, h1, h2, h3, decide_false, Bool.not_false, Nat.ble_eq_true_of_le h4, Nat.ble_eq_true_of_le h5, Bool.and_self, cond_true]
theorem Ex_invV {mid ci n nx a : Nat} {w : Bool} {fs As : List Value} {v : Option Value} (hc : cd pc = some (o_invV mid ci n nx)) (hst : st = As.reverse ++ .ref a :: st') (hn : As.length = n) (hM : h.2.2 a = some (w, .inr (ci, fs))) (h8 : Nat.ble (stw st') 8 = true) (hE : Ev P mid (.ref a :: As) h v h1) (k : Ex P cd nx ls (v.toList ++ st') h1 R) : Ex P cd pc ls st h R := by
  refine Ex_cl hc (mid := mid) (As := .ref a :: As) (pc' := nx) (ls' := ls) (st' := st') ?_ hE k
  subst hst
  have e1 : (As.reverse ++ .ref a :: st').drop n = .ref a :: st' := by rw [List.drop_append_of_le_length (by simp [hn]), List.drop_eq_nil_of_le (by simp [hn])]; rfl
  have e2 : (As.reverse ++ .ref a :: st').take n = As.reverse := by rw [List.take_append_of_le_length (by simp [hn]), List.take_of_length_le (by simp [hn])]
  have e3 : Nat.ble n (As.reverse ++ .ref a :: st').length = true := Nat.ble_eq_true_of_le (by simp [hn])
  simp only [o_invV, e1, hM, Nat.beq_refl, e3, Bool.and_self, cond_true, e2, List.reverse_reverse, o_call, h8]
theorem Ex_inv {mid n nx : Nat} {As : List Value} {v : Option Value} (hc : cd pc = some (o_inv mid n nx)) (hst : st = As.reverse ++ st') (hn : As.length = n) (h8 : Nat.ble (stw st') 8 = true) (hE : Ev P mid As h v h1) (k : Ex P cd nx ls (v.toList ++ st') h1 R) : Ex P cd pc ls st h R := by
  refine Ex_cl hc (mid := mid) (As := As) (pc' := nx) (ls' := ls) (st' := st') ?_ hE k
  subst hst
  have e1 : (As.reverse ++ st').drop n = st' := by rw [List.drop_append_of_le_length (by simp [hn]), List.drop_eq_nil_of_le (by simp [hn])]; rfl
  have e2 : (As.reverse ++ st').take n = As.reverse := by rw [List.take_append_of_le_length (by simp [hn]), List.take_of_length_le (by simp [hn])]
  have e3 : Nat.ble n (As.reverse ++ st').length = true := Nat.ble_eq_true_of_le (by simp [hn])
  simp only [o_inv, e1, e3, cond_true, e2, List.reverse_reverse, o_call, h8]
theorem Ex_invI {mid n nx a : Nat} {As : List Value} {v : Option Value} (hc : cd pc = some (o_invI mid n nx)) (hst : st = As.reverse ++ .ref a :: st') (hn : As.length = n) (h8 : Nat.ble (stw st') 8 = true) (hE : Ev P mid (.ref a :: As) h v h1) (k : Ex P cd nx ls (v.toList ++ st') h1 R) : Ex P cd pc ls st h R := by
  refine Ex_cl hc (mid := mid) (As := .ref a :: As) (pc' := nx) (ls' := ls) (st' := st') ?_ hE k
  subst hst
  have e1 : (As.reverse ++ .ref a :: st').drop n = .ref a :: st' := by rw [List.drop_append_of_le_length (by simp [hn]), List.drop_eq_nil_of_le (by simp [hn])]; rfl
  have e2 : (As.reverse ++ .ref a :: st').take n = As.reverse := by rw [List.take_append_of_le_length (by simp [hn]), List.take_of_length_le (by simp [hn])]
  have e3 : Nat.ble n (As.reverse ++ .ref a :: st').length = true := Nat.ble_eq_true_of_le (by simp [hn])
  simp only [o_invI, e1, e3, cond_true, e2, List.reverse_reverse, o_call, h8]
theorem Ex_ift {p : Prop} [Decidable p] {t f : Nat} (hp : p) (ht : Ex P cd t ls st h R) : Ex P cd (cond (decide p) t f) ls st h R := by simpa [hp] using ht
theorem Ex_iff {p : Prop} [Decidable p] {t f : Nat} (hp : ¬ p) (hf : Ex P cd f ls st h R) : Ex P cd (cond (decide p) t f) ls st h R := by simpa [hp] using hf
/-! numbers that are none below 0 -/
theorem Ex_addN {a b nx : Nat} (hc : cd pc = some (o_iadd nx)) (kk : Ex P cd nx ls (.int (nI (a + b)) :: st) h R) : Ex P cd pc ls (.int (nI b) :: .int (nI a) :: st) h R := by
  refine Ex_mv hc (pc' := nx) (ls' := ls) (st' := .int (nI a + nI b) :: st) rfl ?_
  rw [nI_add]; exact kk
theorem Ex_subN {a b nx : Nat} (hc : cd pc = some (o_isub nx)) (hab : b ≤ a) (kk : Ex P cd nx ls (.int (nI (a - b)) :: st) h R) : Ex P cd pc ls (.int (nI b) :: .int (nI a) :: st) h R := by
  refine Ex_mv hc (pc' := nx) (ls' := ls) (st' := .int (nI a - nI b) :: st) rfl ?_
  rw [pk_sub hab]; exact kk
theorem Ex_mulN {a b nx : Nat} (hc : cd pc = some (o_imul nx)) (kk : Ex P cd nx ls (.int (nI (a * b)) :: st) h R) : Ex P cd pc ls (.int (nI b) :: .int (nI a) :: st) h R := by
  refine Ex_mv hc (pc' := nx) (ls' := ls) (st' := .int (nI a * nI b) :: st) rfl ?_
  rw [pk_mul]; exact kk
theorem Ex_incN {a d k nx : Nat} (hc : cd pc = some (o_inc k (nI d) nx)) (hl : lget ls k = some (.int (nI a))) (kk : Ex P cd nx (lset ls k (.int (nI (a + d)))) st h R) : Ex P cd pc ls st h R := by
  refine Ex_mv hc (pc' := nx) (ls' := lset ls k (.int (nI a + nI d))) (st' := st) (by simp only [o_inc, hl]) ?_
  rw [nI_add]; exact kk
theorem Ex_leN {a b t f : Nat} (ha : a < 2 ^ 31) (hb : b < 2 ^ 31) (ht : a ≤ b → Ex P cd t ls st h R) (hf : b < a → Ex P cd f ls st h R) : Ex P cd (cond (decide (nI a ≤ nI b)) t f) ls st h R := Ex_if (fun q => ht ((nI_leI ha hb).mp q)) (fun q => hf (Nat.not_le.mp fun z => q ((nI_leI ha hb).mpr z)))
theorem Ex_ltN {a b t f : Nat} (ha : a < 2 ^ 31) (hb : b < 2 ^ 31) (ht : a < b → Ex P cd t ls st h R) (hf : b ≤ a → Ex P cd f ls st h R) : Ex P cd (cond (decide (nI a < nI b)) t f) ls st h R := Ex_if (fun q => ht ((nI_ltI ha hb).mp q)) (fun q => hf (Nat.not_lt.mp fun z => q ((nI_ltI ha hb).mpr z)))
theorem Ex_eqN {a b t f : Nat} (ha : a < 2 ^ 31) (hb : b < 2 ^ 31) (ht : a = b → Ex P cd t ls st h R) (hf : a ≠ b → Ex P cd f ls st h R) : Ex P cd (cond (decide (nI a = nI b)) t f) ls st h R := Ex_if (fun q => ht ((nI_eq ha hb).mp q)) (fun q => hf fun z => q ((nI_eq ha hb).mpr z))
theorem Ex_neN {a b t f : Nat} (ha : a < 2 ^ 31) (hb : b < 2 ^ 31) (ht : a ≠ b → Ex P cd t ls st h R) (hf : a = b → Ex P cd f ls st h R) : Ex P cd (cond (decide (¬ nI a = nI b)) t f) ls st h R := Ex_if (fun q => ht fun z => q ((nI_eq ha hb).mpr z)) (fun q => hf ((nI_eq ha hb).mp (Decidable.not_not.mp q)))
theorem Ex_eq0 {a t f : Nat} (ha : a < 2 ^ 31) (ht : a = 0 → Ex P cd t ls st h R) (hf : a ≠ 0 → Ex P cd f ls st h R) : Ex P cd (cond (decide (nI a = 0)) t f) ls st h R := Ex_eqN (b := 0) ha (by decide) ht hf
theorem Ex_ne0 {a t f : Nat} (ha : a < 2 ^ 31) (ht : a ≠ 0 → Ex P cd t ls st h R) (hf : a = 0 → Ex P cd f ls st h R) : Ex P cd (cond (decide (¬ nI a = 0)) t f) ls st h R := Ex_neN (b := 0) ha (by decide) ht hf
theorem Ex_lt0 {a t f : Nat} (ha : a < 2 ^ 31) (hf : Ex P cd f ls st h R) : Ex P cd (cond (decide (nI a < 0)) t f) ls st h R := Ex_iff (nI_pos ha) hf
theorem Ex_ge0 {a t f : Nat} (ha : a < 2 ^ 31) (ht : Ex P cd t ls st h R) : Ex P cd (cond (decide (0 ≤ nI a)) t f) ls st h R := Ex_ift (nI_pos' ha) ht
theorem Ex_gt0 {a t f : Nat} (ha : a < 2 ^ 31) (ht : 0 < a → Ex P cd t ls st h R) (hf : a = 0 → Ex P cd f ls st h R) : Ex P cd (cond (decide (0 < nI a)) t f) ls st h R := Ex_ltN (a := 0) (by decide) ha ht (fun q => hf (by omega))
theorem Ex_le0 {a t f : Nat} (ha : a < 2 ^ 31) (ht : a = 0 → Ex P cd t ls st h R) (hf : 0 < a → Ex P cd f ls st h R) : Ex P cd (cond (decide (nI a ≤ 0)) t f) ls st h R := Ex_leN (b := 0) ha (by decide) (fun q => ht (by omega)) hf
theorem Ex_swN {a k t d : Nat} {r : List (Int32 × Nat)} {kk : Int32} (hk : kk = nI k) (ha : a < 2 ^ 31) (hkk : k < 2 ^ 31) (ht : a = k → Ex P cd t ls st h R) (hf : a ≠ k → Ex P cd (o_swp (nI a) r d) ls st h R) : Ex P cd (o_swp (nI a) ((kk, t) :: r) d) ls st h R := by
  subst hk
  exact Ex_sw (fun q => ht ((nI_eq ha hkk).mp q)) (fun q => hf fun z => q ((nI_eq ha hkk).mpr z))
end EX
end
section
/-! bytes, rows -/
theorem nI_or (a b : Nat) : nI a ||| nI b = nI (a ||| b) := by
  apply Int32.toBitVec_inj.mp
  show BitVec.ofNat 32 a ||| BitVec.ofNat 32 b = BitVec.ofNat 32 (a ||| b)
  rw [BitVec.ofNat_or]
theorem or8 {a b : Nat} (hb : b < 256) : nI (a * 256) ||| nI b = nI (256 * a + b) := by
  rw [nI_or, Nat.mul_comm a 256]
  have := Nat.two_pow_add_eq_or_of_lt (i := 8) (b := b) hb a
  rw [show (2 ^ 8 : Nat) = 256 from rfl] at this
  rw [this]
theorem or16 {a b : Nat} (hb : b < 65536) : nI (a * 65536) ||| nI b = nI (65536 * a + b) := by
  rw [nI_or, Nat.mul_comm a 65536]
  have := Nat.two_pow_add_eq_or_of_lt (i := 16) (b := b) hb a
  rw [show (2 ^ 16 : Nat) = 65536 from rfl] at this
  rw [this]
theorem shl8 {a : Nat} (h : a < 256) : nI a <<< (nI 8 &&& 31) = nI (a * 256) := pk_shlN _ 8 (by decide) (by omega)
theorem shl16 {a : Nat} (h : a < 65536) : nI a <<< (nI 16 &&& 31) = nI (a * 65536) := pk_shlN _ 16 (by decide) (by omega)
theorem shr8 {a : Nat} (h : a < 2 ^ 31) : nI a >>> (nI 8 &&& 31) = nI (a / 256) := pk_shrN h _ 8 (by decide)
/-- the lowest byte -/
def lowb (x : Int32) : Nat := x.toBitVec.toNat % 256
theorem lowb_lt (x : Int32) : lowb x < 256 := Nat.mod_lt _ (by decide)
theorem sb_low (x : Int32) : x.toInt8.toInt32 = sb_b (lowb x) := by
  unfold sb_b lowb
  congr 1
  apply Int8.toBitVec_inj.mp
  show x.toBitVec.signExtend 8 = (nI (x.toBitVec.toNat % 256)).toBitVec.signExtend 8
  apply BitVec.eq_of_toNat_eq
  rw [BitVec.signExtend_eq_setWidth_of_le _ (by decide), BitVec.signExtend_eq_setWidth_of_le _ (by decide)]
  simp only [BitVec.toNat_setWidth]
  show _ = (BitVec.ofNat 32 _).toNat % _
  simp only [BitVec.toNat_ofNat]
  omega
theorem sb_low2 (x : Int32) : x.toInt8.toInt32.toInt8.toInt32 = sb_b (lowb x) := by
  rw [show x.toInt8.toInt32.toInt8 = x.toInt8 from by simp]; exact sb_low x
theorem lowb_nI (v : Nat) : lowb (nI v) = v % 256 := by
  unfold lowb
  show (BitVec.ofNat 32 v).toNat % 256 = v % 256
  simp only [BitVec.toNat_ofNat]
  omega
/-- the heap, but cells from lo to hi, is the same -/
def FrI (lo hi : Nat) (h h' : Hp) : Prop := h'.1 = h.1 ∧ h'.2.1 = h.2.1 ∧ ∀ q, (q < lo ∨ hi ≤ q) → h'.2.2 q = h.2.2 q
theorem FrI.rf {lo hi : Nat} {h : Hp} : FrI lo hi h h := ⟨rfl, rfl, fun _ _ => rfl⟩
theorem FrI.tr {lo hi : Nat} {h h1 h2 : Hp} (a : FrI lo hi h h1) (b : FrI lo hi h1 h2) : FrI lo hi h h2 := ⟨b.1.trans a.1, b.2.1.trans a.2.1, fun q hq => (b.2.2 q hq).trans (a.2.2 q hq)⟩
theorem FrI.wd {lo hi lo' hi' : Nat} {h h1 : Hp} (a : FrI lo hi h h1) (g1 : lo' ≤ lo) (g2 : hi ≤ hi') : FrI lo' hi' h h1 := ⟨a.1, a.2.1, fun q hq => a.2.2 q (by omega)⟩
theorem FrI.at {lo hi q : Nat} {h h1 : Hp} {x : Option (Bool × Ce)} (a : FrI lo hi h h1) (hx : h.2.2 q = x) (hq : q < lo ∨ hi ≤ q) : h1.2.2 q = x := (a.2.2 q hq).trans hx
theorem FrI.set {lo hi a : Nat} {h h1 : Hp} {c : Ce} (f : FrI lo hi h h1) (h1' : lo ≤ a) (h2 : a < hi) : FrI lo hi h (hset h1 a c) := ⟨f.1, f.2.1, fun q hq => by
  show (if q = a then _ else _) = _
  rw [if_neg (by omega)]; exact f.2.2 q hq⟩
theorem hs_at {h : Hp} {a : Nat} {c : Ce} : (hset h a c).2.2 a = some (true, c) := if_pos rfl
theorem hs_ne {h : Hp} {a q : Nat} {c : Ce} {x : Option (Bool × Ce)} (hq : q ≠ a) (hx : h.2.2 q = x) : (hset h a c).2.2 q = x := (if_neg hq).trans hx
/-- bytes as a row holds them -/
def BR (f : Nat → Int32) (B : List Nat) : Prop := B.length ≤ 400 ∧ (∀ j, j < B.length → f j = sb_b (B.getD j 0)) ∧ ∀ x ∈ B, x < 256
def b1 (B : List Nat) (k : Nat) : Nat := B.getD k 0
def b2 (B : List Nat) (k : Nat) : Nat := if k + 1 < B.length then 256 * b1 B k + b1 B (k + 1) else 0
def b4 (B : List Nat) (k : Nat) : Nat := 65536 * b2 B k + b2 B (k + 2)
theorem b1_lt {B : List Nat} (hB : ∀ x ∈ B, x < 256) (k : Nat) : b1 B k < 256 := by
  unfold b1
  by_cases hk : k < B.length
  · rw [List.getD_eq_getElem?_getD, List.getElem?_eq_getElem hk]; exact hB _ (List.getElem_mem hk)
  · rw [List.getD_eq_getElem?_getD, List.getElem?_eq_none (by omega)]; decide
theorem b1_out {B : List Nat} {k : Nat} (h : B.length ≤ k) : b1 B k = 0 := by
  unfold b1; rw [List.getD_eq_getElem?_getD, List.getElem?_eq_none h]; rfl
theorem b2_lt {B : List Nat} (hB : ∀ x ∈ B, x < 256) (k : Nat) : b2 B k < 65536 := by
  unfold b2
  have h1 := b1_lt hB k
  have h2 := b1_lt hB (k + 1)
  split <;> omega
theorem b4_lt {B : List Nat} (hB : ∀ x ∈ B, x < 256) (k : Nat) : b4 B k < 2 ^ 32 := by
  unfold b4
  have h1 := b2_lt hB k
  have h2 := b2_lt hB (k + 2)
  omega
theorem sb_and {c : Nat} (h : c < 256) : sb_b c &&& nI 255 = nI c := (sb_byte c h).1
theorem BR.at {f : Nat → Int32} {B : List Nat} (hB : BR f B) {k : Nat} (hk : k < B.length) : f (nI k).toNatClampNeg &&& nI 255 = nI (b1 B k) := by
  have := hB.1
  rw [nI_clamp (by omega), hB.2.1 k hk]
  exact sb_and (b1_lt hB.2.2 k)
theorem BR.push {f : Nat → Int32} {B : List Nat} (hB : BR f B) {c : Nat} (hc : c < 256) (hn : B.length < 400) {x : Int32} (hx : x = sb_b c) : BR (upd f (nI B.length).toNatClampNeg x) (B ++ [c]) := by
  rw [nI_clamp (by omega), hx]
  refine ⟨by simp; omega, fun j hj => ?_, fun y hy => ?_⟩
  · simp only [List.length_append, List.length_cons, List.length_nil] at hj
    by_cases e : j = B.length
    · subst e; simp [upd]
    · rw [List.getD_eq_getElem?_getD, List.getElem?_append_left (by omega), ← List.getD_eq_getElem?_getD]
      simp only [upd, e, if_false]
      exact hB.2.1 j (by omega)
  · rcases List.mem_append.mp hy with h | h
    · exact hB.2.2 y h
    · simp at h; omega
theorem getD_set {B : List Nat} {k c j : Nat} (hk : k < B.length) : (B.set k c).getD j 0 = if j = k then c else B.getD j 0 := by
  rw [List.getD_eq_getElem?_getD, List.getD_eq_getElem?_getD, List.getElem?_set]
  by_cases e : j = k
  · subst e; simp [hk]
  · rw [if_neg (fun q => e q.symm), if_neg e]
theorem BR.set {f : Nat → Int32} {B : List Nat} (hB : BR f B) {k c : Nat} (hc : c < 256) (hk : k < B.length) {x : Int32} (hx : x = sb_b c) : BR (upd f (nI k).toNatClampNeg x) (B.set k c) := by
  have := hB.1
  rw [nI_clamp (by omega), hx]
  refine ⟨by simpa using hB.1, fun j hj => ?_, fun y hy => ?_⟩
  · rw [getD_set hk]
    by_cases e : j = k
    · simp [upd, e]
    · simp only [upd, e, if_false]
      exact hB.2.1 j (by simpa using hj)
  · rcases List.mem_or_eq_of_mem_set hy with h | h
    · exact hB.2.2 y h
    · omega
section ROW
variable {nb sa : Nat} {h : Hp}
/-- a row: its object, its bytes just behind it -/
abbrev RO (h : Hp) (r n : Nat) : Prop := h.2.2 r = some (true, .inr (4, [.ref (r + 1), .int (nI n)]))
abbrev RB (h : Hp) (r : Nat) (f : Nat → Int32) : Prop := h.2.2 (r + 1) = some (true, .inl (0, 400, .inl f))
def RW (h : Hp) (r : Nat) (B : List Nat) : Prop := ∃ f, RO h r B.length ∧ RB h r f ∧ BR f B
theorem RW.len {r : Nat} {B : List Nat} (h1 : RW h r B) : B.length ≤ 400 := by obtain ⟨f, -, -, hB⟩ := h1; exact hB.1
theorem RW.lt {r : Nat} {B : List Nat} (h1 : RW h r B) : ∀ x ∈ B, x < 256 := by obtain ⟨f, -, -, hB⟩ := h1; exact hB.2.2
theorem RW.fr {r lo hi : Nat} {B : List Nat} {h' : Hp} (h1 : RW h r B) (f : FrI lo hi h h') (hq : r + 2 ≤ lo ∨ hi ≤ r) : RW h' r B := by
  obtain ⟨g, a, b, c⟩ := h1
  exact ⟨g, f.at a (by omega), f.at b (by omega), c⟩
theorem c_RW_size {r : Nat} {B : List Nat} (hR : RW h r B) : Ev (prog nb sa) m_RW_size [.ref r] h (some (.int (nI B.length))) h := by
  obtain ⟨f, hr, ha, hB⟩ := hR
  refine Ev_of k_RW_size 1 rfl (Nat.le_of_ble_eq_true rfl) ?_
  refine Ex_mv rfl rfl ?_; refine Ex_getf rfl (by assumption) rfl ?_
  exact Ex_rt rfl rfl ⟨rfl, rfl⟩
theorem c_RW_one {r : Nat} {B : List Nat} (hR : RW h r B) {k : Nat} (hk : k < 2 ^ 31) : Ev (prog nb sa) m_RW_one [.ref r, .int (nI k)] h (some (.int (nI (b1 B k)))) h := by
  obtain ⟨f, hr, ha, hB⟩ := hR
  have hl := hB.1
  refine Ev_of k_RW_one 2 rfl (Nat.le_of_ble_eq_true rfl) ?_
  refine Ex_mv rfl rfl ?_; refine Ex_mv rfl rfl ?_; refine Ex_lt0 (by omega) ?_; refine Ex_mv rfl rfl ?_; refine Ex_mv rfl rfl ?_; refine Ex_getf rfl (by assumption) rfl ?_; refine Ex_mv rfl rfl ?_; (first | refine Ex_leN (by omega) (by omega) (fun b9 => ?_) (fun b9 => ?_) | refine Ex_if (fun b9 => ?_) (fun b9 => ?_))
  · refine Ex_mv rfl rfl ?_
    refine Ex_rt rfl rfl ⟨?_, rfl⟩
    first | (rw [hB.at (by omega)]; done) | (rw [b1_out (by omega)]; done) | (exfalso; omega)
  · refine Ex_mv rfl rfl ?_; refine Ex_mv rfl rfl ?_; refine Ex_getf rfl (by assumption) rfl ?_; refine Ex_alen rfl (by assumption) rfl ?_; refine Ex_mv rfl rfl ?_; (first | refine Ex_leN (by omega) (by omega) (fun b18 => ?_) (fun b18 => ?_) | refine Ex_if (fun b18 => ?_) (fun b18 => ?_))
    · refine Ex_mv rfl rfl ?_
      refine Ex_rt rfl rfl ⟨?_, rfl⟩
      first | (rw [hB.at (by omega)]; done) | (rw [b1_out (by omega)]; done) | (exfalso; omega)
    · refine Ex_mv rfl rfl ?_; refine Ex_getf rfl (by assumption) rfl ?_; refine Ex_mv rfl rfl ?_; refine Ex_iald rfl (by assumption) (by first | assumption | exact vp_in_nI (by omega) (by omega)) ?_; refine Ex_mv rfl rfl ?_; refine Ex_iand rfl ?_; refine Ex_mv rfl rfl ?_
      refine Ex_rt rfl rfl ⟨?_, rfl⟩
      first | (rw [hB.at (by omega)]; done) | (rw [b1_out (by omega)]; done) | (exfalso; omega)
theorem c_RW_has {r : Nat} {B : List Nat} (hR : RW h r B) {k n : Nat} (hk : k < 2 ^ 31) (hn : n < 2 ^ 31) : Ev (prog nb sa) m_RW_has [.ref r, .int (nI k), .int (nI n)] h (some (.int (nI (if k + n ≤ B.length then 1 else 0)))) h := by
  obtain ⟨f, hr, ha, hB⟩ := hR
  have hl := hB.1
  refine Ev_of k_RW_has 3 rfl (Nat.le_of_ble_eq_true rfl) ?_
  refine Ex_mv rfl rfl ?_; refine Ex_mv rfl rfl ?_; refine Ex_lt0 (by omega) ?_; refine Ex_mv rfl rfl ?_; refine Ex_mv rfl rfl ?_; refine Ex_lt0 (by omega) ?_; refine Ex_mv rfl rfl ?_; refine Ex_mv rfl rfl ?_; refine Ex_getf rfl (by assumption) rfl ?_; refine Ex_mv rfl rfl ?_; (first | refine Ex_ltN (by omega) (by omega) (fun b13 => ?_) (fun b13 => ?_) | refine Ex_if (fun b13 => ?_) (fun b13 => ?_))
  · refine Ex_mv rfl rfl ?_
    refine Ex_rt rfl rfl ⟨?_, rfl⟩
    first | (rw [if_pos (by omega)]; done) | (rw [if_neg (by omega)]; done)
  · refine Ex_mv rfl rfl ?_; refine Ex_mv rfl rfl ?_; refine Ex_getf rfl (by assumption) rfl ?_; refine Ex_mv rfl rfl ?_; (first | refine Ex_subN rfl (by omega) ?_ | refine Ex_mv rfl rfl ?_); refine Ex_mv rfl rfl ?_; (first | refine Ex_ltN (by omega) (by omega) (fun b23 => ?_) (fun b23 => ?_) | refine Ex_if (fun b23 => ?_) (fun b23 => ?_))
    · refine Ex_mv rfl rfl ?_
      refine Ex_rt rfl rfl ⟨?_, rfl⟩
      first | (rw [if_pos (by omega)]; done) | (rw [if_neg (by omega)]; done)
    · refine Ex_mv rfl rfl ?_; refine Ex_mv rfl rfl ?_
      refine Ex_rt rfl rfl ⟨?_, rfl⟩
      first | (rw [if_pos (by omega)]; done) | (rw [if_neg (by omega)]; done)
theorem c_RW_hasN {r : Nat} {B : List Nat} (hR : RW h r B) {i n : Int32} (hi : i < 0) : Ev (prog nb sa) m_RW_has [.ref r, .int i, .int n] h (some (.int (nI 0))) h := by
  obtain ⟨f, hr, ha, hB⟩ := hR
  refine Ev_of k_RW_has 3 rfl (Nat.le_of_ble_eq_true rfl) ?_
  refine Ex_mv rfl rfl ?_; refine Ex_mv rfl rfl ?_; refine Ex_ift hi ?_; refine Ex_mv rfl rfl ?_
  exact Ex_rt rfl rfl ⟨rfl, rfl⟩
theorem two_of {x y : Nat} (hx : x < 256) (hy : y < 256) : nI x <<< (nI 8 &&& 31) ||| nI y = nI (256 * x + y) := by rw [shl8 hx, or8 hy]
theorem c_RW_two {r : Nat} {B : List Nat} (hR : RW h r B) {k : Nat} (hk : k < 2 ^ 31) : Ev (prog nb sa) m_RW_two [.ref r, .int (nI k)] h (some (.int (nI (b2 B k)))) h := by
  obtain ⟨f, hr, ha, hB⟩ := hR
  have hl := hB.1
  refine Ev_of k_RW_two 2 rfl (Nat.le_of_ble_eq_true rfl) ?_
  by_cases hz : B.length = 0
  · rw [hz] at hr
    refine Ex_mv rfl rfl ?_; refine Ex_mv rfl rfl ?_; refine Ex_lt0 (by omega) ?_; refine Ex_mv rfl rfl ?_; refine Ex_mv rfl rfl ?_; refine Ex_getf rfl (by assumption) rfl ?_; refine Ex_mv rfl rfl ?_; (first | refine Ex_subN rfl (by omega) ?_ | refine Ex_mv rfl rfl ?_); refine Ex_mv rfl rfl ?_; refine Ex_ift (Int32.le_of_lt (Int32.lt_of_lt_of_le (pk_sneg (by decide) (by decide)) (nI_pos' (by omega)))) ?_; refine Ex_mv rfl rfl ?_
    refine Ex_rt rfl rfl ⟨?_, rfl⟩
    rw [b2, if_neg (by omega)]
  · refine Ex_mv rfl rfl ?_; refine Ex_mv rfl rfl ?_; refine Ex_lt0 (by omega) ?_; refine Ex_mv rfl rfl ?_; refine Ex_mv rfl rfl ?_; refine Ex_getf rfl (by assumption) rfl ?_; refine Ex_mv rfl rfl ?_; (first | refine Ex_subN rfl (by omega) ?_ | refine Ex_mv rfl rfl ?_); refine Ex_mv rfl rfl ?_; (first | refine Ex_leN (by omega) (by omega) (fun b11 => ?_) (fun b11 => ?_) | refine Ex_if (fun b11 => ?_) (fun b11 => ?_))
    · refine Ex_mv rfl rfl ?_
      refine Ex_rt rfl rfl ⟨?_, rfl⟩
      rw [b2, if_neg (by omega)]
    · refine Ex_mv rfl rfl ?_; refine Ex_mv rfl rfl ?_; refine Ex_getf rfl (by assumption) rfl ?_; refine Ex_alen rfl (by assumption) rfl ?_; refine Ex_mv rfl rfl ?_; (first | refine Ex_subN rfl (by omega) ?_ | refine Ex_mv rfl rfl ?_); refine Ex_mv rfl rfl ?_; (first | refine Ex_ltN (by omega) (by omega) (fun b22 => ?_) (fun b22 => ?_) | refine Ex_if (fun b22 => ?_) (fun b22 => ?_))
      · refine Ex_mv rfl rfl ?_; refine Ex_getf rfl (by assumption) rfl ?_; refine Ex_mv rfl rfl ?_; refine Ex_iald rfl (by assumption) (vp_in_nI (by omega) (by decide)) ?_; refine Ex_mv rfl rfl ?_; refine Ex_iand rfl ?_; refine Ex_mv rfl rfl ?_; refine Ex_ishl rfl ?_; refine Ex_mv rfl rfl ?_; refine Ex_getf rfl (by assumption) rfl ?_; refine Ex_mv rfl rfl ?_; refine Ex_mv rfl rfl ?_; (first | refine Ex_addN rfl ?_ | refine Ex_mv rfl rfl ?_); refine Ex_iald rfl (by assumption) (vp_in_nI (by omega) (by decide)) ?_; refine Ex_mv rfl rfl ?_; refine Ex_iand rfl ?_; refine Ex_ior rfl ?_
        refine Ex_rt rfl rfl ⟨?_, rfl⟩
        rw [hB.at (by omega), hB.at (by omega), b2, if_pos (by omega), two_of (b1_lt hB.2.2 _) (b1_lt hB.2.2 _)]
      · refine Ex_mv rfl rfl ?_
        refine Ex_rt rfl rfl ⟨?_, rfl⟩
        rw [b2, if_neg (by omega)]
theorem c_RW_four {r : Nat} {B : List Nat} (hR : RW h r B) {k : Nat} (hk : k < 2 ^ 30) : Ev (prog nb sa) m_RW_four [.ref r, .int (nI k)] h (some (.int (nI (b4 B k)))) h := by
  obtain ⟨f, hr, ha, hB⟩ := id hR
  refine Ev_of k_RW_four 2 rfl (Nat.le_of_ble_eq_true rfl) ?_
  refine Ex_mv rfl rfl ?_; refine Ex_mv rfl rfl ?_; refine Ex_invV rfl (by rfl) (by rfl) (by assumption) (by rfl) (c_RW_two hR (by omega)) ?_; refine Ex_mv rfl rfl ?_; refine Ex_ishl rfl ?_; refine Ex_mv rfl rfl ?_; refine Ex_mv rfl rfl ?_; refine Ex_mv rfl rfl ?_; (first | refine Ex_addN rfl ?_ | refine Ex_mv rfl rfl ?_); refine Ex_invV rfl (by rfl) (by rfl) (by assumption) (by rfl) (c_RW_two hR (by omega)) ?_; refine Ex_ior rfl ?_
  refine Ex_rt rfl rfl ⟨?_, rfl⟩
  rw [b4, ← or16 (b2_lt hB.2.2 _), ← shl16 (b2_lt hB.2.2 _)]
theorem c_RW_clear {r : Nat} {B : List Nat} (hR : RW h r B) : EvQ (prog nb sa) m_RW_clear [.ref r] h (fun v h' => v = none ∧ RW h' r [] ∧ FrI r (r + 2) h h') := by
  obtain ⟨f, hr, ha, hB⟩ := hR
  refine EvQ_of k_RW_clear 1 [some (.ref r)] rfl (Nat.le_of_ble_eq_true rfl) rfl ?_
  refine Ex_mv rfl rfl ?_; refine Ex_mv rfl rfl ?_; refine Ex_putf rfl (by assumption) rfl rfl ?_
  refine Ex_rt rfl rfl ?_
  exact ⟨rfl, ⟨f, hs_at, hs_ne (by omega) ha, by simp, by simp, by simp⟩, FrI.rf.set (by omega) (by omega)⟩
theorem c_RW_push {r : Nat} {B : List Nat} (hR : RW h r B) {x : Int32} (hn : B.length < 400) : EvQ (prog nb sa) m_RW_push [.ref r, .int x] h (fun v h' => v = none ∧ RW h' r (B ++ [lowb x]) ∧ FrI r (r + 2) h h') := by
  obtain ⟨f, hr, ha, hB⟩ := hR
  have hr1 : ∀ c, (hset h (r + 1) c).2.2 r = _ := fun c => hs_ne (by omega) hr
  refine EvQ_of k_RW_push 2 [some (.ref r), some (.int x)] rfl (Nat.le_of_ble_eq_true rfl) rfl ?_
  refine Ex_mv rfl rfl ?_; refine Ex_getf rfl (by assumption) rfl ?_; refine Ex_mv rfl rfl ?_; refine Ex_lt0 (by omega) ?_; refine Ex_mv rfl rfl ?_; refine Ex_getf rfl (by assumption) rfl ?_; refine Ex_mv rfl rfl ?_; refine Ex_getf rfl (by assumption) rfl ?_; refine Ex_alen rfl (by assumption) rfl ?_; refine Ex_mv rfl rfl ?_; refine Ex_iff (nI_ge (by omega) (by decide)) ?_; refine Ex_mv rfl rfl ?_; refine Ex_getf rfl (by assumption) rfl ?_; refine Ex_mv rfl rfl ?_; refine Ex_getf rfl (by assumption) rfl ?_; refine Ex_mv rfl rfl ?_; refine Ex_mv rfl rfl ?_; refine Ex_bast rfl (by assumption) (vp_in_nI (by omega) (by decide)) ?_; refine Ex_mv rfl rfl ?_; refine Ex_mv rfl rfl ?_; refine Ex_getf rfl (hr1 _) rfl ?_; refine Ex_mv rfl rfl ?_; (first | refine Ex_addN rfl ?_ | refine Ex_mv rfl rfl ?_); refine Ex_putf rfl (hr1 _) rfl rfl ?_
  refine Ex_rt rfl rfl ?_
  refine ⟨rfl, ⟨_, ?_, hs_ne (by omega) hs_at, hB.push (lowb_lt x) hn (sb_low2 x)⟩, (FrI.rf.set (by omega) (by omega)).set (by omega) (by omega)⟩
  rw [List.length_append]
  exact hs_at
theorem c_RW_pushTwo {r : Nat} {B : List Nat} (hR : RW h r B) {v : Nat} (hv : v < 65536) (hn : B.length + 1 < 400) : EvQ (prog nb sa) m_RW_pushTwo [.ref r, .int (nI v)] h (fun v' h' => v' = none ∧ RW h' r (B ++ [v / 256, v % 256]) ∧ FrI r (r + 2) h h') := by
  obtain ⟨_, h1, e1, rfl, R1, F1⟩ := c_RW_push hR (nb := nb) (sa := sa) (x := nI (v / 256)) (by omega)
  obtain ⟨_, h2, e2, rfl, R2, F2⟩ := c_RW_push R1 (nb := nb) (sa := sa) (x := nI v) (by simp; omega)
  obtain ⟨f, hr, ha, hB⟩ := hR
  obtain ⟨f1, hr1, ha1, hB1⟩ := id R1
  rw [lowb_nI, lowb_nI, List.append_assoc, show v / 256 % 256 = v / 256 by omega] at R2
  refine EvQ_of k_RW_pushTwo 2 [some (.ref r), some (.int (nI v))] rfl (Nat.le_of_ble_eq_true rfl) rfl ?_
  refine Ex_mv rfl rfl ?_; refine Ex_mv rfl rfl ?_; refine Ex_mv rfl rfl ?_; refine Ex_ishr rfl ?_
  rw [shr8 (by omega)]
  refine Ex_invV rfl (by rfl) (by rfl) (by assumption) (by rfl) (e1) ?_; refine Ex_mv rfl rfl ?_; refine Ex_mv rfl rfl ?_; refine Ex_invV rfl (by rfl) (by rfl) (by assumption) (by rfl) (e2) ?_
  refine Ex_rt rfl rfl ?_
  exact ⟨rfl, R2, F1.tr F2⟩
theorem c_RW_putTwo {r : Nat} {B : List Nat} (hR : RW h r B) {k v : Nat} (hv : v < 65536) (hk : k + 1 < B.length) : EvQ (prog nb sa) m_RW_putTwo [.ref r, .int (nI k), .int (nI v)] h (fun v' h' => v' = none ∧ RW h' r ((B.set k (v / 256)).set (k + 1) (v % 256)) ∧ FrI r (r + 2) h h') := by
  obtain ⟨f, hr, ha, hB⟩ := id hR
  have hl := hB.1
  have hr1 : ∀ c, (hset h (r + 1) c).2.2 r = _ := fun c => hs_ne (by omega) hr
  refine EvQ_of k_RW_putTwo 3 [some (.ref r), some (.int (nI k)), some (.int (nI v))] rfl (Nat.le_of_ble_eq_true rfl) rfl ?_
  refine Ex_mv rfl rfl ?_; refine Ex_mv rfl rfl ?_; refine Ex_mv rfl rfl ?_; refine Ex_invV rfl (by rfl) (by rfl) (by assumption) (by rfl) (c_RW_has hR (by omega) (by omega)) ?_
  rw [if_pos (by omega)]
  refine Ex_mv rfl rfl ?_; refine Ex_iff (by decide) ?_; refine Ex_mv rfl rfl ?_; refine Ex_mv rfl rfl ?_; (first | refine Ex_addN rfl ?_ | refine Ex_mv rfl rfl ?_); refine Ex_mv rfl rfl ?_; refine Ex_getf rfl (by assumption) rfl ?_; refine Ex_alen rfl (by assumption) rfl ?_; refine Ex_mv rfl rfl ?_; refine Ex_iff (nI_ge (by omega) (by decide)) ?_; refine Ex_mv rfl rfl ?_; refine Ex_getf rfl (by assumption) rfl ?_; refine Ex_mv rfl rfl ?_; refine Ex_mv rfl rfl ?_; refine Ex_mv rfl rfl ?_; refine Ex_ishr rfl ?_
  rw [shr8 (by omega)]
  refine Ex_mv rfl rfl ?_; refine Ex_bast rfl (by assumption) (vp_in_nI (by omega) (by decide)) ?_; refine Ex_mv rfl rfl ?_; refine Ex_getf rfl (hr1 _) rfl ?_; refine Ex_mv rfl rfl ?_; refine Ex_mv rfl rfl ?_; (first | refine Ex_addN rfl ?_ | refine Ex_mv rfl rfl ?_); refine Ex_mv rfl rfl ?_; refine Ex_mv rfl rfl ?_; refine Ex_bast rfl hs_at (vp_in_nI (by omega) (by decide)) ?_
  refine Ex_rt rfl rfl ?_
  refine ⟨rfl, ⟨_, ?_, hs_at, (hB.set (c := v / 256) (by omega) (by omega) ?_).set (c := v % 256) (by omega) (by simp; omega) ?_⟩, (FrI.rf.set (by omega) (by omega)).set (by omega) (by omega)⟩
  · simp only [List.length_set]; exact hs_ne (by omega) (hs_ne (by omega) hr)
  · rw [sb_low2, lowb_nI, show v / 256 % 256 = v / 256 by omega]
  · rw [sb_low2, lowb_nI]
/-- a part of the bytes -/
def sl (B : List Nat) (k n : Nat) : List Nat := (B.drop k).take n
theorem sl_len {B : List Nat} {k n : Nat} (h : k + n ≤ B.length) : (sl B k n).length = n := by simp [sl]; omega
theorem sl_get {B : List Nat} {k n j : Nat} (hj : j < n) : (sl B k n).getD j 0 = B.getD (k + j) 0 := by
  simp only [sl, List.getD_eq_getElem?_getD, List.getElem?_take, List.getElem?_drop, hj, if_true]
theorem BR.app {f g : Nat → Int32} {A B : List Nat} (hA : BR f A) (hB : BR g B) {k n : Nat} (h1 : k + n ≤ A.length) (h2 : B.length + n ≤ 400) : BR (va_cpy f g (nI k).toNatClampNeg (nI B.length).toNatClampNeg (nI n).toNatClampNeg) (B ++ sl A k n) := by
  have := hA.1
  rw [nI_clamp (by omega), nI_clamp (by omega), nI_clamp (by omega)]
  refine ⟨by rw [List.length_append, sl_len h1]; omega, fun j hj => ?_, fun y hy => ?_⟩
  · rw [List.length_append, sl_len h1] at hj
    by_cases e : j < B.length
    · rw [pk_cpy_out (Or.inl e), List.getD_eq_getElem?_getD, List.getElem?_append_left e, ← List.getD_eq_getElem?_getD]
      exact hB.2.1 j e
    · rw [pk_cpy_in (by omega) (by omega), List.getD_eq_getElem?_getD, List.getElem?_append_right (by omega), ← List.getD_eq_getElem?_getD, sl_get (by omega)]
      exact hA.2.1 _ (by omega)
  · rcases List.mem_append.mp hy with h | h
    · exact hB.2.2 y h
    · exact hA.2.2 y (List.mem_of_mem_drop (List.mem_of_mem_take h))
theorem c_RW_append {r s : Nat} {A B : List Nat} (hR : RW h r B) (hS : RW h s A) (hd : s + 2 ≤ r ∨ r + 2 ≤ s) {k n : Nat} (hk : k + n ≤ A.length) (hn : B.length + n ≤ 400) : EvQ (prog nb sa) m_RW_append [.ref r, .ref s, .int (nI k), .int (nI n)] h (fun v h' => v = none ∧ RW h' r (B ++ sl A k n) ∧ FrI r (r + 2) h h') := by
  obtain ⟨f, hr, ha, hB⟩ := id hR
  obtain ⟨g, hs, hsa, hA⟩ := id hS
  have hl := hB.1
  have hl2 := hA.1
  have hr1 : ∀ c, (hset h (r + 1) c).2.2 r = _ := fun c => hs_ne (by omega) hr
  refine EvQ_of k_RW_append 4 [some (.ref r), some (.ref s), some (.int (nI k)), some (.int (nI n))] rfl (Nat.le_of_ble_eq_true rfl) rfl ?_
  refine Ex_mv rfl rfl ?_; refine Ex_mv rfl rfl ?_; refine Ex_mv rfl rfl ?_; refine Ex_invV rfl (by rfl) (by rfl) (by assumption) (by rfl) (c_RW_has hS (by omega) (by omega)) ?_
  rw [if_pos (by omega)]
  refine Ex_mv rfl rfl ?_; refine Ex_iff (by decide) ?_; refine Ex_mv rfl rfl ?_; refine Ex_mv rfl rfl ?_; refine Ex_getf rfl (by assumption) rfl ?_; refine Ex_alen rfl (by assumption) rfl ?_; refine Ex_mv rfl rfl ?_; refine Ex_getf rfl (by assumption) rfl ?_; (first | refine Ex_subN rfl (by omega) ?_ | refine Ex_mv rfl rfl ?_); refine Ex_mv rfl rfl ?_; refine Ex_iff (nI_nlt (by omega) (by omega)) ?_; refine Ex_mv rfl rfl ?_; refine Ex_getf rfl (by assumption) rfl ?_; refine Ex_mv rfl rfl ?_; refine Ex_mv rfl rfl ?_; refine Ex_getf rfl (by assumption) rfl ?_; refine Ex_mv rfl rfl ?_; refine Ex_getf rfl (by assumption) rfl ?_; refine Ex_mv rfl rfl ?_; refine Ex_acp rfl rfl hsa ha rfl (nI_pos (by omega)) (nI_pos (by omega)) (nI_pos (by omega)) (by rw [nI_clamp (by omega), nI_clamp (by omega)]; omega) (by rw [nI_clamp (by omega), nI_clamp (by omega)]; omega) ?_; refine Ex_mv rfl rfl ?_; refine Ex_mv rfl rfl ?_; refine Ex_getf rfl (hr1 _) rfl ?_; refine Ex_mv rfl rfl ?_; (first | refine Ex_addN rfl ?_ | refine Ex_mv rfl rfl ?_); refine Ex_putf rfl (hr1 _) rfl rfl ?_
  refine Ex_rt rfl rfl ?_
  refine ⟨rfl, ⟨_, ?_, hs_ne (by omega) hs_at, hA.app hB hk hn⟩, (FrI.rf.set (by omega) (by omega)).set (by omega) (by omega)⟩
  rw [List.length_append, sl_len hk]
  exact hs_at
theorem c_RW_take {r s : Nat} {A B : List Nat} (hR : RW h r B) (hS : RW h s A) (hd : s + 2 ≤ r ∨ r + 2 ≤ s) {k n : Nat} (hk : k + n ≤ A.length) : EvQ (prog nb sa) m_RW_take [.ref r, .ref s, .int (nI k), .int (nI n)] h (fun v h' => v = some (.int (nI n)) ∧ RW h' r (sl A k n) ∧ FrI r (r + 2) h h') := by
  obtain ⟨_, h1, e1, rfl, R1, F1⟩ := c_RW_clear hR (nb := nb) (sa := sa)
  obtain ⟨_, h2, e2, rfl, R2, F2⟩ := c_RW_append R1 (hS.fr F1 (by omega)) (nb := nb) (sa := sa) hd hk (by have := hS.len; simp; omega)
  obtain ⟨f, hr, ha, hB⟩ := hR
  obtain ⟨f1, hr1, ha1, hB1⟩ := id R1
  obtain ⟨f2, hr2, ha2, hB2⟩ := id R2
  rw [List.nil_append] at R2
  rw [List.nil_append, sl_len hk] at hr2
  refine EvQ_of k_RW_take 4 [some (.ref r), some (.ref s), some (.int (nI k)), some (.int (nI n))] rfl (Nat.le_of_ble_eq_true rfl) rfl ?_
  refine Ex_mv rfl rfl ?_; refine Ex_invV rfl (by rfl) (by rfl) (by assumption) (by rfl) (e1) ?_; refine Ex_mv rfl rfl ?_; refine Ex_mv rfl rfl ?_; refine Ex_mv rfl rfl ?_; refine Ex_mv rfl rfl ?_; refine Ex_invV rfl (by rfl) (by rfl) (by assumption) (by rfl) (e2) ?_; refine Ex_mv rfl rfl ?_; refine Ex_getf rfl (by assumption) rfl ?_
  refine Ex_rt rfl rfl ?_
  exact ⟨rfl, R2, F1.tr F2⟩
end ROW
end
section
/-! comparing -/
def c3 (a b : Nat) : Int32 := if a < b then -1 else if a = b then nI 0 else nI 1
def c3L (a b : Int64) : Int32 := if a < b then -1 else if a = b then nI 0 else nI 1
def cmpL : List Nat → List Nat → Int32
  | [], [] => nI 0
  | [], _ :: _ => -1
  | _ :: _, [] => nI 1
  | a :: x, b :: y => if a = b then cmpL x y else c3 a b
theorem c3_ne0 {a b : Nat} (h : a ≠ b) : ¬ c3 a b = 0 := by
  unfold c3
  rw [if_neg h]
  split <;> decide
theorem c3_self (a : Nat) : c3 a a = nI 0 := by simp [c3]
theorem cmpL_nil (n m : Nat) (A B : List Nat) (hA : A.length = n) (hB : B.length = m) (h : n = 0 ∨ m = 0) : cmpL A B = c3 n m := by
  match A, B with
  | [], [] => simp at hA hB; subst hA; subst hB; rfl
  | [], b :: B => simp at hA hB; subst hA; rw [← hB]; simp [cmpL, c3]
  | a :: A, [] => simp at hA hB; subst hB; rw [← hA]; simp [cmpL, c3]
  | a :: A, b :: B => simp at hA hB; omega
theorem c3_shift (n m k : Nat) : c3 (n + k) (m + k) = c3 n m := by
  unfold c3
  simp
theorem sl_cons {B : List Nat} {k n : Nat} (h : k + (n + 1) ≤ B.length) : sl B k (n + 1) = b1 B k :: sl B (k + 1) n := by
  unfold sl b1
  have hk : k < B.length := by omega
  rw [List.drop_eq_getElem_cons hk, List.take_succ_cons, List.getD_eq_getElem?_getD, List.getElem?_eq_getElem hk]
  rfl
theorem sl_nil {B : List Nat} {k : Nat} : sl B k 0 = [] := by simp [sl]
section ORD
variable {nb sa : Nat} {h : Hp}
theorem c_JI_compare {a b : Nat} (ha : a < 2 ^ 31) (hb : b < 2 ^ 31) : Ev (prog nb sa) m_JI_compare [.int (nI a), .int (nI b)] h (some (.int (c3 a b))) h := by
  refine Ev_ofL k_JI_compare 2 [some (.int (nI a)), some (.int (nI b))] rfl (Nat.le_of_ble_eq_true rfl) rfl ?_
  refine Ex_mv rfl rfl ?_; refine Ex_mv rfl rfl ?_; refine Ex_mv rfl rfl ?_; (first | refine Ex_leN (by omega) (by omega) (fun b2 => ?_) (fun b2 => ?_) | refine Ex_if (fun b2 => ?_) (fun b2 => ?_))
  · refine Ex_mv rfl rfl ?_; refine Ex_mv rfl rfl ?_; refine Ex_mv rfl rfl ?_; (first | refine Ex_neN (by omega) (by omega) (fun b11 => ?_) (fun b11 => ?_) | refine Ex_if (fun b11 => ?_) (fun b11 => ?_))
    · refine Ex_mv rfl rfl ?_
      refine Ex_rt rfl rfl ⟨?_, rfl⟩
      simp only [c3]
      first | (rw [if_pos (by omega)]; done) | (rw [if_neg (by omega), if_pos (by omega)]; done) | (rw [if_neg (by omega), if_neg (by omega)]; done)
    · refine Ex_mv rfl rfl ?_; refine Ex_mv rfl rfl ?_
      refine Ex_rt rfl rfl ⟨?_, rfl⟩
      simp only [c3]
      first | (rw [if_pos (by omega)]; done) | (rw [if_neg (by omega), if_pos (by omega)]; done) | (rw [if_neg (by omega), if_neg (by omega)]; done)
  · refine Ex_mv rfl rfl ?_; refine Ex_mv rfl rfl ?_
    refine Ex_rt rfl rfl ⟨?_, rfl⟩
    simp only [c3]
    first | (rw [if_pos (by omega)]; done) | (rw [if_neg (by omega), if_pos (by omega)]; done) | (rw [if_neg (by omega), if_neg (by omega)]; done)
theorem c_JL_compare {a b : Int64} : Ev (prog nb sa) m_JL_compare [.long a, .long b] h (some (.int (c3L a b))) h := by
  refine Ev_ofL k_JL_compare 4 [some (.long a), none, some (.long b), none] rfl (Nat.le_of_ble_eq_true rfl) rfl ?_
  by_cases h1 : a < b
  · have e : lg_cmp a b = -1 := by
      have h2 : ¬ b < a := fun q => Int64.lt_irrefl (Int64.lt_trans h1 q)
      have h3 : ¬ a = b := fun q => by subst q; exact Int64.lt_irrefl h1
      simp [lg_cmp, h2, h3]
    refine Ex_mv rfl rfl ?_; refine Ex_mv rfl rfl ?_; refine Ex_mv rfl rfl ?_
    rw [e]
    refine Ex_mv rfl rfl ?_; refine Ex_iff (by decide) ?_; refine Ex_mv rfl rfl ?_; refine Ex_mv rfl rfl ?_
    refine Ex_rt rfl rfl ⟨?_, rfl⟩
    rw [c3L, if_pos h1]
  · by_cases h2 : a = b
    · have e : lg_cmp a b = 0 := by subst h2; simp [lg_cmp, Int64.lt_irrefl]
      refine Ex_mv rfl rfl ?_; refine Ex_mv rfl rfl ?_; refine Ex_mv rfl rfl ?_
      rw [e]
      refine Ex_mv rfl rfl ?_; refine Ex_ift (by decide) ?_; refine Ex_mv rfl rfl ?_; refine Ex_mv rfl rfl ?_; refine Ex_mv rfl rfl ?_
      rw [e]
      refine Ex_mv rfl rfl ?_; refine Ex_iff (by decide) ?_; refine Ex_mv rfl rfl ?_; refine Ex_mv rfl rfl ?_
      refine Ex_rt rfl rfl ⟨?_, rfl⟩
      rw [c3L, if_neg h1, if_pos h2]
    · have h3 : b < a := by
        rcases Int64.le_total a b with q | q
        · exact absurd (Int64.lt_of_le_of_ne q h2) h1
        · exact Int64.lt_of_le_of_ne q (fun z => h2 z.symm)
      have e : lg_cmp a b = 1 := by simp [lg_cmp, h3]
      refine Ex_mv rfl rfl ?_; refine Ex_mv rfl rfl ?_; refine Ex_mv rfl rfl ?_
      rw [e]
      refine Ex_mv rfl rfl ?_; refine Ex_ift (by decide) ?_; refine Ex_mv rfl rfl ?_; refine Ex_mv rfl rfl ?_; refine Ex_mv rfl rfl ?_
      rw [e]
      refine Ex_mv rfl rfl ?_; refine Ex_ift (by decide) ?_; refine Ex_mv rfl rfl ?_
      refine Ex_rt rfl rfl ⟨?_, rfl⟩
      rw [c3L, if_neg h1, if_neg h2]
theorem c_JM_min {a b : Nat} (ha : a < 2 ^ 31) (hb : b < 2 ^ 31) : Ev (prog nb sa) m_JM_min [.int (nI a), .int (nI b)] h (some (.int (nI (min a b)))) h := by
  refine Ev_ofL k_JM_min 2 [some (.int (nI a)), some (.int (nI b))] rfl (Nat.le_of_ble_eq_true rfl) rfl ?_
  refine Ex_mv rfl rfl ?_; refine Ex_mv rfl rfl ?_; refine Ex_mv rfl rfl ?_; (first | refine Ex_ltN (by omega) (by omega) (fun b2 => ?_) (fun b2 => ?_) | refine Ex_if (fun b2 => ?_) (fun b2 => ?_))
  · refine Ex_mv rfl rfl ?_
    refine Ex_rt rfl rfl ⟨?_, rfl⟩
    first | (rw [Nat.min_eq_left (by omega)]; done) | (rw [Nat.min_eq_right (by omega)]; done)
  · refine Ex_mv rfl rfl ?_; refine Ex_mv rfl rfl ?_
    refine Ex_rt rfl rfl ⟨?_, rfl⟩
    first | (rw [Nat.min_eq_left (by omega)]; done) | (rw [Nat.min_eq_right (by omega)]; done)
theorem c_JM_max {a b : Nat} (ha : a < 2 ^ 31) (hb : b < 2 ^ 31) : Ev (prog nb sa) m_JM_max [.int (nI a), .int (nI b)] h (some (.int (nI (max a b)))) h := by
  refine Ev_ofL k_JM_max 2 [some (.int (nI a)), some (.int (nI b))] rfl (Nat.le_of_ble_eq_true rfl) rfl ?_
  refine Ex_mv rfl rfl ?_; refine Ex_mv rfl rfl ?_; refine Ex_mv rfl rfl ?_; (first | refine Ex_ltN (by omega) (by omega) (fun b2 => ?_) (fun b2 => ?_) | refine Ex_if (fun b2 => ?_) (fun b2 => ?_))
  · refine Ex_mv rfl rfl ?_
    refine Ex_rt rfl rfl ⟨?_, rfl⟩
    first | (rw [Nat.max_eq_left (by omega)]; done) | (rw [Nat.max_eq_right (by omega)]; done)
  · refine Ex_mv rfl rfl ?_; refine Ex_mv rfl rfl ?_
    refine Ex_rt rfl rfl ⟨?_, rfl⟩
    first | (rw [Nat.max_eq_left (by omega)]; done) | (rw [Nat.max_eq_right (by omega)]; done)
theorem sl_len₀ {B : List Nat} {k n : Nat} (h : n = 0 ∨ k + n ≤ B.length) : (sl B k n).length = n := by
  rcases h with rfl | h
  · simp [sl]
  · exact sl_len h
theorem RW_order_loop {r s a n b m : Nat} {A B : List Nat} (hR : RW h r A) (hS : RW h s B) (ha : n = 0 ∨ a + n ≤ A.length) (hb : m = 0 ∨ b + m ≤ B.length) (ha2 : a < 2 ^ 30) (hb2 : b < 2 ^ 30) : ∀ (d i : Nat) (x8 : Option Value), i + d = min n m → Ex (prog nb sa) k_RW_order 11 [some (.ref r), some (.int (nI a)), some (.int (nI n)), some (.ref s), some (.int (nI b)), some (.int (nI m)), some (.int (nI (min n m))), some (.int (nI i)), x8] [] h (fun v h' => v = some (.int (cmpL (sl A (a + i) (n - i)) (sl B (b + i) (m - i)))) ∧ h' = h)
  | 0, i, x8, hd => by
    have hl := hR.len
    have hl2 := hS.len
    have hm : min n m ≤ n ∧ min n m ≤ m := ⟨Nat.min_le_left _ _, Nat.min_le_right _ _⟩
    have hm2 : min n m = n ∨ min n m = m := by omega
    refine Ex_mv rfl rfl ?_; refine Ex_mv rfl rfl ?_; refine Ex_mv rfl rfl ?_; refine Ex_ift (nI_le (by omega) (by omega)) ?_; refine Ex_mv rfl rfl ?_; refine Ex_mv rfl rfl ?_; refine Ex_inv rfl (by rfl) (by rfl) (by rfl) (c_JI_compare (by omega) (by omega)) ?_
    refine Ex_rt rfl rfl ⟨?_, rfl⟩
    rw [cmpL_nil (n - i) (m - i) _ _ (sl_len₀ (by omega)) (sl_len₀ (by omega)) (by omega), ← c3_shift (n - i) (m - i) i, Nat.sub_add_cancel (by omega), Nat.sub_add_cancel (by omega)]
  | d + 1, i, x8, hd => by
    have hl := hR.len
    have hl2 := hS.len
    obtain ⟨f, hr, hra, hB⟩ := id hR
    obtain ⟨g, hs, hsa, hA⟩ := id hS
    have hm : min n m ≤ n ∧ min n m ≤ m := ⟨Nat.min_le_left _ _, Nat.min_le_right _ _⟩
    have hx1 := b1_lt hR.lt (a + i)
    have hx2 := b1_lt hS.lt (b + i)
    have e1 : sl A (a + i) (n - i) = b1 A (a + i) :: sl A (a + (i + 1)) (n - (i + 1)) := by
      rw [show n - i = (n - (i + 1)) + 1 by omega, sl_cons (by omega)]
      rfl
    have e2 : sl B (b + i) (m - i) = b1 B (b + i) :: sl B (b + (i + 1)) (m - (i + 1)) := by
      rw [show m - i = (m - (i + 1)) + 1 by omega, sl_cons (by omega)]
      rfl
    rw [e1, e2, cmpL]
    by_cases e : b1 A (a + i) = b1 B (b + i)
    · rw [if_pos e]
      refine Ex_mv rfl rfl ?_; refine Ex_mv rfl rfl ?_; refine Ex_mv rfl rfl ?_; refine Ex_iff (nI_ge (by omega) (by omega)) ?_; refine Ex_mv rfl rfl ?_; refine Ex_mv rfl rfl ?_; refine Ex_mv rfl rfl ?_; (first | refine Ex_addN rfl ?_ | refine Ex_mv rfl rfl ?_); refine Ex_invV rfl (by rfl) (by rfl) (by assumption) (by rfl) (c_RW_one hR (by omega)) ?_; refine Ex_mv rfl rfl ?_; refine Ex_mv rfl rfl ?_; refine Ex_mv rfl rfl ?_; (first | refine Ex_addN rfl ?_ | refine Ex_mv rfl rfl ?_); refine Ex_invV rfl (by rfl) (by rfl) (by assumption) (by rfl) (c_RW_one hS (by omega)) ?_; refine Ex_inv rfl (by rfl) (by rfl) (by rfl) (c_JI_compare (by omega) (by omega)) ?_; refine Ex_mv rfl rfl ?_
      rw [e, c3_self]
      refine Ex_mv rfl rfl ?_; refine Ex_mv rfl rfl ?_; refine Ex_ift rfl ?_; (first | refine Ex_incN rfl rfl ?_ | refine Ex_mv rfl rfl ?_); refine Ex_mv rfl rfl ?_
      exact RW_order_loop hR hS ha hb ha2 hb2 d (i + 1) _ (by omega)
    · rw [if_neg e]
      refine Ex_mv rfl rfl ?_; refine Ex_mv rfl rfl ?_; refine Ex_mv rfl rfl ?_; refine Ex_iff (nI_ge (by omega) (by omega)) ?_; refine Ex_mv rfl rfl ?_; refine Ex_mv rfl rfl ?_; refine Ex_mv rfl rfl ?_; (first | refine Ex_addN rfl ?_ | refine Ex_mv rfl rfl ?_); refine Ex_invV rfl (by rfl) (by rfl) (by assumption) (by rfl) (c_RW_one hR (by omega)) ?_; refine Ex_mv rfl rfl ?_; refine Ex_mv rfl rfl ?_; refine Ex_mv rfl rfl ?_; (first | refine Ex_addN rfl ?_ | refine Ex_mv rfl rfl ?_); refine Ex_invV rfl (by rfl) (by rfl) (by assumption) (by rfl) (c_RW_one hS (by omega)) ?_; refine Ex_inv rfl (by rfl) (by rfl) (by rfl) (c_JI_compare (by omega) (by omega)) ?_; refine Ex_mv rfl rfl ?_; refine Ex_mv rfl rfl ?_; refine Ex_mv rfl rfl ?_; refine Ex_iff (c3_ne0 e) ?_; refine Ex_mv rfl rfl ?_
      exact Ex_rt rfl rfl ⟨rfl, rfl⟩
theorem c_RW_order {r s a n b m : Nat} {A B : List Nat} (hR : RW h r A) (hS : RW h s B) (ha : n = 0 ∨ a + n ≤ A.length) (hb : m = 0 ∨ b + m ≤ B.length) (ha2 : a < 2 ^ 30) (hb2 : b < 2 ^ 30) : Ev (prog nb sa) m_RW_order [.ref r, .int (nI a), .int (nI n), .ref s, .int (nI b), .int (nI m)] h (some (.int (cmpL (sl A a n) (sl B b m)))) h := by
  have hl := hR.len
  have hl2 := hS.len
  refine Ev_ofL k_RW_order 9 [some (.ref r), some (.int (nI a)), some (.int (nI n)), some (.ref s), some (.int (nI b)), some (.int (nI m)), none, none, none] rfl (Nat.le_of_ble_eq_true rfl) rfl ?_
  refine Ex_mv rfl rfl ?_; refine Ex_mv rfl rfl ?_; refine Ex_inv rfl (by rfl) (by rfl) (by rfl) (c_JM_min (by omega) (by omega)) ?_; refine Ex_mv rfl rfl ?_; refine Ex_mv rfl rfl ?_; refine Ex_mv rfl rfl ?_
  exact RW_order_loop hR hS ha hb ha2 hb2 (min n m) 0 _ (by omega)
/-- Arrays.fill of ints -/
theorem JA_fill_loop {a n : Nat} {x : Int32} (hn : n < 2 ^ 31) : ∀ (d i : Nat) (f : Nat → Int32) (h : Hp), i + d = n → h.2.2 a = some (true, .inl (1, n, .inl f)) → Ex (prog nb sa) k_JA_fill 5 [some (.ref a), some (.int x), some (.int (nI i)), some (.int (nI n))] [] h (fun v h' => v = none ∧ (∃ g, h'.2.2 a = some (true, .inl (1, n, .inl g)) ∧ (∀ j, j < i → g j = f j) ∧ ∀ j, i ≤ j → j < n → g j = x) ∧ FrI a (a + 1) h h')
  | 0, i, f, h, hd, hM => by
    refine Ex_mv rfl rfl ?_; refine Ex_mv rfl rfl ?_; refine Ex_mv rfl rfl ?_; refine Ex_ift (nI_le (by omega) (by omega)) ?_
    refine Ex_rt rfl rfl ?_
    exact ⟨rfl, ⟨f, hM, fun _ _ => rfl, fun j h1 h2 => by omega⟩, FrI.rf⟩
  | d + 1, i, f, h, hd, hM => by
    have e : (nI i).toNatClampNeg = i := nI_clamp (by omega)
    refine Ex_mv rfl rfl ?_; refine Ex_mv rfl rfl ?_; refine Ex_mv rfl rfl ?_; refine Ex_iff (nI_ge (by omega) (by omega)) ?_; refine Ex_mv rfl rfl ?_; refine Ex_mv rfl rfl ?_; refine Ex_mv rfl rfl ?_; refine Ex_iast rfl (by assumption) (vp_in_nI (by omega) (by omega)) ?_; (first | refine Ex_incN rfl rfl ?_ | refine Ex_mv rfl rfl ?_); refine Ex_mv rfl rfl ?_
    refine Ex_mono (JA_fill_loop hn d (i + 1) _ _ (by omega) hs_at) ?_
    rintro v h' ⟨hv, ⟨g, g1, g2, g3⟩, F⟩
    refine ⟨hv, ⟨g, g1, fun j hj => ?_, fun j h1 h2 => ?_⟩, (FrI.rf.set (by omega) (by omega)).tr F⟩
    · rw [g2 j (by omega), e, pk_un (by omega)]
    · by_cases hj : j = i
      · rw [g2 j (by omega), e, hj, pk_us]
      · exact g3 j (by omega) h2
theorem c_JA_fill {a n : Nat} {f : Nat → Int32} {x : Int32} (hn : n < 2 ^ 31) (hM : h.2.2 a = some (true, .inl (1, n, .inl f))) : EvQ (prog nb sa) m_JA_fill [.ref a, .int x] h (fun v h' => v = none ∧ (∃ g, h'.2.2 a = some (true, .inl (1, n, .inl g)) ∧ ∀ j, j < n → g j = x) ∧ FrI a (a + 1) h h') := by
  refine EvQ_of k_JA_fill 4 [some (.ref a), some (.int x), none, none] rfl (Nat.le_of_ble_eq_true rfl) rfl ?_
  refine Ex_mv rfl rfl ?_; refine Ex_mv rfl rfl ?_; refine Ex_mv rfl rfl ?_; refine Ex_alen rfl (by assumption) rfl ?_; refine Ex_mv rfl rfl ?_
  refine Ex_mono (JA_fill_loop hn n 0 f h (by omega) hM) ?_
  rintro v h' ⟨hv, ⟨g, g1, g2, g3⟩, F⟩
  exact ⟨hv, ⟨g, g1, fun j hj => g3 j (by omega) hj⟩, F⟩
end ORD
end
section
/-! Pool: places, tags, what they lead to -/
/-- where the entry of a place begins (0: empty), its tag, a TWO of it -/
def st (S : Nat → Nat) (n i : Nat) : Nat := if i < n then S i else 0
def tg (B : List Nat) (S : Nat → Nat) (n i : Nat) : Nat := if st S n i = 0 then 0 else b1 B (st S n i)
def tw (B : List Nat) (S : Nat → Nat) (n i k : Nat) : Nat := if st S n i = 0 then 0 else b2 B (st S n i + k)
def tz (B : List Nat) (S : Nat → Nat) (n i : Nat) : Nat := if tg B S n i = 1 then tw B S n i 1 else 0
/-- the bytes of a TEXT -/
def tx (B : List Nat) (S : Nat → Nat) (n i : Nat) : List Nat := sl B (st S n i + 3) (tz B S n i)
def bt64 (hi lo : Int32) : Int64 := (hi.toInt64 <<< ((nI 32).toInt64 &&& 63)) ||| (lo.toInt64 &&& 4294967295)
def bts (B : List Nat) (S : Nat → Nat) (n i : Nat) : Int64 := if 3 ≤ tg B S n i ∧ tg B S n i ≤ 6 then (if 5 ≤ tg B S n i then bt64 (nI (b4 B (st S n i + 1))) (nI (b4 B (st S n i + 5))) else (nI (b4 B (st S n i + 1))).toInt64) else 0
/-- the place of a TEXT to which a place leads -/
def tof (B : List Nat) (S : Nat → Nat) (n i k : Nat) : Nat :=
  if tg B S n i = 1 then i
  else if tg B S n i = 7 ∨ tg B S n i = 8 then tw B S n i 1
  else if tg B S n i = 12 then tw B S n i (if k = 0 then 1 else 3)
  else if 9 ≤ tg B S n i ∧ tg B S n i ≤ 11 then (if k = 0 then tw B S n (tw B S n i 1) 1 else tw B S n (tw B S n i 3) (if k = 1 then 1 else 3))
  else 0
/-- a pool: its object, its row just behind it, its starts behind that -/
def PO (h : Hp) (p : Nat) (B : List Nat) (S : Nat → Nat) (n : Nat) : Prop := h.2.2 p = some (true, .inr (1, [.ref (p + 1), .ref (p + 3), .int (nI n)])) ∧ RW h (p + 1) B ∧ (∃ g, h.2.2 (p + 3) = some (true, .inl (1, 61, .inl g)) ∧ ∀ j, j < 61 → g j = nI (S j)) ∧ n ≤ 61 ∧ ∀ j, S j ≤ 400
theorem PO.fr {h h' : Hp} {p lo hi n : Nat} {B : List Nat} {S : Nat → Nat} (h1 : PO h p B S n) (f : FrI lo hi h h') (hq : p + 4 ≤ lo ∨ hi ≤ p) : PO h' p B S n := by
  obtain ⟨a, b, ⟨g, c, d⟩, e, k⟩ := h1
  exact ⟨f.at a (by omega), b.fr f (by omega), ⟨g, f.at c (by omega), d⟩, e, k⟩
theorem st_le {S : Nat → Nat} {n : Nat} (hS : ∀ j, S j ≤ 400) (i : Nat) : st S n i ≤ 400 := by
  unfold st
  split
  · exact hS i
  · omega
section POOL
variable {nb sa : Nat} {h : Hp} {p n : Nat} {B : List Nat} {S : Nat → Nat}
theorem tg_lt (hB : ∀ x ∈ B, x < 256) (i : Nat) : tg B S n i < 256 := by
  unfold tg
  split
  · decide
  · exact b1_lt hB _
theorem tw_lt (hB : ∀ x ∈ B, x < 256) (i k : Nat) : tw B S n i k < 65536 := by
  unfold tw
  split
  · decide
  · exact b2_lt hB _
theorem tz_lt (hB : ∀ x ∈ B, x < 256) (i : Nat) : tz B S n i < 65536 := by
  unfold tz
  split
  · exact tw_lt hB _ _
  · decide
theorem tof_lt (hB : ∀ x ∈ B, x < 256) {i : Nat} (hi : i < 2 ^ 30) (k : Nat) : tof B S n i k < 2 ^ 30 := by
  have h1 : ∀ a b, tw B S n a b < 2 ^ 30 := fun a b => Nat.lt_trans (tw_lt hB a b) (by decide)
  unfold tof
  repeat' split
  all_goals first | exact hi | exact h1 _ _ | decide
theorem c_PL_places (hP : PO h p B S n) : Ev (prog nb sa) m_PL_places [.ref p] h (some (.int (nI n))) h := by
  obtain ⟨hp, hR, ⟨g, hg, hgS⟩, hn, hS⟩ := id hP
  refine Ev_ofL k_PL_places 1 [some (.ref p)] rfl (Nat.le_of_ble_eq_true rfl) rfl ?_
  refine Ex_mv rfl rfl ?_; refine Ex_getf rfl (by assumption) rfl ?_
  exact Ex_rt rfl rfl ⟨rfl, rfl⟩
theorem c_PL_has (hP : PO h p B S n) {i : Nat} (hi : i < 2 ^ 31) : Ev (prog nb sa) m_PL_has [.ref p, .int (nI i)] h (some (.int (nI (if i < n then 1 else 0)))) h := by
  obtain ⟨hp, hR, ⟨g, hg, hgS⟩, hn, hS⟩ := id hP
  refine Ev_ofL k_PL_has 2 [some (.ref p), some (.int (nI i))] rfl (Nat.le_of_ble_eq_true rfl) rfl ?_
  refine Ex_mv rfl rfl ?_; refine Ex_mv rfl rfl ?_; refine Ex_lt0 (by omega) ?_; refine Ex_mv rfl rfl ?_; refine Ex_mv rfl rfl ?_; refine Ex_getf rfl (by assumption) rfl ?_; refine Ex_mv rfl rfl ?_; (first | refine Ex_leN (by omega) (by omega) (fun b9 => ?_) (fun b9 => ?_) | refine Ex_if (fun b9 => ?_) (fun b9 => ?_))
  · refine Ex_mv rfl rfl ?_
    refine Ex_rt rfl rfl ⟨?_, rfl⟩
    first | (rw [if_pos (by omega)]; done) | (rw [if_neg (by omega)]; done) | (exfalso; omega)
  · refine Ex_mv rfl rfl ?_; refine Ex_mv rfl rfl ?_; refine Ex_getf rfl (by assumption) rfl ?_; refine Ex_alen rfl (by assumption) rfl ?_; refine Ex_mv rfl rfl ?_; (first | refine Ex_leN (by omega) (by omega) (fun b18 => ?_) (fun b18 => ?_) | refine Ex_if (fun b18 => ?_) (fun b18 => ?_))
    · refine Ex_mv rfl rfl ?_
      refine Ex_rt rfl rfl ⟨?_, rfl⟩
      first | (rw [if_pos (by omega)]; done) | (rw [if_neg (by omega)]; done) | (exfalso; omega)
    · refine Ex_mv rfl rfl ?_; refine Ex_mv rfl rfl ?_
      refine Ex_rt rfl rfl ⟨?_, rfl⟩
      first | (rw [if_pos (by omega)]; done) | (rw [if_neg (by omega)]; done) | (exfalso; omega)
theorem c_PL_hasN (hP : PO h p B S n) {i : Int32} (hi : i < 0) : Ev (prog nb sa) m_PL_has [.ref p, .int i] h (some (.int (nI 0))) h := by
  obtain ⟨hp, hR, ⟨g, hg, hgS⟩, hn, hS⟩ := id hP
  refine Ev_ofL k_PL_has 2 [some (.ref p), some (.int i)] rfl (Nat.le_of_ble_eq_true rfl) rfl ?_
  refine Ex_mv rfl rfl ?_; refine Ex_mv rfl rfl ?_; refine Ex_ift hi ?_; refine Ex_mv rfl rfl ?_
  exact Ex_rt rfl rfl ⟨rfl, rfl⟩
theorem c_PL_start (hP : PO h p B S n) {i : Nat} (hi : i < 2 ^ 31) : Ev (prog nb sa) m_PL_start [.ref p, .int (nI i)] h (some (.int (nI (st S n i)))) h := by
  obtain ⟨hp, hR, ⟨g, hg, hgS⟩, hn, hS⟩ := id hP
  refine Ev_ofL k_PL_start 2 [some (.ref p), some (.int (nI i))] rfl (Nat.le_of_ble_eq_true rfl) rfl ?_
  refine Ex_mv rfl rfl ?_; refine Ex_mv rfl rfl ?_; refine Ex_lt0 (by omega) ?_; refine Ex_mv rfl rfl ?_; refine Ex_mv rfl rfl ?_; refine Ex_getf rfl (by assumption) rfl ?_; refine Ex_mv rfl rfl ?_; (first | refine Ex_leN (by omega) (by omega) (fun b9 => ?_) (fun b9 => ?_) | refine Ex_if (fun b9 => ?_) (fun b9 => ?_))
  · refine Ex_mv rfl rfl ?_
    refine Ex_rt rfl rfl ⟨?_, rfl⟩
    first | (rw [nI_clamp (by omega), hgS i (by omega), st, if_pos (by omega)]; done) | (rw [st, if_neg (by omega)]; done) | (exfalso; omega)
  · refine Ex_mv rfl rfl ?_; refine Ex_mv rfl rfl ?_; refine Ex_getf rfl (by assumption) rfl ?_; refine Ex_alen rfl (by assumption) rfl ?_; refine Ex_mv rfl rfl ?_; (first | refine Ex_leN (by omega) (by omega) (fun b18 => ?_) (fun b18 => ?_) | refine Ex_if (fun b18 => ?_) (fun b18 => ?_))
    · refine Ex_mv rfl rfl ?_
      refine Ex_rt rfl rfl ⟨?_, rfl⟩
      first | (rw [nI_clamp (by omega), hgS i (by omega), st, if_pos (by omega)]; done) | (rw [st, if_neg (by omega)]; done) | (exfalso; omega)
    · refine Ex_mv rfl rfl ?_; refine Ex_getf rfl (by assumption) rfl ?_; refine Ex_mv rfl rfl ?_; refine Ex_iald rfl (by assumption) (vp_in_nI (by omega) (by decide)) ?_; refine Ex_mv rfl rfl ?_
      refine Ex_rt rfl rfl ⟨?_, rfl⟩
      first | (rw [nI_clamp (by omega), hgS i (by omega), st, if_pos (by omega)]; done) | (rw [st, if_neg (by omega)]; done) | (exfalso; omega)
theorem c_PL_startN (hP : PO h p B S n) {i : Int32} (hi : i < 0) : Ev (prog nb sa) m_PL_start [.ref p, .int i] h (some (.int (nI 0))) h := by
  obtain ⟨hp, hR, ⟨g, hg, hgS⟩, hn, hS⟩ := id hP
  refine Ev_ofL k_PL_start 2 [some (.ref p), some (.int i)] rfl (Nat.le_of_ble_eq_true rfl) rfl ?_
  refine Ex_mv rfl rfl ?_; refine Ex_mv rfl rfl ?_; refine Ex_ift hi ?_; refine Ex_mv rfl rfl ?_
  exact Ex_rt rfl rfl ⟨rfl, rfl⟩
theorem c_PL_tag (hP : PO h p B S n) {i : Nat} (hi : i < 2 ^ 31) : Ev (prog nb sa) m_PL_tag [.ref p, .int (nI i)] h (some (.int (nI (tg B S n i)))) h := by
  obtain ⟨hp, hR, ⟨g, hg, hgS⟩, hn, hS⟩ := id hP
  obtain ⟨f, hr, ha, hB⟩ := id hR
  have hst := st_le (n := n) hS i
  refine Ev_ofL k_PL_tag 3 [some (.ref p), some (.int (nI i)), none] rfl (Nat.le_of_ble_eq_true rfl) rfl ?_
  refine Ex_mv rfl rfl ?_; refine Ex_mv rfl rfl ?_; refine Ex_invV rfl (by rfl) (by rfl) (by assumption) (by rfl) (c_PL_start hP hi) ?_; refine Ex_mv rfl rfl ?_; refine Ex_mv rfl rfl ?_; refine Ex_mv rfl rfl ?_; (first | refine Ex_ne0 (by omega) (fun b7 => ?_) (fun b7 => ?_) | refine Ex_if (fun b7 => ?_) (fun b7 => ?_))
  · refine Ex_mv rfl rfl ?_; refine Ex_getf rfl (by assumption) rfl ?_; refine Ex_mv rfl rfl ?_; refine Ex_invV rfl (by rfl) (by rfl) (by assumption) (by rfl) (c_RW_one hR (by omega)) ?_
    refine Ex_rt rfl rfl ⟨?_, rfl⟩
    first | (rw [tg, if_neg (by omega)]; done) | (rw [tg, if_pos (by omega)]; done)
  · refine Ex_mv rfl rfl ?_; refine Ex_mv rfl rfl ?_
    refine Ex_rt rfl rfl ⟨?_, rfl⟩
    first | (rw [tg, if_neg (by omega)]; done) | (rw [tg, if_pos (by omega)]; done)
theorem c_PL_tagN (hP : PO h p B S n) {i : Int32} (hi : i < 0) : Ev (prog nb sa) m_PL_tag [.ref p, .int i] h (some (.int (nI 0))) h := by
  obtain ⟨hp, hR, ⟨g, hg, hgS⟩, hn, hS⟩ := id hP
  refine Ev_ofL k_PL_tag 3 [some (.ref p), some (.int i), none] rfl (Nat.le_of_ble_eq_true rfl) rfl ?_
  refine Ex_mv rfl rfl ?_; refine Ex_mv rfl rfl ?_; refine Ex_invV rfl (by rfl) (by rfl) (by assumption) (by rfl) (c_PL_startN hP hi) ?_; refine Ex_mv rfl rfl ?_; refine Ex_mv rfl rfl ?_; refine Ex_mv rfl rfl ?_; refine Ex_iff (by decide) ?_; refine Ex_mv rfl rfl ?_; refine Ex_mv rfl rfl ?_
  exact Ex_rt rfl rfl ⟨rfl, rfl⟩
theorem c_PL_twoOf (hP : PO h p B S n) {i k : Nat} (hi : i < 2 ^ 31) (hk : k < 2 ^ 20) : Ev (prog nb sa) m_PL_twoOf [.ref p, .int (nI i), .int (nI k)] h (some (.int (nI (tw B S n i k)))) h := by
  obtain ⟨hp, hR, ⟨g, hg, hgS⟩, hn, hS⟩ := id hP
  obtain ⟨f, hr, ha, hB⟩ := id hR
  have hst := st_le (n := n) hS i
  refine Ev_ofL k_PL_twoOf 4 [some (.ref p), some (.int (nI i)), some (.int (nI k)), none] rfl (Nat.le_of_ble_eq_true rfl) rfl ?_
  refine Ex_mv rfl rfl ?_; refine Ex_mv rfl rfl ?_; refine Ex_invV rfl (by rfl) (by rfl) (by assumption) (by rfl) (c_PL_start hP hi) ?_; refine Ex_mv rfl rfl ?_; refine Ex_mv rfl rfl ?_; refine Ex_mv rfl rfl ?_; (first | refine Ex_ne0 (by omega) (fun b7 => ?_) (fun b7 => ?_) | refine Ex_if (fun b7 => ?_) (fun b7 => ?_))
  · refine Ex_mv rfl rfl ?_; refine Ex_getf rfl (by assumption) rfl ?_; refine Ex_mv rfl rfl ?_; refine Ex_mv rfl rfl ?_; (first | refine Ex_addN rfl ?_ | refine Ex_mv rfl rfl ?_); refine Ex_invV rfl (by rfl) (by rfl) (by assumption) (by rfl) (c_RW_two hR (by omega)) ?_
    refine Ex_rt rfl rfl ⟨?_, rfl⟩
    first | (rw [tw, if_neg (by omega)]; done) | (rw [tw, if_pos (by omega)]; done)
  · refine Ex_mv rfl rfl ?_; refine Ex_mv rfl rfl ?_
    refine Ex_rt rfl rfl ⟨?_, rfl⟩
    first | (rw [tw, if_neg (by omega)]; done) | (rw [tw, if_pos (by omega)]; done)
/-- the first, the second place that an entry tells -/
def fst1 (B : List Nat) (S : Nat → Nat) (n i : Nat) : Nat := if 7 ≤ tg B S n i then tw B S n i 1 else 0
def snd1 (B : List Nat) (S : Nat → Nat) (n i : Nat) : Nat := if 9 ≤ tg B S n i then tw B S n i 3 else 0
theorem c_PL_first (hP : PO h p B S n) {i : Nat} (hi : i < 2 ^ 31) : Ev (prog nb sa) m_PL_first [.ref p, .int (nI i)] h (some (.int (nI (fst1 B S n i)))) h := by
  obtain ⟨hp, hR, ⟨g, hg, hgS⟩, hn, hS⟩ := id hP
  have ht := tg_lt (S := S) (n := n) hR.lt i
  refine Ev_ofL k_PL_first 2 [some (.ref p), some (.int (nI i))] rfl (Nat.le_of_ble_eq_true rfl) rfl ?_
  refine Ex_mv rfl rfl ?_; refine Ex_mv rfl rfl ?_; refine Ex_invV rfl (by rfl) (by rfl) (by assumption) (by rfl) (c_PL_tag hP hi) ?_; refine Ex_mv rfl rfl ?_; refine Ex_mv rfl rfl ?_; (first | refine Ex_ltN (by omega) (by omega) (fun b7 => ?_) (fun b7 => ?_) | refine Ex_if (fun b7 => ?_) (fun b7 => ?_))
  · refine Ex_mv rfl rfl ?_
    refine Ex_rt rfl rfl ⟨?_, rfl⟩
    first | (rw [fst1, if_neg (by omega)]; done) | (rw [fst1, if_pos (by omega)]; done)
  · refine Ex_mv rfl rfl ?_; refine Ex_mv rfl rfl ?_; refine Ex_mv rfl rfl ?_; refine Ex_invV rfl (by rfl) (by rfl) (by assumption) (by rfl) (c_PL_twoOf hP hi (by decide)) ?_; refine Ex_mv rfl rfl ?_
    refine Ex_rt rfl rfl ⟨?_, rfl⟩
    first | (rw [fst1, if_neg (by omega)]; done) | (rw [fst1, if_pos (by omega)]; done)
theorem c_PL_second (hP : PO h p B S n) {i : Nat} (hi : i < 2 ^ 31) : Ev (prog nb sa) m_PL_second [.ref p, .int (nI i)] h (some (.int (nI (snd1 B S n i)))) h := by
  obtain ⟨hp, hR, ⟨g, hg, hgS⟩, hn, hS⟩ := id hP
  have ht := tg_lt (S := S) (n := n) hR.lt i
  refine Ev_ofL k_PL_second 2 [some (.ref p), some (.int (nI i))] rfl (Nat.le_of_ble_eq_true rfl) rfl ?_
  refine Ex_mv rfl rfl ?_; refine Ex_mv rfl rfl ?_; refine Ex_invV rfl (by rfl) (by rfl) (by assumption) (by rfl) (c_PL_tag hP hi) ?_; refine Ex_mv rfl rfl ?_; refine Ex_mv rfl rfl ?_; (first | refine Ex_ltN (by omega) (by omega) (fun b7 => ?_) (fun b7 => ?_) | refine Ex_if (fun b7 => ?_) (fun b7 => ?_))
  · refine Ex_mv rfl rfl ?_
    refine Ex_rt rfl rfl ⟨?_, rfl⟩
    first | (rw [snd1, if_neg (by omega)]; done) | (rw [snd1, if_pos (by omega)]; done)
  · refine Ex_mv rfl rfl ?_; refine Ex_mv rfl rfl ?_; refine Ex_mv rfl rfl ?_; refine Ex_invV rfl (by rfl) (by rfl) (by assumption) (by rfl) (c_PL_twoOf hP hi (by decide)) ?_; refine Ex_mv rfl rfl ?_
    refine Ex_rt rfl rfl ⟨?_, rfl⟩
    first | (rw [snd1, if_neg (by omega)]; done) | (rw [snd1, if_pos (by omega)]; done)
theorem c_PL_textAt (hP : PO h p B S n) {i : Nat} (hi : i < 2 ^ 31) : Ev (prog nb sa) m_PL_textAt [.ref p, .int (nI i)] h (some (.int (nI (st S n i + 3)))) h := by
  obtain ⟨hp, hR, ⟨g, hg, hgS⟩, hn, hS⟩ := id hP
  refine Ev_ofL k_PL_textAt 2 [some (.ref p), some (.int (nI i))] rfl (Nat.le_of_ble_eq_true rfl) rfl ?_
  refine Ex_mv rfl rfl ?_; refine Ex_mv rfl rfl ?_; refine Ex_invV rfl (by rfl) (by rfl) (by assumption) (by rfl) (c_PL_start hP hi) ?_; refine Ex_mv rfl rfl ?_; (first | refine Ex_addN rfl ?_ | refine Ex_mv rfl rfl ?_)
  exact Ex_rt rfl rfl ⟨rfl, rfl⟩
theorem c_PL_textSize (hP : PO h p B S n) {i : Nat} (hi : i < 2 ^ 31) : Ev (prog nb sa) m_PL_textSize [.ref p, .int (nI i)] h (some (.int (nI (tz B S n i)))) h := by
  obtain ⟨hp, hR, ⟨g, hg, hgS⟩, hn, hS⟩ := id hP
  have ht := tg_lt (S := S) (n := n) hR.lt i
  refine Ev_ofL k_PL_textSize 2 [some (.ref p), some (.int (nI i))] rfl (Nat.le_of_ble_eq_true rfl) rfl ?_
  refine Ex_mv rfl rfl ?_; refine Ex_mv rfl rfl ?_; refine Ex_invV rfl (by rfl) (by rfl) (by assumption) (by rfl) (c_PL_tag hP hi) ?_; refine Ex_mv rfl rfl ?_; refine Ex_mv rfl rfl ?_; (first | refine Ex_neN (by omega) (by omega) (fun b6 => ?_) (fun b6 => ?_) | refine Ex_if (fun b6 => ?_) (fun b6 => ?_))
  · refine Ex_mv rfl rfl ?_
    refine Ex_rt rfl rfl ⟨?_, rfl⟩
    first | (rw [tz, if_neg (by omega)]; done) | (rw [tz, if_pos (by omega)]; done)
  · refine Ex_mv rfl rfl ?_; refine Ex_mv rfl rfl ?_; refine Ex_mv rfl rfl ?_; refine Ex_invV rfl (by rfl) (by rfl) (by assumption) (by rfl) (c_PL_twoOf hP hi (by decide)) ?_; refine Ex_mv rfl rfl ?_
    refine Ex_rt rfl rfl ⟨?_, rfl⟩
    first | (rw [tz, if_neg (by omega)]; done) | (rw [tz, if_pos (by omega)]; done)
theorem c_CP_isNumber {t : Nat} (ht : t < 2 ^ 31) : Ev (prog nb sa) m_CP_isNumber [.int (nI t)] h (some (.int (nI (if 3 ≤ t ∧ t ≤ 6 then 1 else 0)))) h := by
  refine Ev_ofL k_CP_isNumber 1 [some (.int (nI t))] rfl (Nat.le_of_ble_eq_true rfl) rfl ?_
  refine Ex_mv rfl rfl ?_; refine Ex_mv rfl rfl ?_; refine Ex_mv rfl rfl ?_; (first | refine Ex_ltN (by omega) (by omega) (fun b2 => ?_) (fun b2 => ?_) | refine Ex_if (fun b2 => ?_) (fun b2 => ?_))
  · refine Ex_mv rfl rfl ?_
    refine Ex_rt rfl rfl ⟨?_, rfl⟩
    first | (rw [if_pos (by omega)]; done) | (rw [if_neg (by omega)]; done)
  · refine Ex_mv rfl rfl ?_; refine Ex_mv rfl rfl ?_; refine Ex_mv rfl rfl ?_; (first | refine Ex_ltN (by omega) (by omega) (fun b8 => ?_) (fun b8 => ?_) | refine Ex_if (fun b8 => ?_) (fun b8 => ?_))
    · refine Ex_mv rfl rfl ?_
      refine Ex_rt rfl rfl ⟨?_, rfl⟩
      first | (rw [if_pos (by omega)]; done) | (rw [if_neg (by omega)]; done)
    · refine Ex_mv rfl rfl ?_; refine Ex_mv rfl rfl ?_
      refine Ex_rt rfl rfl ⟨?_, rfl⟩
      first | (rw [if_pos (by omega)]; done) | (rw [if_neg (by omega)]; done)
theorem c_CP_isWide {t : Nat} (ht : t < 2 ^ 31) : Ev (prog nb sa) m_CP_isWide [.int (nI t)] h (some (.int (nI (if t = 5 ∨ t = 6 then 1 else 0)))) h := by
  refine Ev_ofL k_CP_isWide 1 [some (.int (nI t))] rfl (Nat.le_of_ble_eq_true rfl) rfl ?_
  refine Ex_mv rfl rfl ?_; refine Ex_mv rfl rfl ?_; refine Ex_mv rfl rfl ?_; (first | refine Ex_eqN (by omega) (by omega) (fun b2 => ?_) (fun b2 => ?_) | refine Ex_if (fun b2 => ?_) (fun b2 => ?_))
  · refine Ex_mv rfl rfl ?_; refine Ex_mv rfl rfl ?_
    refine Ex_rt rfl rfl ⟨?_, rfl⟩
    first | (rw [if_pos (by omega)]; done) | (rw [if_neg (by omega)]; done)
  · refine Ex_mv rfl rfl ?_; refine Ex_mv rfl rfl ?_; refine Ex_mv rfl rfl ?_; (first | refine Ex_neN (by omega) (by omega) (fun b8 => ?_) (fun b8 => ?_) | refine Ex_if (fun b8 => ?_) (fun b8 => ?_))
    · refine Ex_mv rfl rfl ?_
      refine Ex_rt rfl rfl ⟨?_, rfl⟩
      first | (rw [if_pos (by omega)]; done) | (rw [if_neg (by omega)]; done)
    · refine Ex_mv rfl rfl ?_; refine Ex_mv rfl rfl ?_
      refine Ex_rt rfl rfl ⟨?_, rfl⟩
      first | (rw [if_pos (by omega)]; done) | (rw [if_neg (by omega)]; done)
theorem c_CP_isTag {t : Nat} (ht : t < 2 ^ 31) : Ev (prog nb sa) m_CP_isTag [.int (nI t)] h (some (.int (nI (if t = 1 ∨ 3 ≤ t ∧ t ≤ 12 then 1 else 0)))) h := by
  refine Ev_ofL k_CP_isTag 1 [some (.int (nI t))] rfl (Nat.le_of_ble_eq_true rfl) rfl ?_
  refine Ex_mv rfl rfl ?_; refine Ex_mv rfl rfl ?_; refine Ex_mv rfl rfl ?_; (first | refine Ex_eqN (by omega) (by omega) (fun b2 => ?_) (fun b2 => ?_) | refine Ex_if (fun b2 => ?_) (fun b2 => ?_))
  · refine Ex_mv rfl rfl ?_; refine Ex_mv rfl rfl ?_
    refine Ex_rt rfl rfl ⟨?_, rfl⟩
    first | (rw [if_pos (by omega)]; done) | (rw [if_neg (by omega)]; done)
  · refine Ex_mv rfl rfl ?_; refine Ex_mv rfl rfl ?_; refine Ex_mv rfl rfl ?_; (first | refine Ex_ltN (by omega) (by omega) (fun b7 => ?_) (fun b7 => ?_) | refine Ex_if (fun b7 => ?_) (fun b7 => ?_))
    · refine Ex_mv rfl rfl ?_
      refine Ex_rt rfl rfl ⟨?_, rfl⟩
      first | (rw [if_pos (by omega)]; done) | (rw [if_neg (by omega)]; done)
    · refine Ex_mv rfl rfl ?_; refine Ex_mv rfl rfl ?_; refine Ex_mv rfl rfl ?_; (first | refine Ex_ltN (by omega) (by omega) (fun b13 => ?_) (fun b13 => ?_) | refine Ex_if (fun b13 => ?_) (fun b13 => ?_))
      · refine Ex_mv rfl rfl ?_
        refine Ex_rt rfl rfl ⟨?_, rfl⟩
        first | (rw [if_pos (by omega)]; done) | (rw [if_neg (by omega)]; done)
      · refine Ex_mv rfl rfl ?_; refine Ex_mv rfl rfl ?_
        refine Ex_rt rfl rfl ⟨?_, rfl⟩
        first | (rw [if_pos (by omega)]; done) | (rw [if_neg (by omega)]; done)
theorem c_PL_bits (hP : PO h p B S n) {i : Nat} (hi : i < 2 ^ 31) : Ev (prog nb sa) m_PL_bits [.ref p, .int (nI i)] h (some (.long (bts B S n i))) h := by
  obtain ⟨hp, hR, ⟨g, hg, hgS⟩, hn, hS⟩ := id hP
  obtain ⟨f, hr, ha, hB⟩ := id hR
  have ht := tg_lt (S := S) (n := n) hR.lt i
  have hst := st_le (n := n) hS i
  refine Ev_ofL k_PL_bits 5 [some (.ref p), some (.int (nI i)), none, none, none] rfl (Nat.le_of_ble_eq_true rfl) rfl ?_
  by_cases h1 : 3 ≤ tg B S n i ∧ tg B S n i ≤ 6
  · by_cases h2 : tg B S n i = 5 ∨ tg B S n i = 6
    · refine Ex_mv rfl rfl ?_; refine Ex_mv rfl rfl ?_; refine Ex_invV rfl (by rfl) (by rfl) (by assumption) (by rfl) (c_PL_start hP hi) ?_; refine Ex_mv rfl rfl ?_; refine Ex_mv rfl rfl ?_; refine Ex_mv rfl rfl ?_; refine Ex_invV rfl (by rfl) (by rfl) (by assumption) (by rfl) (c_PL_tag hP hi) ?_; refine Ex_mv rfl rfl ?_; refine Ex_mv rfl rfl ?_; refine Ex_inv rfl (by rfl) (by rfl) (by rfl) (c_CP_isNumber (by omega)) ?_
      rw [if_pos h1]
      refine Ex_mv rfl rfl ?_; refine Ex_ift (by decide) ?_; refine Ex_mv rfl rfl ?_; refine Ex_getf rfl (by assumption) rfl ?_; refine Ex_mv rfl rfl ?_; refine Ex_mv rfl rfl ?_; (first | refine Ex_addN rfl ?_ | refine Ex_mv rfl rfl ?_); refine Ex_invV rfl (by rfl) (by rfl) (by assumption) (by rfl) (c_RW_four hR (by omega)) ?_; refine Ex_mv rfl rfl ?_; refine Ex_mv rfl rfl ?_; refine Ex_inv rfl (by rfl) (by rfl) (by rfl) (c_CP_isWide (by omega)) ?_
      rw [if_pos h2]
      refine Ex_mv rfl rfl ?_; refine Ex_iff (by decide) ?_; refine Ex_mv rfl rfl ?_; refine Ex_mv rfl rfl ?_; refine Ex_mv rfl rfl ?_; refine Ex_lshl rfl ?_; refine Ex_mv rfl rfl ?_; refine Ex_getf rfl (by assumption) rfl ?_; refine Ex_mv rfl rfl ?_; refine Ex_mv rfl rfl ?_; (first | refine Ex_addN rfl ?_ | refine Ex_mv rfl rfl ?_); refine Ex_invV rfl (by rfl) (by rfl) (by assumption) (by rfl) (c_RW_four hR (by omega)) ?_; refine Ex_mv rfl rfl ?_; refine Ex_mv rfl rfl ?_; refine Ex_land rfl ?_; refine Ex_lor rfl ?_; refine Ex_mv rfl rfl ?_
      refine Ex_rt rfl rfl ⟨?_, rfl⟩
      rw [bts, if_pos h1, if_pos (by omega)]; rfl
    · refine Ex_mv rfl rfl ?_; refine Ex_mv rfl rfl ?_; refine Ex_invV rfl (by rfl) (by rfl) (by assumption) (by rfl) (c_PL_start hP hi) ?_; refine Ex_mv rfl rfl ?_; refine Ex_mv rfl rfl ?_; refine Ex_mv rfl rfl ?_; refine Ex_invV rfl (by rfl) (by rfl) (by assumption) (by rfl) (c_PL_tag hP hi) ?_; refine Ex_mv rfl rfl ?_; refine Ex_mv rfl rfl ?_; refine Ex_inv rfl (by rfl) (by rfl) (by rfl) (c_CP_isNumber (by omega)) ?_
      rw [if_pos h1]
      refine Ex_mv rfl rfl ?_; refine Ex_ift (by decide) ?_; refine Ex_mv rfl rfl ?_; refine Ex_getf rfl (by assumption) rfl ?_; refine Ex_mv rfl rfl ?_; refine Ex_mv rfl rfl ?_; (first | refine Ex_addN rfl ?_ | refine Ex_mv rfl rfl ?_); refine Ex_invV rfl (by rfl) (by rfl) (by assumption) (by rfl) (c_RW_four hR (by omega)) ?_; refine Ex_mv rfl rfl ?_; refine Ex_mv rfl rfl ?_; refine Ex_inv rfl (by rfl) (by rfl) (by rfl) (c_CP_isWide (by omega)) ?_
      rw [if_neg h2]
      refine Ex_mv rfl rfl ?_; refine Ex_ift (by decide) ?_; refine Ex_mv rfl rfl ?_; refine Ex_mv rfl rfl ?_
      refine Ex_rt rfl rfl ⟨?_, rfl⟩
      rw [bts, if_pos h1, if_neg (by omega)]
  · refine Ex_mv rfl rfl ?_; refine Ex_mv rfl rfl ?_; refine Ex_invV rfl (by rfl) (by rfl) (by assumption) (by rfl) (c_PL_start hP hi) ?_; refine Ex_mv rfl rfl ?_; refine Ex_mv rfl rfl ?_; refine Ex_mv rfl rfl ?_; refine Ex_invV rfl (by rfl) (by rfl) (by assumption) (by rfl) (c_PL_tag hP hi) ?_; refine Ex_mv rfl rfl ?_; refine Ex_mv rfl rfl ?_; refine Ex_inv rfl (by rfl) (by rfl) (by rfl) (c_CP_isNumber (by omega)) ?_
    rw [if_neg h1]
    refine Ex_mv rfl rfl ?_; refine Ex_iff (by decide) ?_; refine Ex_mv rfl rfl ?_
    refine Ex_rt rfl rfl ⟨?_, rfl⟩
    rw [bts, if_neg h1]
/-- how many bytes an entry takes -/
def bof (B : List Nat) (S : Nat → Nat) (n i : Nat) : Nat := if tg B S n i = 1 then 3 + tz B S n i else if tg B S n i = 5 ∨ tg B S n i = 6 then 9 else if tg B S n i = 7 ∨ tg B S n i = 8 then 3 else 5
theorem c_PL_bytesOf (hP : PO h p B S n) {i : Nat} (hi : i < 2 ^ 31) : Ev (prog nb sa) m_PL_bytesOf [.ref p, .int (nI i)] h (some (.int (nI (bof B S n i)))) h := by
  obtain ⟨hp, hR, ⟨g, hg, hgS⟩, hn, hS⟩ := id hP
  have ht := tg_lt (S := S) (n := n) hR.lt i
  refine Ev_ofL k_PL_bytesOf 2 [some (.ref p), some (.int (nI i))] rfl (Nat.le_of_ble_eq_true rfl) rfl ?_
  refine Ex_mv rfl rfl ?_; refine Ex_mv rfl rfl ?_; refine Ex_invV rfl (by rfl) (by rfl) (by assumption) (by rfl) (c_PL_tag hP hi) ?_; refine Ex_mv rfl rfl ?_
  (first | refine Ex_swN (k := 1) rfl (by omega) (by omega) (fun b5 => ?_) (fun b5_1 => ?_) | refine Ex_sw (fun b5 => ?_) (fun b5_1 => ?_))
  · refine Ex_mv rfl rfl ?_; refine Ex_mv rfl rfl ?_; refine Ex_mv rfl rfl ?_; refine Ex_invV rfl (by rfl) (by rfl) (by assumption) (by rfl) (c_PL_textSize hP hi) ?_; (first | refine Ex_addN rfl ?_ | refine Ex_mv rfl rfl ?_)
    refine Ex_rt rfl rfl ⟨?_, rfl⟩
    first | (rw [bof, if_pos (by omega)]; done) | (rw [bof, if_neg (by omega), if_pos (by omega)]; done) | (rw [bof, if_neg (by omega), if_neg (by omega), if_pos (by omega)]; done) | (rw [bof, if_neg (by omega), if_neg (by omega), if_neg (by omega)]; done)
  (first | refine Ex_swN (k := 2) rfl (by omega) (by omega) (fun b5 => ?_) (fun b5_2 => ?_) | refine Ex_sw (fun b5 => ?_) (fun b5_2 => ?_))
  · refine Ex_mv rfl rfl ?_
    refine Ex_rt rfl rfl ⟨?_, rfl⟩
    first | (rw [bof, if_pos (by omega)]; done) | (rw [bof, if_neg (by omega), if_pos (by omega)]; done) | (rw [bof, if_neg (by omega), if_neg (by omega), if_pos (by omega)]; done) | (rw [bof, if_neg (by omega), if_neg (by omega), if_neg (by omega)]; done)
  (first | refine Ex_swN (k := 3) rfl (by omega) (by omega) (fun b5 => ?_) (fun b5_3 => ?_) | refine Ex_sw (fun b5 => ?_) (fun b5_3 => ?_))
  · refine Ex_mv rfl rfl ?_
    refine Ex_rt rfl rfl ⟨?_, rfl⟩
    first | (rw [bof, if_pos (by omega)]; done) | (rw [bof, if_neg (by omega), if_pos (by omega)]; done) | (rw [bof, if_neg (by omega), if_neg (by omega), if_pos (by omega)]; done) | (rw [bof, if_neg (by omega), if_neg (by omega), if_neg (by omega)]; done)
  (first | refine Ex_swN (k := 4) rfl (by omega) (by omega) (fun b5 => ?_) (fun b5_4 => ?_) | refine Ex_sw (fun b5 => ?_) (fun b5_4 => ?_))
  · refine Ex_mv rfl rfl ?_
    refine Ex_rt rfl rfl ⟨?_, rfl⟩
    first | (rw [bof, if_pos (by omega)]; done) | (rw [bof, if_neg (by omega), if_pos (by omega)]; done) | (rw [bof, if_neg (by omega), if_neg (by omega), if_pos (by omega)]; done) | (rw [bof, if_neg (by omega), if_neg (by omega), if_neg (by omega)]; done)
  (first | refine Ex_swN (k := 5) rfl (by omega) (by omega) (fun b5 => ?_) (fun b5_5 => ?_) | refine Ex_sw (fun b5 => ?_) (fun b5_5 => ?_))
  · refine Ex_mv rfl rfl ?_
    refine Ex_rt rfl rfl ⟨?_, rfl⟩
    first | (rw [bof, if_pos (by omega)]; done) | (rw [bof, if_neg (by omega), if_pos (by omega)]; done) | (rw [bof, if_neg (by omega), if_neg (by omega), if_pos (by omega)]; done) | (rw [bof, if_neg (by omega), if_neg (by omega), if_neg (by omega)]; done)
  (first | refine Ex_swN (k := 6) rfl (by omega) (by omega) (fun b5 => ?_) (fun b5_6 => ?_) | refine Ex_sw (fun b5 => ?_) (fun b5_6 => ?_))
  · refine Ex_mv rfl rfl ?_
    refine Ex_rt rfl rfl ⟨?_, rfl⟩
    first | (rw [bof, if_pos (by omega)]; done) | (rw [bof, if_neg (by omega), if_pos (by omega)]; done) | (rw [bof, if_neg (by omega), if_neg (by omega), if_pos (by omega)]; done) | (rw [bof, if_neg (by omega), if_neg (by omega), if_neg (by omega)]; done)
  (first | refine Ex_swN (k := 7) rfl (by omega) (by omega) (fun b5 => ?_) (fun b5_7 => ?_) | refine Ex_sw (fun b5 => ?_) (fun b5_7 => ?_))
  · refine Ex_mv rfl rfl ?_
    refine Ex_rt rfl rfl ⟨?_, rfl⟩
    first | (rw [bof, if_pos (by omega)]; done) | (rw [bof, if_neg (by omega), if_pos (by omega)]; done) | (rw [bof, if_neg (by omega), if_neg (by omega), if_pos (by omega)]; done) | (rw [bof, if_neg (by omega), if_neg (by omega), if_neg (by omega)]; done)
  (first | refine Ex_swN (k := 8) rfl (by omega) (by omega) (fun b5 => ?_) (fun b5_8 => ?_) | refine Ex_sw (fun b5 => ?_) (fun b5_8 => ?_))
  · refine Ex_mv rfl rfl ?_
    refine Ex_rt rfl rfl ⟨?_, rfl⟩
    first | (rw [bof, if_pos (by omega)]; done) | (rw [bof, if_neg (by omega), if_pos (by omega)]; done) | (rw [bof, if_neg (by omega), if_neg (by omega), if_pos (by omega)]; done) | (rw [bof, if_neg (by omega), if_neg (by omega), if_neg (by omega)]; done)
  refine Ex_sw0 ?_
  refine Ex_mv rfl rfl ?_
  refine Ex_rt rfl rfl ⟨?_, rfl⟩
  first | (rw [bof, if_pos (by omega)]; done) | (rw [bof, if_neg (by omega), if_pos (by omega)]; done) | (rw [bof, if_neg (by omega), if_neg (by omega), if_pos (by omega)]; done) | (rw [bof, if_neg (by omega), if_neg (by omega), if_neg (by omega)]; done)
/-- what is wrong with a place where a tag is wanted -/
def wrg (B : List Nat) (S : Nat → Nat) (n i t : Nat) : Nat := if n ≤ i then 8 else if tg B S n i = 0 then 7 else if tg B S n i = t then 0 else 9
theorem c_PL_wrong (hP : PO h p B S n) {i t : Nat} (hi : i < 2 ^ 31) (htt : t < 2 ^ 31) : Ev (prog nb sa) m_PL_wrong [.ref p, .int (nI i), .int (nI t)] h (some (.int (nI (wrg B S n i t)))) h := by
  obtain ⟨hp, hR, ⟨g, hg, hgS⟩, hn, hS⟩ := id hP
  have ht := tg_lt (S := S) (n := n) hR.lt i
  refine Ev_ofL k_PL_wrong 4 [some (.ref p), some (.int (nI i)), some (.int (nI t)), none] rfl (Nat.le_of_ble_eq_true rfl) rfl ?_
  by_cases h1 : i < n
  · refine Ex_mv rfl rfl ?_; refine Ex_mv rfl rfl ?_; refine Ex_invV rfl (by rfl) (by rfl) (by assumption) (by rfl) (c_PL_has hP hi) ?_
    rw [if_pos h1]
    refine Ex_mv rfl rfl ?_; refine Ex_ift (by decide) ?_; refine Ex_mv rfl rfl ?_; refine Ex_mv rfl rfl ?_; refine Ex_invV rfl (by rfl) (by rfl) (by assumption) (by rfl) (c_PL_tag hP hi) ?_; refine Ex_mv rfl rfl ?_; refine Ex_mv rfl rfl ?_; refine Ex_mv rfl rfl ?_; (first | refine Ex_ne0 (by omega) (fun b18 => ?_) (fun b18 => ?_) | refine Ex_if (fun b18 => ?_) (fun b18 => ?_))
    · refine Ex_mv rfl rfl ?_; refine Ex_mv rfl rfl ?_; refine Ex_mv rfl rfl ?_; (first | refine Ex_neN (by omega) (by omega) (fun b26 => ?_) (fun b26 => ?_) | refine Ex_if (fun b26 => ?_) (fun b26 => ?_))
      · refine Ex_mv rfl rfl ?_
        refine Ex_rt rfl rfl ⟨?_, rfl⟩
        rw [wrg, if_neg (by omega)]
        first | (rw [if_pos (by omega)]; done) | (rw [if_neg (by omega), if_pos (by omega)]; done) | (rw [if_neg (by omega), if_neg (by omega)]; done)
      · refine Ex_mv rfl rfl ?_; refine Ex_mv rfl rfl ?_
        refine Ex_rt rfl rfl ⟨?_, rfl⟩
        rw [wrg, if_neg (by omega)]
        first | (rw [if_pos (by omega)]; done) | (rw [if_neg (by omega), if_pos (by omega)]; done) | (rw [if_neg (by omega), if_neg (by omega)]; done)
    · refine Ex_mv rfl rfl ?_
      refine Ex_rt rfl rfl ⟨?_, rfl⟩
      rw [wrg, if_neg (by omega)]
      first | (rw [if_pos (by omega)]; done) | (rw [if_neg (by omega), if_pos (by omega)]; done) | (rw [if_neg (by omega), if_neg (by omega)]; done)
  · refine Ex_mv rfl rfl ?_; refine Ex_mv rfl rfl ?_; refine Ex_invV rfl (by rfl) (by rfl) (by assumption) (by rfl) (c_PL_has hP hi) ?_
    rw [if_neg h1]
    refine Ex_mv rfl rfl ?_; refine Ex_iff (by decide) ?_; refine Ex_mv rfl rfl ?_
    refine Ex_rt rfl rfl ⟨?_, rfl⟩
    rw [wrg, if_pos (by omega)]
theorem c_PL_wrongN (hP : PO h p B S n) {i : Int32} {t : Int32} (hi : i < 0) : Ev (prog nb sa) m_PL_wrong [.ref p, .int i, .int t] h (some (.int (nI 8))) h := by
  obtain ⟨hp, hR, ⟨g, hg, hgS⟩, hn, hS⟩ := id hP
  refine Ev_ofL k_PL_wrong 4 [some (.ref p), some (.int i), some (.int t), none] rfl (Nat.le_of_ble_eq_true rfl) rfl ?_
  refine Ex_mv rfl rfl ?_; refine Ex_mv rfl rfl ?_; refine Ex_invV rfl (by rfl) (by rfl) (by assumption) (by rfl) (c_PL_hasN hP hi) ?_; refine Ex_mv rfl rfl ?_; refine Ex_iff (by decide) ?_; refine Ex_mv rfl rfl ?_
  exact Ex_rt rfl rfl ⟨rfl, rfl⟩
theorem c_PL_textOf (hP : PO h p B S n) {i k : Nat} (hi : i < 2 ^ 31) (hk : k < 2 ^ 31) : Ev (prog nb sa) m_PL_textOf [.ref p, .int (nI i), .int (nI k)] h (some (.int (nI (tof B S n i k)))) h := by
  obtain ⟨hp, hR, ⟨g, hg, hgS⟩, hn, hS⟩ := id hP
  have ht := tg_lt (S := S) (n := n) hR.lt i
  have h1 := tw_lt (S := S) (n := n) hR.lt i 1
  have h3 := tw_lt (S := S) (n := n) hR.lt i 3
  refine Ev_ofL k_PL_textOf 3 [some (.ref p), some (.int (nI i)), some (.int (nI k))] rfl (Nat.le_of_ble_eq_true rfl) rfl ?_
  refine Ex_mv rfl rfl ?_; refine Ex_mv rfl rfl ?_; refine Ex_invV rfl (by rfl) (by rfl) (by assumption) (by rfl) (c_PL_tag hP hi) ?_; refine Ex_mv rfl rfl ?_
  (first | refine Ex_swN (k := 1) rfl (by omega) (by omega) (fun b5 => ?_) (fun b5_1 => ?_) | refine Ex_sw (fun b5 => ?_) (fun b5_1 => ?_))
  · refine Ex_mv rfl rfl ?_
    refine Ex_rt rfl rfl ⟨?_, rfl⟩
    unfold tof
    first | (rw [if_pos (by omega)]; done) | (rw [if_neg (by omega), if_pos (by omega)]; done) | (rw [if_neg (by omega), if_neg (by omega), if_pos (by omega), if_pos (by omega)]; done) | (rw [if_neg (by omega), if_neg (by omega), if_pos (by omega), if_neg (by omega)]; done) | (rw [if_neg (by omega), if_neg (by omega), if_neg (by omega), if_pos (by omega), if_pos (by omega)]; done) | (rw [if_neg (by omega), if_neg (by omega), if_neg (by omega), if_pos (by omega), if_neg (by omega), if_pos (by omega)]; done) | (rw [if_neg (by omega), if_neg (by omega), if_neg (by omega), if_pos (by omega), if_neg (by omega), if_neg (by omega)]; done) | (rw [if_neg (by omega), if_neg (by omega), if_neg (by omega), if_neg (by omega)]; done)
  (first | refine Ex_swN (k := 2) rfl (by omega) (by omega) (fun b5 => ?_) (fun b5_2 => ?_) | refine Ex_sw (fun b5 => ?_) (fun b5_2 => ?_))
  · refine Ex_mv rfl rfl ?_
    refine Ex_rt rfl rfl ⟨?_, rfl⟩
    unfold tof
    first | (rw [if_pos (by omega)]; done) | (rw [if_neg (by omega), if_pos (by omega)]; done) | (rw [if_neg (by omega), if_neg (by omega), if_pos (by omega), if_pos (by omega)]; done) | (rw [if_neg (by omega), if_neg (by omega), if_pos (by omega), if_neg (by omega)]; done) | (rw [if_neg (by omega), if_neg (by omega), if_neg (by omega), if_pos (by omega), if_pos (by omega)]; done) | (rw [if_neg (by omega), if_neg (by omega), if_neg (by omega), if_pos (by omega), if_neg (by omega), if_pos (by omega)]; done) | (rw [if_neg (by omega), if_neg (by omega), if_neg (by omega), if_pos (by omega), if_neg (by omega), if_neg (by omega)]; done) | (rw [if_neg (by omega), if_neg (by omega), if_neg (by omega), if_neg (by omega)]; done)
  (first | refine Ex_swN (k := 3) rfl (by omega) (by omega) (fun b5 => ?_) (fun b5_3 => ?_) | refine Ex_sw (fun b5 => ?_) (fun b5_3 => ?_))
  · refine Ex_mv rfl rfl ?_
    refine Ex_rt rfl rfl ⟨?_, rfl⟩
    unfold tof
    first | (rw [if_pos (by omega)]; done) | (rw [if_neg (by omega), if_pos (by omega)]; done) | (rw [if_neg (by omega), if_neg (by omega), if_pos (by omega), if_pos (by omega)]; done) | (rw [if_neg (by omega), if_neg (by omega), if_pos (by omega), if_neg (by omega)]; done) | (rw [if_neg (by omega), if_neg (by omega), if_neg (by omega), if_pos (by omega), if_pos (by omega)]; done) | (rw [if_neg (by omega), if_neg (by omega), if_neg (by omega), if_pos (by omega), if_neg (by omega), if_pos (by omega)]; done) | (rw [if_neg (by omega), if_neg (by omega), if_neg (by omega), if_pos (by omega), if_neg (by omega), if_neg (by omega)]; done) | (rw [if_neg (by omega), if_neg (by omega), if_neg (by omega), if_neg (by omega)]; done)
  (first | refine Ex_swN (k := 4) rfl (by omega) (by omega) (fun b5 => ?_) (fun b5_4 => ?_) | refine Ex_sw (fun b5 => ?_) (fun b5_4 => ?_))
  · refine Ex_mv rfl rfl ?_
    refine Ex_rt rfl rfl ⟨?_, rfl⟩
    unfold tof
    first | (rw [if_pos (by omega)]; done) | (rw [if_neg (by omega), if_pos (by omega)]; done) | (rw [if_neg (by omega), if_neg (by omega), if_pos (by omega), if_pos (by omega)]; done) | (rw [if_neg (by omega), if_neg (by omega), if_pos (by omega), if_neg (by omega)]; done) | (rw [if_neg (by omega), if_neg (by omega), if_neg (by omega), if_pos (by omega), if_pos (by omega)]; done) | (rw [if_neg (by omega), if_neg (by omega), if_neg (by omega), if_pos (by omega), if_neg (by omega), if_pos (by omega)]; done) | (rw [if_neg (by omega), if_neg (by omega), if_neg (by omega), if_pos (by omega), if_neg (by omega), if_neg (by omega)]; done) | (rw [if_neg (by omega), if_neg (by omega), if_neg (by omega), if_neg (by omega)]; done)
  (first | refine Ex_swN (k := 5) rfl (by omega) (by omega) (fun b5 => ?_) (fun b5_5 => ?_) | refine Ex_sw (fun b5 => ?_) (fun b5_5 => ?_))
  · refine Ex_mv rfl rfl ?_
    refine Ex_rt rfl rfl ⟨?_, rfl⟩
    unfold tof
    first | (rw [if_pos (by omega)]; done) | (rw [if_neg (by omega), if_pos (by omega)]; done) | (rw [if_neg (by omega), if_neg (by omega), if_pos (by omega), if_pos (by omega)]; done) | (rw [if_neg (by omega), if_neg (by omega), if_pos (by omega), if_neg (by omega)]; done) | (rw [if_neg (by omega), if_neg (by omega), if_neg (by omega), if_pos (by omega), if_pos (by omega)]; done) | (rw [if_neg (by omega), if_neg (by omega), if_neg (by omega), if_pos (by omega), if_neg (by omega), if_pos (by omega)]; done) | (rw [if_neg (by omega), if_neg (by omega), if_neg (by omega), if_pos (by omega), if_neg (by omega), if_neg (by omega)]; done) | (rw [if_neg (by omega), if_neg (by omega), if_neg (by omega), if_neg (by omega)]; done)
  (first | refine Ex_swN (k := 6) rfl (by omega) (by omega) (fun b5 => ?_) (fun b5_6 => ?_) | refine Ex_sw (fun b5 => ?_) (fun b5_6 => ?_))
  · refine Ex_mv rfl rfl ?_
    refine Ex_rt rfl rfl ⟨?_, rfl⟩
    unfold tof
    first | (rw [if_pos (by omega)]; done) | (rw [if_neg (by omega), if_pos (by omega)]; done) | (rw [if_neg (by omega), if_neg (by omega), if_pos (by omega), if_pos (by omega)]; done) | (rw [if_neg (by omega), if_neg (by omega), if_pos (by omega), if_neg (by omega)]; done) | (rw [if_neg (by omega), if_neg (by omega), if_neg (by omega), if_pos (by omega), if_pos (by omega)]; done) | (rw [if_neg (by omega), if_neg (by omega), if_neg (by omega), if_pos (by omega), if_neg (by omega), if_pos (by omega)]; done) | (rw [if_neg (by omega), if_neg (by omega), if_neg (by omega), if_pos (by omega), if_neg (by omega), if_neg (by omega)]; done) | (rw [if_neg (by omega), if_neg (by omega), if_neg (by omega), if_neg (by omega)]; done)
  (first | refine Ex_swN (k := 7) rfl (by omega) (by omega) (fun b5 => ?_) (fun b5_7 => ?_) | refine Ex_sw (fun b5 => ?_) (fun b5_7 => ?_))
  · refine Ex_mv rfl rfl ?_; refine Ex_mv rfl rfl ?_; refine Ex_mv rfl rfl ?_; refine Ex_invV rfl (by rfl) (by rfl) (by assumption) (by rfl) (c_PL_twoOf hP hi (by decide)) ?_
    refine Ex_rt rfl rfl ⟨?_, rfl⟩
    unfold tof
    first | (rw [if_pos (by omega)]; done) | (rw [if_neg (by omega), if_pos (by omega)]; done) | (rw [if_neg (by omega), if_neg (by omega), if_pos (by omega), if_pos (by omega)]; done) | (rw [if_neg (by omega), if_neg (by omega), if_pos (by omega), if_neg (by omega)]; done) | (rw [if_neg (by omega), if_neg (by omega), if_neg (by omega), if_pos (by omega), if_pos (by omega)]; done) | (rw [if_neg (by omega), if_neg (by omega), if_neg (by omega), if_pos (by omega), if_neg (by omega), if_pos (by omega)]; done) | (rw [if_neg (by omega), if_neg (by omega), if_neg (by omega), if_pos (by omega), if_neg (by omega), if_neg (by omega)]; done) | (rw [if_neg (by omega), if_neg (by omega), if_neg (by omega), if_neg (by omega)]; done)
  (first | refine Ex_swN (k := 8) rfl (by omega) (by omega) (fun b5 => ?_) (fun b5_8 => ?_) | refine Ex_sw (fun b5 => ?_) (fun b5_8 => ?_))
  · refine Ex_mv rfl rfl ?_; refine Ex_mv rfl rfl ?_; refine Ex_mv rfl rfl ?_; refine Ex_invV rfl (by rfl) (by rfl) (by assumption) (by rfl) (c_PL_twoOf hP hi (by decide)) ?_
    refine Ex_rt rfl rfl ⟨?_, rfl⟩
    unfold tof
    first | (rw [if_pos (by omega)]; done) | (rw [if_neg (by omega), if_pos (by omega)]; done) | (rw [if_neg (by omega), if_neg (by omega), if_pos (by omega), if_pos (by omega)]; done) | (rw [if_neg (by omega), if_neg (by omega), if_pos (by omega), if_neg (by omega)]; done) | (rw [if_neg (by omega), if_neg (by omega), if_neg (by omega), if_pos (by omega), if_pos (by omega)]; done) | (rw [if_neg (by omega), if_neg (by omega), if_neg (by omega), if_pos (by omega), if_neg (by omega), if_pos (by omega)]; done) | (rw [if_neg (by omega), if_neg (by omega), if_neg (by omega), if_pos (by omega), if_neg (by omega), if_neg (by omega)]; done) | (rw [if_neg (by omega), if_neg (by omega), if_neg (by omega), if_neg (by omega)]; done)
  (first | refine Ex_swN (k := 9) rfl (by omega) (by omega) (fun b5 => ?_) (fun b5_9 => ?_) | refine Ex_sw (fun b5 => ?_) (fun b5_9 => ?_))
  · refine Ex_mv rfl rfl ?_; refine Ex_mv rfl rfl ?_; (first | refine Ex_ne0 (by omega) (fun b93 => ?_) (fun b93 => ?_) | refine Ex_if (fun b93 => ?_) (fun b93 => ?_))
    · refine Ex_mv rfl rfl ?_; refine Ex_mv rfl rfl ?_; refine Ex_mv rfl rfl ?_; refine Ex_mv rfl rfl ?_; refine Ex_invV rfl (by rfl) (by rfl) (by assumption) (by rfl) (c_PL_twoOf hP hi (by decide)) ?_; refine Ex_mv rfl rfl ?_; refine Ex_mv rfl rfl ?_; refine Ex_mv rfl rfl ?_; (first | refine Ex_neN (by omega) (by omega) (fun b119 => ?_) (fun b119 => ?_) | refine Ex_if (fun b119 => ?_) (fun b119 => ?_))
      · refine Ex_mv rfl rfl ?_; refine Ex_invV rfl (by rfl) (by rfl) (by assumption) (by rfl) (c_PL_twoOf hP (by omega) (by decide)) ?_
        refine Ex_rt rfl rfl ⟨?_, rfl⟩
        unfold tof
        first | (rw [if_pos (by omega)]; done) | (rw [if_neg (by omega), if_pos (by omega)]; done) | (rw [if_neg (by omega), if_neg (by omega), if_pos (by omega), if_pos (by omega)]; done) | (rw [if_neg (by omega), if_neg (by omega), if_pos (by omega), if_neg (by omega)]; done) | (rw [if_neg (by omega), if_neg (by omega), if_neg (by omega), if_pos (by omega), if_pos (by omega)]; done) | (rw [if_neg (by omega), if_neg (by omega), if_neg (by omega), if_pos (by omega), if_neg (by omega), if_pos (by omega)]; done) | (rw [if_neg (by omega), if_neg (by omega), if_neg (by omega), if_pos (by omega), if_neg (by omega), if_neg (by omega)]; done) | (rw [if_neg (by omega), if_neg (by omega), if_neg (by omega), if_neg (by omega)]; done)
      · refine Ex_mv rfl rfl ?_; refine Ex_mv rfl rfl ?_; refine Ex_invV rfl (by rfl) (by rfl) (by assumption) (by rfl) (c_PL_twoOf hP (by omega) (by decide)) ?_
        refine Ex_rt rfl rfl ⟨?_, rfl⟩
        unfold tof
        first | (rw [if_pos (by omega)]; done) | (rw [if_neg (by omega), if_pos (by omega)]; done) | (rw [if_neg (by omega), if_neg (by omega), if_pos (by omega), if_pos (by omega)]; done) | (rw [if_neg (by omega), if_neg (by omega), if_pos (by omega), if_neg (by omega)]; done) | (rw [if_neg (by omega), if_neg (by omega), if_neg (by omega), if_pos (by omega), if_pos (by omega)]; done) | (rw [if_neg (by omega), if_neg (by omega), if_neg (by omega), if_pos (by omega), if_neg (by omega), if_pos (by omega)]; done) | (rw [if_neg (by omega), if_neg (by omega), if_neg (by omega), if_pos (by omega), if_neg (by omega), if_neg (by omega)]; done) | (rw [if_neg (by omega), if_neg (by omega), if_neg (by omega), if_neg (by omega)]; done)
    · refine Ex_mv rfl rfl ?_; refine Ex_mv rfl rfl ?_; refine Ex_mv rfl rfl ?_; refine Ex_mv rfl rfl ?_; refine Ex_invV rfl (by rfl) (by rfl) (by assumption) (by rfl) (c_PL_twoOf hP hi (by decide)) ?_; refine Ex_mv rfl rfl ?_; refine Ex_invV rfl (by rfl) (by rfl) (by assumption) (by rfl) (c_PL_twoOf hP (by omega) (by decide)) ?_; refine Ex_mv rfl rfl ?_
      refine Ex_rt rfl rfl ⟨?_, rfl⟩
      unfold tof
      first | (rw [if_pos (by omega)]; done) | (rw [if_neg (by omega), if_pos (by omega)]; done) | (rw [if_neg (by omega), if_neg (by omega), if_pos (by omega), if_pos (by omega)]; done) | (rw [if_neg (by omega), if_neg (by omega), if_pos (by omega), if_neg (by omega)]; done) | (rw [if_neg (by omega), if_neg (by omega), if_neg (by omega), if_pos (by omega), if_pos (by omega)]; done) | (rw [if_neg (by omega), if_neg (by omega), if_neg (by omega), if_pos (by omega), if_neg (by omega), if_pos (by omega)]; done) | (rw [if_neg (by omega), if_neg (by omega), if_neg (by omega), if_pos (by omega), if_neg (by omega), if_neg (by omega)]; done) | (rw [if_neg (by omega), if_neg (by omega), if_neg (by omega), if_neg (by omega)]; done)
  (first | refine Ex_swN (k := 10) rfl (by omega) (by omega) (fun b5 => ?_) (fun b5_10 => ?_) | refine Ex_sw (fun b5 => ?_) (fun b5_10 => ?_))
  · refine Ex_mv rfl rfl ?_; refine Ex_mv rfl rfl ?_; (first | refine Ex_ne0 (by omega) (fun b93 => ?_) (fun b93 => ?_) | refine Ex_if (fun b93 => ?_) (fun b93 => ?_))
    · refine Ex_mv rfl rfl ?_; refine Ex_mv rfl rfl ?_; refine Ex_mv rfl rfl ?_; refine Ex_mv rfl rfl ?_; refine Ex_invV rfl (by rfl) (by rfl) (by assumption) (by rfl) (c_PL_twoOf hP hi (by decide)) ?_; refine Ex_mv rfl rfl ?_; refine Ex_mv rfl rfl ?_; refine Ex_mv rfl rfl ?_; (first | refine Ex_neN (by omega) (by omega) (fun b119 => ?_) (fun b119 => ?_) | refine Ex_if (fun b119 => ?_) (fun b119 => ?_))
      · refine Ex_mv rfl rfl ?_; refine Ex_invV rfl (by rfl) (by rfl) (by assumption) (by rfl) (c_PL_twoOf hP (by omega) (by decide)) ?_
        refine Ex_rt rfl rfl ⟨?_, rfl⟩
        unfold tof
        first | (rw [if_pos (by omega)]; done) | (rw [if_neg (by omega), if_pos (by omega)]; done) | (rw [if_neg (by omega), if_neg (by omega), if_pos (by omega), if_pos (by omega)]; done) | (rw [if_neg (by omega), if_neg (by omega), if_pos (by omega), if_neg (by omega)]; done) | (rw [if_neg (by omega), if_neg (by omega), if_neg (by omega), if_pos (by omega), if_pos (by omega)]; done) | (rw [if_neg (by omega), if_neg (by omega), if_neg (by omega), if_pos (by omega), if_neg (by omega), if_pos (by omega)]; done) | (rw [if_neg (by omega), if_neg (by omega), if_neg (by omega), if_pos (by omega), if_neg (by omega), if_neg (by omega)]; done) | (rw [if_neg (by omega), if_neg (by omega), if_neg (by omega), if_neg (by omega)]; done)
      · refine Ex_mv rfl rfl ?_; refine Ex_mv rfl rfl ?_; refine Ex_invV rfl (by rfl) (by rfl) (by assumption) (by rfl) (c_PL_twoOf hP (by omega) (by decide)) ?_
        refine Ex_rt rfl rfl ⟨?_, rfl⟩
        unfold tof
        first | (rw [if_pos (by omega)]; done) | (rw [if_neg (by omega), if_pos (by omega)]; done) | (rw [if_neg (by omega), if_neg (by omega), if_pos (by omega), if_pos (by omega)]; done) | (rw [if_neg (by omega), if_neg (by omega), if_pos (by omega), if_neg (by omega)]; done) | (rw [if_neg (by omega), if_neg (by omega), if_neg (by omega), if_pos (by omega), if_pos (by omega)]; done) | (rw [if_neg (by omega), if_neg (by omega), if_neg (by omega), if_pos (by omega), if_neg (by omega), if_pos (by omega)]; done) | (rw [if_neg (by omega), if_neg (by omega), if_neg (by omega), if_pos (by omega), if_neg (by omega), if_neg (by omega)]; done) | (rw [if_neg (by omega), if_neg (by omega), if_neg (by omega), if_neg (by omega)]; done)
    · refine Ex_mv rfl rfl ?_; refine Ex_mv rfl rfl ?_; refine Ex_mv rfl rfl ?_; refine Ex_mv rfl rfl ?_; refine Ex_invV rfl (by rfl) (by rfl) (by assumption) (by rfl) (c_PL_twoOf hP hi (by decide)) ?_; refine Ex_mv rfl rfl ?_; refine Ex_invV rfl (by rfl) (by rfl) (by assumption) (by rfl) (c_PL_twoOf hP (by omega) (by decide)) ?_; refine Ex_mv rfl rfl ?_
      refine Ex_rt rfl rfl ⟨?_, rfl⟩
      unfold tof
      first | (rw [if_pos (by omega)]; done) | (rw [if_neg (by omega), if_pos (by omega)]; done) | (rw [if_neg (by omega), if_neg (by omega), if_pos (by omega), if_pos (by omega)]; done) | (rw [if_neg (by omega), if_neg (by omega), if_pos (by omega), if_neg (by omega)]; done) | (rw [if_neg (by omega), if_neg (by omega), if_neg (by omega), if_pos (by omega), if_pos (by omega)]; done) | (rw [if_neg (by omega), if_neg (by omega), if_neg (by omega), if_pos (by omega), if_neg (by omega), if_pos (by omega)]; done) | (rw [if_neg (by omega), if_neg (by omega), if_neg (by omega), if_pos (by omega), if_neg (by omega), if_neg (by omega)]; done) | (rw [if_neg (by omega), if_neg (by omega), if_neg (by omega), if_neg (by omega)]; done)
  (first | refine Ex_swN (k := 11) rfl (by omega) (by omega) (fun b5 => ?_) (fun b5_11 => ?_) | refine Ex_sw (fun b5 => ?_) (fun b5_11 => ?_))
  · refine Ex_mv rfl rfl ?_; refine Ex_mv rfl rfl ?_; (first | refine Ex_ne0 (by omega) (fun b93 => ?_) (fun b93 => ?_) | refine Ex_if (fun b93 => ?_) (fun b93 => ?_))
    · refine Ex_mv rfl rfl ?_; refine Ex_mv rfl rfl ?_; refine Ex_mv rfl rfl ?_; refine Ex_mv rfl rfl ?_; refine Ex_invV rfl (by rfl) (by rfl) (by assumption) (by rfl) (c_PL_twoOf hP hi (by decide)) ?_; refine Ex_mv rfl rfl ?_; refine Ex_mv rfl rfl ?_; refine Ex_mv rfl rfl ?_; (first | refine Ex_neN (by omega) (by omega) (fun b119 => ?_) (fun b119 => ?_) | refine Ex_if (fun b119 => ?_) (fun b119 => ?_))
      · refine Ex_mv rfl rfl ?_; refine Ex_invV rfl (by rfl) (by rfl) (by assumption) (by rfl) (c_PL_twoOf hP (by omega) (by decide)) ?_
        refine Ex_rt rfl rfl ⟨?_, rfl⟩
        unfold tof
        first | (rw [if_pos (by omega)]; done) | (rw [if_neg (by omega), if_pos (by omega)]; done) | (rw [if_neg (by omega), if_neg (by omega), if_pos (by omega), if_pos (by omega)]; done) | (rw [if_neg (by omega), if_neg (by omega), if_pos (by omega), if_neg (by omega)]; done) | (rw [if_neg (by omega), if_neg (by omega), if_neg (by omega), if_pos (by omega), if_pos (by omega)]; done) | (rw [if_neg (by omega), if_neg (by omega), if_neg (by omega), if_pos (by omega), if_neg (by omega), if_pos (by omega)]; done) | (rw [if_neg (by omega), if_neg (by omega), if_neg (by omega), if_pos (by omega), if_neg (by omega), if_neg (by omega)]; done) | (rw [if_neg (by omega), if_neg (by omega), if_neg (by omega), if_neg (by omega)]; done)
      · refine Ex_mv rfl rfl ?_; refine Ex_mv rfl rfl ?_; refine Ex_invV rfl (by rfl) (by rfl) (by assumption) (by rfl) (c_PL_twoOf hP (by omega) (by decide)) ?_
        refine Ex_rt rfl rfl ⟨?_, rfl⟩
        unfold tof
        first | (rw [if_pos (by omega)]; done) | (rw [if_neg (by omega), if_pos (by omega)]; done) | (rw [if_neg (by omega), if_neg (by omega), if_pos (by omega), if_pos (by omega)]; done) | (rw [if_neg (by omega), if_neg (by omega), if_pos (by omega), if_neg (by omega)]; done) | (rw [if_neg (by omega), if_neg (by omega), if_neg (by omega), if_pos (by omega), if_pos (by omega)]; done) | (rw [if_neg (by omega), if_neg (by omega), if_neg (by omega), if_pos (by omega), if_neg (by omega), if_pos (by omega)]; done) | (rw [if_neg (by omega), if_neg (by omega), if_neg (by omega), if_pos (by omega), if_neg (by omega), if_neg (by omega)]; done) | (rw [if_neg (by omega), if_neg (by omega), if_neg (by omega), if_neg (by omega)]; done)
    · refine Ex_mv rfl rfl ?_; refine Ex_mv rfl rfl ?_; refine Ex_mv rfl rfl ?_; refine Ex_mv rfl rfl ?_; refine Ex_invV rfl (by rfl) (by rfl) (by assumption) (by rfl) (c_PL_twoOf hP hi (by decide)) ?_; refine Ex_mv rfl rfl ?_; refine Ex_invV rfl (by rfl) (by rfl) (by assumption) (by rfl) (c_PL_twoOf hP (by omega) (by decide)) ?_; refine Ex_mv rfl rfl ?_
      refine Ex_rt rfl rfl ⟨?_, rfl⟩
      unfold tof
      first | (rw [if_pos (by omega)]; done) | (rw [if_neg (by omega), if_pos (by omega)]; done) | (rw [if_neg (by omega), if_neg (by omega), if_pos (by omega), if_pos (by omega)]; done) | (rw [if_neg (by omega), if_neg (by omega), if_pos (by omega), if_neg (by omega)]; done) | (rw [if_neg (by omega), if_neg (by omega), if_neg (by omega), if_pos (by omega), if_pos (by omega)]; done) | (rw [if_neg (by omega), if_neg (by omega), if_neg (by omega), if_pos (by omega), if_neg (by omega), if_pos (by omega)]; done) | (rw [if_neg (by omega), if_neg (by omega), if_neg (by omega), if_pos (by omega), if_neg (by omega), if_neg (by omega)]; done) | (rw [if_neg (by omega), if_neg (by omega), if_neg (by omega), if_neg (by omega)]; done)
  (first | refine Ex_swN (k := 12) rfl (by omega) (by omega) (fun b5 => ?_) (fun b5_12 => ?_) | refine Ex_sw (fun b5 => ?_) (fun b5_12 => ?_))
  · refine Ex_mv rfl rfl ?_; refine Ex_mv rfl rfl ?_; refine Ex_mv rfl rfl ?_; refine Ex_mv rfl rfl ?_; (first | refine Ex_ne0 (by omega) (fun b80 => ?_) (fun b80 => ?_) | refine Ex_if (fun b80 => ?_) (fun b80 => ?_))
    · refine Ex_mv rfl rfl ?_; refine Ex_invV rfl (by rfl) (by rfl) (by assumption) (by rfl) (c_PL_twoOf hP hi (by decide)) ?_
      refine Ex_rt rfl rfl ⟨?_, rfl⟩
      unfold tof
      first | (rw [if_pos (by omega)]; done) | (rw [if_neg (by omega), if_pos (by omega)]; done) | (rw [if_neg (by omega), if_neg (by omega), if_pos (by omega), if_pos (by omega)]; done) | (rw [if_neg (by omega), if_neg (by omega), if_pos (by omega), if_neg (by omega)]; done) | (rw [if_neg (by omega), if_neg (by omega), if_neg (by omega), if_pos (by omega), if_pos (by omega)]; done) | (rw [if_neg (by omega), if_neg (by omega), if_neg (by omega), if_pos (by omega), if_neg (by omega), if_pos (by omega)]; done) | (rw [if_neg (by omega), if_neg (by omega), if_neg (by omega), if_pos (by omega), if_neg (by omega), if_neg (by omega)]; done) | (rw [if_neg (by omega), if_neg (by omega), if_neg (by omega), if_neg (by omega)]; done)
    · refine Ex_mv rfl rfl ?_; refine Ex_mv rfl rfl ?_; refine Ex_invV rfl (by rfl) (by rfl) (by assumption) (by rfl) (c_PL_twoOf hP hi (by decide)) ?_
      refine Ex_rt rfl rfl ⟨?_, rfl⟩
      unfold tof
      first | (rw [if_pos (by omega)]; done) | (rw [if_neg (by omega), if_pos (by omega)]; done) | (rw [if_neg (by omega), if_neg (by omega), if_pos (by omega), if_pos (by omega)]; done) | (rw [if_neg (by omega), if_neg (by omega), if_pos (by omega), if_neg (by omega)]; done) | (rw [if_neg (by omega), if_neg (by omega), if_neg (by omega), if_pos (by omega), if_pos (by omega)]; done) | (rw [if_neg (by omega), if_neg (by omega), if_neg (by omega), if_pos (by omega), if_neg (by omega), if_pos (by omega)]; done) | (rw [if_neg (by omega), if_neg (by omega), if_neg (by omega), if_pos (by omega), if_neg (by omega), if_neg (by omega)]; done) | (rw [if_neg (by omega), if_neg (by omega), if_neg (by omega), if_neg (by omega)]; done)
  refine Ex_sw0 ?_
  refine Ex_mv rfl rfl ?_
  refine Ex_rt rfl rfl ⟨?_, rfl⟩
  unfold tof
  first | (rw [if_pos (by omega)]; done) | (rw [if_neg (by omega), if_pos (by omega)]; done) | (rw [if_neg (by omega), if_neg (by omega), if_pos (by omega), if_pos (by omega)]; done) | (rw [if_neg (by omega), if_neg (by omega), if_pos (by omega), if_neg (by omega)]; done) | (rw [if_neg (by omega), if_neg (by omega), if_neg (by omega), if_pos (by omega), if_pos (by omega)]; done) | (rw [if_neg (by omega), if_neg (by omega), if_neg (by omega), if_pos (by omega), if_neg (by omega), if_pos (by omega)]; done) | (rw [if_neg (by omega), if_neg (by omega), if_neg (by omega), if_pos (by omega), if_neg (by omega), if_neg (by omega)]; done) | (rw [if_neg (by omega), if_neg (by omega), if_neg (by omega), if_neg (by omega)]; done)
/-! meanings -/
/-- the texts of a place are there -/
def TV (B : List Nat) (S : Nat → Nat) (n : Nat) : Prop := ∀ i, tg B S n i = 1 → st S n i + 3 + tz B S n i ≤ B.length
/-- a MEANING: its tag, its bits, three texts -/
abbrev Mng : Type := Nat × Int64 × List Nat × List Nat × List Nat
def cmpM (x y : Mng) : Int32 :=
  if x.1 ≠ y.1 then c3 x.1 y.1
  else if c3L x.2.1 y.2.1 ≠ nI 0 then c3L x.2.1 y.2.1
  else if cmpL x.2.2.1 y.2.2.1 ≠ nI 0 then cmpL x.2.2.1 y.2.2.1
  else if cmpL x.2.2.2.1 y.2.2.2.1 ≠ nI 0 then cmpL x.2.2.2.1 y.2.2.2.1
  else cmpL x.2.2.2.2 y.2.2.2.2
/-- how many texts a tag has -/
def npt (t : Nat) : Nat := if t = 12 then 2 else if 9 ≤ t then 3 else 1
def mtx (B : List Nat) (S : Nat → Nat) (n i k : Nat) : List Nat := if (3 ≤ tg B S n i ∧ tg B S n i ≤ 6) ∨ npt (tg B S n i) ≤ k then [] else tx B S n (tof B S n i k)
def mng (B : List Nat) (S : Nat → Nat) (n i : Nat) : Mng := (tg B S n i, bts B S n i, mtx B S n i 0, mtx B S n i 1, mtx B S n i 2)
theorem cmpL_self (A : List Nat) : cmpL A A = nI 0 := by
  induction A with
  | nil => rfl
  | cons a A ih => simp [cmpL, ih]
theorem c3L_self (a : Int64) : c3L a a = nI 0 := by simp [c3L, Int64.lt_irrefl]
/-- the texts one behind the other -/
def cmpT (F G : Nat → List Nat) : Nat → Nat → Int32
  | _, 0 => nI 0
  | k, d + 1 => if cmpL (F k) (G k) ≠ nI 0 then cmpL (F k) (G k) else cmpT F G (k + 1) d
theorem ne_nI0 {x : Int32} (h : ¬ x = nI 0) : ¬ x = 0 := h
theorem PL_order_loop {q n' i j : Nat} {B' : List Nat} {S' : Nat → Nat} (hP : PO h p B S n) (hQ : PO h q B' S' n') (hV : TV B S n) (hV' : TV B' S' n') (hi : i < 2 ^ 30) (hj : j < 2 ^ 30) {t m : Nat} (hm : m ≤ 3) : ∀ (d k : Nat) (x8 x9 : Option Value), k + d = m → Ex (prog nb sa) k_PL_order 77 [some (.ref p), some (.int (nI i)), some (.ref q), some (.int (nI j)), some (.int (nI t)), some (.int (nI 0)), some (.int (nI m)), some (.int (nI k)), x8, x9] [] h (fun v h' => v = some (.int (cmpT (fun k => tx B S n (tof B S n i k)) (fun k => tx B' S' n' (tof B' S' n' j k)) k d)) ∧ h' = h)
  | 0, k, x8, x9, hd => by
    refine Ex_mv rfl rfl ?_; refine Ex_mv rfl rfl ?_; refine Ex_mv rfl rfl ?_; refine Ex_ift (nI_le (by omega) (by omega)) ?_; refine Ex_mv rfl rfl ?_
    exact Ex_rt rfl rfl ⟨rfl, rfl⟩
  | d + 1, k, x8, x9, hd => by
    obtain ⟨hp, hR, ⟨g, hg, hgS⟩, hn, hS⟩ := id hP
    obtain ⟨hq, hR', ⟨g', hg', hgS'⟩, hn', hS'⟩ := id hQ
    obtain ⟨f, hr, ha, hB⟩ := id hR
    obtain ⟨f', hr', ha', hB'⟩ := id hR'
    have t1 := tof_lt (S := S) (n := n) hR.lt hi k
    have t2 := tof_lt (S := S') (n := n') hR'.lt hj k
    have s1 := st_le (n := n) hS (tof B S n i k)
    have s2 := st_le (n := n') hS' (tof B' S' n' j k)
    have v1 : tz B S n (tof B S n i k) = 0 ∨ st S n (tof B S n i k) + 3 + tz B S n (tof B S n i k) ≤ B.length := by
      by_cases e : tg B S n (tof B S n i k) = 1
      · exact Or.inr (hV _ e)
      · exact Or.inl (by rw [tz, if_neg e])
    have v2 : tz B' S' n' (tof B' S' n' j k) = 0 ∨ st S' n' (tof B' S' n' j k) + 3 + tz B' S' n' (tof B' S' n' j k) ≤ B'.length := by
      by_cases e : tg B' S' n' (tof B' S' n' j k) = 1
      · exact Or.inr (hV' _ e)
      · exact Or.inl (by rw [tz, if_neg e])
    rw [cmpT]
    by_cases e : cmpL (tx B S n (tof B S n i k)) (tx B' S' n' (tof B' S' n' j k)) = nI 0
    · rw [if_neg (by simpa using e)]
      refine Ex_mv rfl rfl ?_; refine Ex_mv rfl rfl ?_; refine Ex_mv rfl rfl ?_; refine Ex_iff (nI_ge (by omega) (by omega)) ?_; refine Ex_mv rfl rfl ?_; refine Ex_mv rfl rfl ?_; refine Ex_iff (by decide) ?_; refine Ex_mv rfl rfl ?_; refine Ex_mv rfl rfl ?_; refine Ex_mv rfl rfl ?_; refine Ex_invV rfl (by rfl) (by rfl) (by assumption) (by rfl) (c_PL_textOf hP (by omega) (by omega)) ?_; refine Ex_mv rfl rfl ?_; refine Ex_mv rfl rfl ?_; refine Ex_mv rfl rfl ?_; refine Ex_mv rfl rfl ?_; refine Ex_invV rfl (by rfl) (by rfl) (by assumption) (by rfl) (c_PL_textOf hQ (by omega) (by omega)) ?_; refine Ex_mv rfl rfl ?_; refine Ex_mv rfl rfl ?_; refine Ex_getf rfl (by assumption) rfl ?_; refine Ex_mv rfl rfl ?_; refine Ex_mv rfl rfl ?_; refine Ex_invV rfl (by rfl) (by rfl) (by assumption) (by rfl) (c_PL_textAt hP (by omega)) ?_; refine Ex_mv rfl rfl ?_; refine Ex_mv rfl rfl ?_; refine Ex_invV rfl (by rfl) (by rfl) (by assumption) (by rfl) (c_PL_textSize hP (by omega)) ?_; refine Ex_mv rfl rfl ?_; refine Ex_getf rfl (by assumption) rfl ?_; refine Ex_mv rfl rfl ?_; refine Ex_mv rfl rfl ?_; refine Ex_invV rfl (by rfl) (by rfl) (by assumption) (by rfl) (c_PL_textAt hQ (by omega)) ?_; refine Ex_mv rfl rfl ?_; refine Ex_mv rfl rfl ?_; refine Ex_invV rfl (by rfl) (by rfl) (by assumption) (by rfl) (c_PL_textSize hQ (by omega)) ?_; refine Ex_invV rfl (by rfl) (by rfl) (by assumption) (by rfl) (c_RW_order hR hR' v1 v2 (by omega) (by omega)) ?_
      rw [show cmpL (sl B (st S n (tof B S n i k) + 3) (tz B S n (tof B S n i k))) (sl B' (st S' n' (tof B' S' n' j k) + 3) (tz B' S' n' (tof B' S' n' j k))) = nI 0 from e]
      refine Ex_mv rfl rfl ?_; (first | refine Ex_incN rfl rfl ?_ | refine Ex_mv rfl rfl ?_); refine Ex_mv rfl rfl ?_
      exact PL_order_loop hP hQ hV hV' hi hj hm d (k + 1) _ _ (by omega)
    · rw [if_pos e]
      refine Ex_mono (R := fun v h' => v = some (.int (cmpL (tx B S n (tof B S n i k)) (tx B' S' n' (tof B' S' n' j k)))) ∧ h' = h) ?_ (fun v h' q => q)
      refine Ex_mv rfl rfl ?_; refine Ex_mv rfl rfl ?_; refine Ex_mv rfl rfl ?_; refine Ex_iff (nI_ge (by omega) (by omega)) ?_; refine Ex_mv rfl rfl ?_; refine Ex_mv rfl rfl ?_; refine Ex_iff (by decide) ?_; refine Ex_mv rfl rfl ?_; refine Ex_mv rfl rfl ?_; refine Ex_mv rfl rfl ?_; refine Ex_invV rfl (by rfl) (by rfl) (by assumption) (by rfl) (c_PL_textOf hP (by omega) (by omega)) ?_; refine Ex_mv rfl rfl ?_; refine Ex_mv rfl rfl ?_; refine Ex_mv rfl rfl ?_; refine Ex_mv rfl rfl ?_; refine Ex_invV rfl (by rfl) (by rfl) (by assumption) (by rfl) (c_PL_textOf hQ (by omega) (by omega)) ?_; refine Ex_mv rfl rfl ?_; refine Ex_mv rfl rfl ?_; refine Ex_getf rfl (by assumption) rfl ?_; refine Ex_mv rfl rfl ?_; refine Ex_mv rfl rfl ?_; refine Ex_invV rfl (by rfl) (by rfl) (by assumption) (by rfl) (c_PL_textAt hP (by omega)) ?_; refine Ex_mv rfl rfl ?_; refine Ex_mv rfl rfl ?_; refine Ex_invV rfl (by rfl) (by rfl) (by assumption) (by rfl) (c_PL_textSize hP (by omega)) ?_; refine Ex_mv rfl rfl ?_; refine Ex_getf rfl (by assumption) rfl ?_; refine Ex_mv rfl rfl ?_; refine Ex_mv rfl rfl ?_; refine Ex_invV rfl (by rfl) (by rfl) (by assumption) (by rfl) (c_PL_textAt hQ (by omega)) ?_; refine Ex_mv rfl rfl ?_; refine Ex_mv rfl rfl ?_; refine Ex_invV rfl (by rfl) (by rfl) (by assumption) (by rfl) (c_PL_textSize hQ (by omega)) ?_; refine Ex_invV rfl (by rfl) (by rfl) (by assumption) (by rfl) (c_RW_order hR hR' v1 v2 (by omega) (by omega)) ?_; refine Ex_mv rfl rfl ?_; (first | refine Ex_incN rfl rfl ?_ | refine Ex_mv rfl rfl ?_); refine Ex_mv rfl rfl ?_
      generalize hk1 : k + 1 = k1
      by_cases hz : k1 < m
      · have b : ¬ nI m ≤ nI k1 := nI_ge hz (by omega)
        refine Ex_mv rfl rfl ?_; refine Ex_mv rfl rfl ?_; refine Ex_mv rfl rfl ?_; refine Ex_iff b ?_; refine Ex_mv rfl rfl ?_; refine Ex_mv rfl rfl ?_; refine Ex_ift (ne_nI0 e) ?_; refine Ex_mv rfl rfl ?_
        exact Ex_rt rfl rfl ⟨rfl, rfl⟩
      · have b : nI m ≤ nI k1 := nI_le (by omega) (by omega)
        refine Ex_mv rfl rfl ?_; refine Ex_mv rfl rfl ?_; refine Ex_mv rfl rfl ?_; refine Ex_ift b ?_; refine Ex_mv rfl rfl ?_
        exact Ex_rt rfl rfl ⟨rfl, rfl⟩
theorem mtx_of {i k : Nat} (h1 : ¬ (3 ≤ tg B S n i ∧ tg B S n i ≤ 6)) (h2 : k < npt (tg B S n i)) : mtx B S n i k = tx B S n (tof B S n i k) := by rw [mtx, if_neg (by omega)]
theorem mtx_no {i k : Nat} (h2 : npt (tg B S n i) ≤ k) : mtx B S n i k = [] := by rw [mtx, if_pos (Or.inr h2)]
theorem mtx_num {i k : Nat} (h2 : 3 ≤ tg B S n i ∧ tg B S n i ≤ 6) : mtx B S n i k = [] := by rw [mtx, if_pos (Or.inl h2)]
theorem c_PL_order {q n' i j : Nat} {B' : List Nat} {S' : Nat → Nat} (hP : PO h p B S n) (hQ : PO h q B' S' n') (hV : TV B S n) (hV' : TV B' S' n') (hi : i < 2 ^ 30) (hj : j < 2 ^ 30) : Ev (prog nb sa) m_PL_order [.ref p, .int (nI i), .ref q, .int (nI j)] h (some (.int (cmpM (mng B S n i) (mng B' S' n' j)))) h := by
  obtain ⟨hp, hR, ⟨g, hg, hgS⟩, hn, hS⟩ := id hP
  obtain ⟨hq, hR', ⟨g', hg', hgS'⟩, hn', hS'⟩ := id hQ
  have ht := tg_lt (S := S) (n := n) hR.lt i
  have ht' := tg_lt (S := S') (n := n') hR'.lt j
  refine Ev_ofL k_PL_order 10 [some (.ref p), some (.int (nI i)), some (.ref q), some (.int (nI j)), none, none, none, none, none, none] rfl (Nat.le_of_ble_eq_true rfl) rfl ?_
  by_cases e : tg B S n i = tg B' S' n' j
  · have nn : ∀ x : Int32, (¬ x ≠ nI 0) → x = nI 0 := fun x hx => Decidable.not_not.mp hx
    by_cases h1 : 3 ≤ tg B S n i ∧ tg B S n i ≤ 6
    · have em : cmpM (mng B S n i) (mng B' S' n' j) = c3L (bts B S n i) (bts B' S' n' j) := by
        simp only [cmpM, mng, e, ne_eq, not_true_eq_false, if_false, mtx_num h1, mtx_num (e ▸ h1)]
        by_cases hz : c3L (bts B S n i) (bts B' S' n' j) = nI 0
        · simp [hz, cmpL]
        · simp [hz]
      rw [em]
      refine Ex_mv rfl rfl ?_; refine Ex_mv rfl rfl ?_; refine Ex_invV rfl (by rfl) (by rfl) (by assumption) (by rfl) (c_PL_tag hP (by omega)) ?_; refine Ex_mv rfl rfl ?_; refine Ex_mv rfl rfl ?_; refine Ex_mv rfl rfl ?_; refine Ex_mv rfl rfl ?_; refine Ex_invV rfl (by rfl) (by rfl) (by assumption) (by rfl) (c_PL_tag hQ (by omega)) ?_; refine Ex_inv rfl (by rfl) (by rfl) (by rfl) (c_JI_compare (by omega) (by omega)) ?_
      rw [← e, c3_self]
      refine Ex_mv rfl rfl ?_; refine Ex_mv rfl rfl ?_; refine Ex_mv rfl rfl ?_; refine Ex_ift rfl ?_; refine Ex_mv rfl rfl ?_; refine Ex_inv rfl (by rfl) (by rfl) (by rfl) (c_CP_isNumber (by omega)) ?_
      rw [if_pos h1]
      refine Ex_mv rfl rfl ?_; refine Ex_iff (by decide) ?_; refine Ex_mv rfl rfl ?_; refine Ex_mv rfl rfl ?_; refine Ex_invV rfl (by rfl) (by rfl) (by assumption) (by rfl) (c_PL_bits hP (by omega)) ?_; refine Ex_mv rfl rfl ?_; refine Ex_mv rfl rfl ?_; refine Ex_invV rfl (by rfl) (by rfl) (by assumption) (by rfl) (c_PL_bits hQ (by omega)) ?_; refine Ex_inv rfl (by rfl) (by rfl) (by rfl) (c_JL_compare) ?_
      exact Ex_rt rfl rfl ⟨rfl, rfl⟩
    · have eb : bts B S n i = 0 := by rw [bts, if_neg h1]
      have eb' : bts B' S' n' j = 0 := by rw [bts, if_neg (e ▸ h1)]
      have em : cmpM (mng B S n i) (mng B' S' n' j) = cmpT (fun k => tx B S n (tof B S n i k)) (fun k => tx B' S' n' (tof B' S' n' j k)) 0 (npt (tg B S n i)) := by
        have h1' : ¬ (3 ≤ tg B' S' n' j ∧ tg B' S' n' j ≤ 6) := e ▸ h1
        have hnp : npt (tg B S n i) = 1 ∨ npt (tg B S n i) = 2 ∨ npt (tg B S n i) = 3 := by
          unfold npt
          split
          · omega
          · split <;> omega
        have hnp' : npt (tg B' S' n' j) = npt (tg B S n i) := by rw [e]
        simp only [cmpM, mng, e, ne_eq, not_true_eq_false, if_false, eb, eb', c3L_self]
        rcases hnp with q | q | q
        · rw [mtx_of h1 (by omega), mtx_of h1' (by omega), mtx_no (k := 1) (by omega), mtx_no (k := 2) (by omega), mtx_no (B := B') (k := 1) (by omega), mtx_no (B := B') (k := 2) (by omega)]
          rw [e] at q
          rw [q]
          simp only [cmpT, cmpL]
          simp
        · rw [mtx_of h1 (by omega), mtx_of h1' (by omega), mtx_of (k := 1) h1 (by omega), mtx_of (k := 1) h1' (by omega), mtx_no (k := 2) (by omega), mtx_no (B := B') (k := 2) (by omega)]
          rw [e] at q
          rw [q]
          simp only [cmpT, cmpL]
        · rw [mtx_of h1 (by omega), mtx_of h1' (by omega), mtx_of (k := 1) h1 (by omega), mtx_of (k := 1) h1' (by omega), mtx_of (k := 2) h1 (by omega), mtx_of (k := 2) h1' (by omega)]
          rw [e] at q
          rw [q]
          simp only [cmpT, cmpL]
          simp only [ne_eq, ite_not]
          split
          · split
            · split
              · assumption
              · rfl
            · rfl
          · rfl
      rw [em]
      refine Ex_mv rfl rfl ?_; refine Ex_mv rfl rfl ?_; refine Ex_invV rfl (by rfl) (by rfl) (by assumption) (by rfl) (c_PL_tag hP (by omega)) ?_; refine Ex_mv rfl rfl ?_; refine Ex_mv rfl rfl ?_; refine Ex_mv rfl rfl ?_; refine Ex_mv rfl rfl ?_; refine Ex_invV rfl (by rfl) (by rfl) (by assumption) (by rfl) (c_PL_tag hQ (by omega)) ?_; refine Ex_inv rfl (by rfl) (by rfl) (by rfl) (c_JI_compare (by omega) (by omega)) ?_
      rw [← e, c3_self]
      refine Ex_mv rfl rfl ?_; refine Ex_mv rfl rfl ?_; refine Ex_mv rfl rfl ?_; refine Ex_ift rfl ?_; refine Ex_mv rfl rfl ?_; refine Ex_inv rfl (by rfl) (by rfl) (by rfl) (c_CP_isNumber (by omega)) ?_
      rw [if_neg h1]
      refine Ex_mv rfl rfl ?_; refine Ex_ift (by decide) ?_; refine Ex_mv rfl rfl ?_; refine Ex_mv rfl rfl ?_; refine Ex_mv rfl rfl ?_; (first | refine Ex_neN (by omega) (by omega) (fun b53 => ?_) (fun b53 => ?_) | refine Ex_if (fun b53 => ?_) (fun b53 => ?_))
      · refine Ex_mv rfl rfl ?_; refine Ex_mv rfl rfl ?_; refine Ex_mv rfl rfl ?_; (first | refine Ex_ltN (by omega) (by omega) (fun b64 => ?_) (fun b64 => ?_) | refine Ex_if (fun b64 => ?_) (fun b64 => ?_))
        · refine Ex_mv rfl rfl ?_; refine Ex_mv rfl rfl ?_; refine Ex_mv rfl rfl ?_; refine Ex_mv rfl rfl ?_
          rw [show npt (tg B S n i) = _ from (by unfold npt; first | (rw [if_pos (by omega)]; done) | (rw [if_neg (by omega), if_pos (by omega)]; done) | (rw [if_neg (by omega), if_neg (by omega)]; done))]
          exact PL_order_loop hP hQ hV hV' hi hj (by decide) _ 0 _ _ (by rfl)
        · refine Ex_mv rfl rfl ?_; refine Ex_mv rfl rfl ?_; refine Ex_mv rfl rfl ?_; refine Ex_mv rfl rfl ?_; refine Ex_mv rfl rfl ?_
          rw [show npt (tg B S n i) = _ from (by unfold npt; first | (rw [if_pos (by omega)]; done) | (rw [if_neg (by omega), if_pos (by omega)]; done) | (rw [if_neg (by omega), if_neg (by omega)]; done))]
          exact PL_order_loop hP hQ hV hV' hi hj (by decide) _ 0 _ _ (by rfl)
      · refine Ex_mv rfl rfl ?_; refine Ex_mv rfl rfl ?_; refine Ex_mv rfl rfl ?_; refine Ex_mv rfl rfl ?_; refine Ex_mv rfl rfl ?_
        rw [show npt (tg B S n i) = _ from (by unfold npt; first | (rw [if_pos (by omega)]; done) | (rw [if_neg (by omega), if_pos (by omega)]; done) | (rw [if_neg (by omega), if_neg (by omega)]; done))]
        exact PL_order_loop hP hQ hV hV' hi hj (by decide) _ 0 _ _ (by rfl)
  · have em : cmpM (mng B S n i) (mng B' S' n' j) = c3 (tg B S n i) (tg B' S' n' j) := by simp only [cmpM, mng, ne_eq, e, not_false_eq_true, if_true]
    rw [em]
    refine Ex_mv rfl rfl ?_; refine Ex_mv rfl rfl ?_; refine Ex_invV rfl (by rfl) (by rfl) (by assumption) (by rfl) (c_PL_tag hP (by omega)) ?_; refine Ex_mv rfl rfl ?_; refine Ex_mv rfl rfl ?_; refine Ex_mv rfl rfl ?_; refine Ex_mv rfl rfl ?_; refine Ex_invV rfl (by rfl) (by rfl) (by assumption) (by rfl) (c_PL_tag hQ (by omega)) ?_; refine Ex_inv rfl (by rfl) (by rfl) (by rfl) (c_JI_compare (by omega) (by omega)) ?_; refine Ex_mv rfl rfl ?_; refine Ex_mv rfl rfl ?_; refine Ex_mv rfl rfl ?_; refine Ex_iff (c3_ne0 e) ?_; refine Ex_mv rfl rfl ?_
    exact Ex_rt rfl rfl ⟨rfl, rfl⟩
end POOL
end
section
/-! Pool: its changes -/
section POOL2
variable {nb sa : Nat} {h : Hp} {p n : Nat} {B : List Nat} {S : Nat → Nat}
theorem PO.row (hP : PO h p B S n) : RW h (p + 1) B := hP.2.1
theorem c_PL_begin (hP : PO h p B S n) {m : Nat} (hm : m ≤ 61) : EvQ (prog nb sa) m_PL_begin [.ref p, .int (nI m)] h (fun v h' => v = none ∧ PO h' p B (fun _ => 0) m ∧ FrI p (p + 4) h h') := by
  obtain ⟨hp, hR, ⟨g, hg, hgS⟩, hn, hS⟩ := id hP
  obtain ⟨_, h1, e1, rfl, ⟨g1, hg1, hz⟩, F1⟩ := c_JA_fill (nb := nb) (sa := sa) (x := nI 0) (by decide) hg
  have hp1 := F1.at hp (by omega)
  refine EvQ_of k_PL_begin 2 [some (.ref p), some (.int (nI m))] rfl (Nat.le_of_ble_eq_true rfl) rfl ?_
  refine Ex_mv rfl rfl ?_; refine Ex_getf rfl (by assumption) rfl ?_; refine Ex_mv rfl rfl ?_; refine Ex_inv rfl (by rfl) (by rfl) (by rfl) (e1) ?_; refine Ex_mv rfl rfl ?_; refine Ex_mv rfl rfl ?_; refine Ex_putf rfl (by assumption) rfl rfl ?_
  refine Ex_rt rfl rfl ?_
  exact ⟨rfl, ⟨hs_at, (hR.fr F1 (by omega)).fr (FrI.set (lo := p) (hi := p + 1) FrI.rf (by omega) (by omega)) (by omega), ⟨g1, hs_ne (by omega) hg1, hz⟩, hm, fun _ => Nat.zero_le _⟩, ((F1.wd (lo' := p) (hi' := p + 4) (by omega) (by omega))).set (by omega) (by omega)⟩
/-- one more start -/
def upS (S : Nat → Nat) (i a : Nat) : Nat → Nat := fun j => if j = i then a else S j
theorem c_PL_set (hP : PO h p B S n) {i a : Nat} (hi : i < n) (ha : a ≤ 400) : EvQ (prog nb sa) m_PL_set [.ref p, .int (nI i), .int (nI a)] h (fun v h' => v = none ∧ PO h' p B (upS S i a) n ∧ FrI p (p + 4) h h') := by
  obtain ⟨hp, hR, ⟨g, hg, hgS⟩, hn, hS⟩ := id hP
  refine EvQ_of k_PL_set 3 [some (.ref p), some (.int (nI i)), some (.int (nI a))] rfl (Nat.le_of_ble_eq_true rfl) rfl ?_
  refine Ex_mv rfl rfl ?_; refine Ex_mv rfl rfl ?_; refine Ex_invV rfl (by rfl) (by rfl) (by assumption) (by rfl) (c_PL_has hP (by omega)) ?_
  rw [if_pos hi]
  refine Ex_mv rfl rfl ?_; refine Ex_iff (by decide) ?_; refine Ex_mv rfl rfl ?_; refine Ex_getf rfl (by assumption) rfl ?_; refine Ex_mv rfl rfl ?_; refine Ex_mv rfl rfl ?_; refine Ex_iast rfl (by assumption) (vp_in_nI (by omega) (by decide)) ?_
  refine Ex_rt rfl rfl ?_
  refine ⟨rfl, ⟨hs_ne (by omega) hp, hR.fr (FrI.set (lo := p + 3) (hi := p + 4) FrI.rf (by omega) (by omega)) (by omega), ⟨_, hs_at, fun j hj => ?_⟩, hn, fun j => ?_⟩, FrI.rf.set (by omega) (by omega)⟩
  · rw [nI_clamp (by omega)]
    by_cases e : j = i
    · simp [upd, upS, e]
    · simp [upd, upS, e, hgS j hj]
  · unfold upS; split
    · exact ha
    · exact hS j
theorem c_PL_copy {q n' : Nat} {B' : List Nat} {S' : Nat → Nat} (hP : PO h p B S n) (hQ : PO h q B' S' n') (hd : q + 4 ≤ p ∨ p + 4 ≤ q) : EvQ (prog nb sa) m_PL_copy [.ref p, .ref q] h (fun v h' => v = none ∧ PO h' p B' S' n' ∧ FrI p (p + 4) h h') := by
  obtain ⟨hp, hR, ⟨g, hg, hgS⟩, hn, hS⟩ := id hP
  obtain ⟨hq, hR', ⟨g', hg', hgS'⟩, hn', hS'⟩ := id hQ
  obtain ⟨f, hr, ha, hB⟩ := id hR
  obtain ⟨f', hr', ha', hB'⟩ := id hR'
  obtain ⟨_, h1, e1, rfl, R1, F1⟩ := c_RW_take (nb := nb) (sa := sa) hR hR' (by omega) (k := 0) (n := B'.length) (by omega)
  rw [show sl B' 0 B'.length = B' by simp [sl]] at R1
  have hp1 := F1.at hp (by omega)
  have hq1 := F1.at hq (by omega)
  have hg1 := F1.at hg (by omega)
  have hgq := F1.at hg' (by omega)
  have hp2 : ∀ c, (hset h1 (p + 3) c).2.2 p = _ := fun c => hs_ne (by omega) hp1
  have hq2 : ∀ c, (hset h1 (p + 3) c).2.2 q = _ := fun c => hs_ne (by omega) hq1
  refine EvQ_of k_PL_copy 2 [some (.ref p), some (.ref q)] rfl (Nat.le_of_ble_eq_true rfl) rfl ?_
  refine Ex_mv rfl rfl ?_; refine Ex_getf rfl (by assumption) rfl ?_; refine Ex_mv rfl rfl ?_; refine Ex_getf rfl (by assumption) rfl ?_; refine Ex_mv rfl rfl ?_; refine Ex_mv rfl rfl ?_; refine Ex_getf rfl (by assumption) rfl ?_; refine Ex_invV rfl (by rfl) (by rfl) (by assumption) (by rfl) (c_RW_size hR') ?_; refine Ex_invV rfl (by rfl) (by rfl) hr (by rfl) (e1) ?_; refine Ex_mv rfl rfl ?_; refine Ex_mv rfl rfl ?_; refine Ex_getf rfl (by assumption) rfl ?_; refine Ex_mv rfl rfl ?_; refine Ex_mv rfl rfl ?_; refine Ex_getf rfl (by assumption) rfl ?_; refine Ex_mv rfl rfl ?_; refine Ex_mv rfl rfl ?_; refine Ex_acp rfl rfl hgq hg1 rfl (by decide) (by decide) (by decide) (by decide) (by decide) ?_; refine Ex_mv rfl rfl ?_; refine Ex_mv rfl rfl ?_; refine Ex_getf rfl (hq2 _) rfl ?_; refine Ex_putf rfl (hp2 _) rfl rfl ?_
  refine Ex_rt rfl rfl ?_
  refine ⟨rfl, ⟨hs_at, (R1.fr (FrI.set (lo := p + 3) (hi := p + 4) FrI.rf (by omega) (by omega)) (by omega)).fr (FrI.set (lo := p) (hi := p + 1) FrI.rf (by omega) (by omega)) (by omega), ⟨_, hs_ne (by omega) hs_at, fun j hj => ?_⟩, hn', hS'⟩, ((F1.wd (lo' := p) (hi' := p + 4) (by omega) (by omega)).set (by omega) (by omega)).set (by omega) (by omega)⟩
  rw [pk_cpy_in (by rw [show (nI 0).toNatClampNeg = 0 from by decide]; omega) (by rw [show (nI 0).toNatClampNeg = 0 from by decide, show (nI 61).toNatClampNeg = 61 from by decide]; omega), show (nI 0).toNatClampNeg = 0 from by decide, Nat.zero_add, Nat.sub_zero]
  exact hgS' j hj
end POOL2
end
section
/-! Sorts: types and methods' sorts as bytes -/
def sbr (T : List Nat) : Nat → Nat → Nat
  | 0, q => q
  | d + 1, q => if b1 T q = 91 then sbr T d (q + 1) else q
def snm (T : List Nat) : Nat → Nat → Option Nat
  | 0, _ => none
  | d + 1, q => if b1 T q = 59 then some q else snm T d (q + 1)
def isB (c : Nat) : Bool := decide (c = 66) || decide (c = 67) || decide (c = 68) || decide (c = 70) || decide (c = 73) || decide (c = 74) || decide (c = 83) || decide (c = 90)
/-- the end of a name that begins at q: behind its ; -/
def nmE (T : List Nat) (q : Nat) : Option Nat := match snm T (T.length - q) q with
  | none => none
  | some e => if e = q then none else some (e + 1)
/-- the end of the TYPE that begins at p -/
def tyE (T : List Nat) (p : Nat) : Option Nat :=
  if T.length ≤ sbr T (T.length - p) p ∨ 255 < sbr T (T.length - p) p - p then none
  else if isB (b1 T (sbr T (T.length - p) p)) then some (sbr T (T.length - p) p + 1)
  else if b1 T (sbr T (T.length - p) p) = 76 then nmE T (sbr T (T.length - p) p + 1) else none
theorem sbr_ge (T : List Nat) : ∀ d q, q ≤ sbr T d q
  | 0, q => Nat.le_refl _
  | d + 1, q => by
    unfold sbr
    split
    · have := sbr_ge T d (q + 1); omega
    · exact Nat.le_refl _
theorem sbr_le (T : List Nat) : ∀ d q, sbr T d q ≤ q + d
  | 0, q => Nat.le_refl _
  | d + 1, q => by
    unfold sbr
    split
    · have := sbr_le T d (q + 1); omega
    · omega
theorem snm_b (T : List Nat) : ∀ d q e, snm T d q = some e → q ≤ e ∧ e < q + d ∧ b1 T e = 59
  | 0, q, e, h => by simp [snm] at h
  | d + 1, q, e, h => by
    unfold snm at h
    split at h
    · simp at h; subst h; exact ⟨Nat.le_refl _, by omega, by assumption⟩
    · have := snm_b T d (q + 1) e h; exact ⟨by omega, by omega, this.2.2⟩
theorem nmE_b {T : List Nat} {q e : Nat} (h : nmE T q = some e) : q + 1 < e ∧ e ≤ T.length := by
  unfold nmE at h
  split at h
  · cases h
  · next x hx =>
    have := snm_b T _ _ _ hx
    split at h
    · cases h
    · simp at h; omega
/-- a type has an end behind its beginning, within -/
theorem tyE_b {T : List Nat} {p e : Nat} (h : tyE T p = some e) : p < e ∧ e ≤ T.length := by
  have := sbr_ge T (T.length - p) p
  unfold tyE at h
  split at h
  · cases h
  · split at h
    · simp at h; omega
    · split at h
      · have := nmE_b h; omega
      · cases h
def oI (a : Nat) (o : Option Nat) : Int32 := match o with
  | some q => nI (a + q)
  | none => -1
theorem nI_nm1 {n : Nat} (h : n < 2 ^ 31) : ¬ nI n = -1 := by
  intro e
  have := congrArg Int32.toInt e
  rw [nI_toInt h] at this
  have h2 : (-1 : Int32).toInt = -1 := by decide
  omega
theorem m1_lt {n : Nat} (h : n < 2 ^ 31) : ¬ nI n ≤ -1 := by
  rw [Int32.le_iff_toInt_le, nI_toInt h]
  have h2 : (-1 : Int32).toInt = -1 := by decide
  omega
theorem b1_sl {B : List Nat} {a n j : Nat} (h : j < n) : b1 (sl B a n) j = b1 B (a + j) := sl_get h
section SORTS
variable {nb sa : Nat} {h : Hp} {r a : Nat} {B T : List Nat}
/-- a text that lies in a row -/
def TI (h : Hp) (r : Nat) (B T : List Nat) (a : Nat) : Prop := RW h r B ∧ T = sl B a T.length ∧ a + T.length ≤ B.length
theorem TI.b (hT : TI h r B T a) {j : Nat} (hj : j < T.length) : b1 B (a + j) = b1 T j := by
  rw [hT.2.1, b1_sl hj]
theorem TI.lt (hT : TI h r B T a) (j : Nat) : b1 T j < 256 := by
  by_cases hj : j < T.length
  · rw [← hT.b hj]; exact b1_lt hT.1.lt _
  · rw [b1_out (by omega)]; decide
theorem SO_nameEnd_loop (hT : TI h r B T a) {p : Nat} : ∀ (d q : Nat), q + d = T.length → p ≤ q → Ex (prog nb sa) k_SO_nameEnd 2 [some (.ref r), some (.int (nI (a + p))), some (.int (nI (a + T.length))), some (.int (nI (a + q)))] [] h (fun v h' => v = some (.int (oI a (match snm T d q with | none => none | some e => if e = p then none else some (e + 1)))) ∧ h' = h)
  | 0, q, hd, hp => by
    have := hT.1.len; have := hT.2.2
    refine Ex_mv rfl rfl ?_; refine Ex_mv rfl rfl ?_; refine Ex_mv rfl rfl ?_; refine Ex_ift (nI_le (by omega) (by omega)) ?_; refine Ex_mv rfl rfl ?_
    exact Ex_rt rfl rfl ⟨rfl, rfl⟩
  | d + 1, q, hd, hp => by
    have := hT.1.len; have := hT.2.2
    obtain ⟨f, hr, ha, hB⟩ := id hT.1
    have hb := hT.b (j := q) (by omega)
    have hl := hT.lt q
    unfold snm
    by_cases e : b1 T q = 59
    · rw [if_pos e]
      by_cases e2 : q = p
      · refine Ex_mv rfl rfl ?_; refine Ex_mv rfl rfl ?_; refine Ex_mv rfl rfl ?_; refine Ex_iff (nI_ge (by omega) (by omega)) ?_; refine Ex_mv rfl rfl ?_; refine Ex_mv rfl rfl ?_; refine Ex_invV rfl (by rfl) (by rfl) (by assumption) (by rfl) (c_RW_one hT.1 (by omega)) ?_; refine Ex_mv rfl rfl ?_; refine Ex_mv rfl rfl ?_; refine Ex_iff (by rw [hb, e]; decide) ?_; refine Ex_mv rfl rfl ?_; refine Ex_mv rfl rfl ?_; refine Ex_mv rfl rfl ?_; refine Ex_iff (by rw [e2]; exact not_not_intro rfl) ?_; refine Ex_mv rfl rfl ?_; refine Ex_mv rfl rfl ?_
        refine Ex_rt rfl rfl ⟨?_, rfl⟩
        simp [e2, oI]
      · refine Ex_mv rfl rfl ?_; refine Ex_mv rfl rfl ?_; refine Ex_mv rfl rfl ?_; refine Ex_iff (nI_ge (by omega) (by omega)) ?_; refine Ex_mv rfl rfl ?_; refine Ex_mv rfl rfl ?_; refine Ex_invV rfl (by rfl) (by rfl) (by assumption) (by rfl) (c_RW_one hT.1 (by omega)) ?_; refine Ex_mv rfl rfl ?_; refine Ex_mv rfl rfl ?_; refine Ex_iff (by rw [hb, e]; decide) ?_; refine Ex_mv rfl rfl ?_; refine Ex_mv rfl rfl ?_; refine Ex_mv rfl rfl ?_; refine Ex_ift (fun z => absurd ((nI_eq (by omega) (by omega)).mp z) (by omega)) ?_; refine Ex_mv rfl rfl ?_; refine Ex_mv rfl rfl ?_; (first | refine Ex_addN rfl ?_ | refine Ex_mv rfl rfl ?_)
        refine Ex_rt rfl rfl ⟨?_, rfl⟩
        simp [e2, oI, Nat.add_assoc]
    · rw [if_neg e]
      refine Ex_mv rfl rfl ?_; refine Ex_mv rfl rfl ?_; refine Ex_mv rfl rfl ?_; refine Ex_iff (nI_ge (by omega) (by omega)) ?_; refine Ex_mv rfl rfl ?_; refine Ex_mv rfl rfl ?_; refine Ex_invV rfl (by rfl) (by rfl) (by assumption) (by rfl) (c_RW_one hT.1 (by omega)) ?_; refine Ex_mv rfl rfl ?_; refine Ex_mv rfl rfl ?_; refine Ex_ift (fun z => e (by rw [← hb]; exact (nI_eq (by omega) (by decide)).mp z)) ?_; (first | refine Ex_incN rfl rfl ?_ | refine Ex_mv rfl rfl ?_); refine Ex_mv rfl rfl ?_
      rw [Nat.add_assoc]
      exact SO_nameEnd_loop hT d (q + 1) (by omega) (by omega)
theorem c_SO_nameEnd (hT : TI h r B T a) {p : Nat} (hp : p ≤ T.length) : Ev (prog nb sa) m_SO_nameEnd [.ref r, .int (nI (a + p)), .int (nI (a + T.length))] h (some (.int (oI a (nmE T p)))) h := by
  refine Ev_ofL k_SO_nameEnd 4 [some (.ref r), some (.int (nI (a + p))), some (.int (nI (a + T.length))), none] rfl (Nat.le_of_ble_eq_true rfl) rfl ?_
  refine Ex_mv rfl rfl ?_; refine Ex_mv rfl rfl ?_
  exact SO_nameEnd_loop hT (T.length - p) p (by omega) (Nat.le_refl _)
theorem SO_typeEnd_loop (hT : TI h r B T a) {p : Nat} {R : Option Value → Hp → Prop} : ∀ (d q : Nat), q + d = T.length → (Ex (prog nb sa) k_SO_typeEnd 23 [some (.ref r), some (.int (nI (a + p))), some (.int (nI (a + T.length))), some (.int (nI (a + sbr T d q)))] [] h R) → Ex (prog nb sa) k_SO_typeEnd 2 [some (.ref r), some (.int (nI (a + p))), some (.int (nI (a + T.length))), some (.int (nI (a + q)))] [] h R
  | 0, q, hd, K => by
    have := hT.1.len; have := hT.2.2
    refine Ex_mv rfl rfl ?_; refine Ex_mv rfl rfl ?_; refine Ex_mv rfl rfl ?_; refine Ex_ift (nI_le (by omega) (by omega)) ?_
    exact K
  | d + 1, q, hd, K => by
    have := hT.1.len; have := hT.2.2
    obtain ⟨f, hr, ha, hB⟩ := id hT.1
    have hb := hT.b (j := q) (by omega)
    have hl := hT.lt q
    unfold sbr at K
    by_cases e : b1 T q = 91
    · rw [if_pos e] at K
      refine Ex_mv rfl rfl ?_; refine Ex_mv rfl rfl ?_; refine Ex_mv rfl rfl ?_; refine Ex_iff (nI_ge (by omega) (by omega)) ?_; refine Ex_mv rfl rfl ?_; refine Ex_mv rfl rfl ?_; refine Ex_invV rfl (by rfl) (by rfl) (by assumption) (by rfl) (c_RW_one hT.1 (by omega)) ?_; refine Ex_mv rfl rfl ?_; refine Ex_mv rfl rfl ?_; refine Ex_iff (by rw [hb, e]; decide) ?_; (first | refine Ex_incN rfl rfl ?_ | refine Ex_mv rfl rfl ?_); refine Ex_mv rfl rfl ?_
      rw [Nat.add_assoc]
      exact SO_typeEnd_loop hT d (q + 1) (by omega) K
    · rw [if_neg e] at K
      refine Ex_mv rfl rfl ?_; refine Ex_mv rfl rfl ?_; refine Ex_mv rfl rfl ?_; refine Ex_iff (nI_ge (by omega) (by omega)) ?_; refine Ex_mv rfl rfl ?_; refine Ex_mv rfl rfl ?_; refine Ex_invV rfl (by rfl) (by rfl) (by assumption) (by rfl) (c_RW_one hT.1 (by omega)) ?_; refine Ex_mv rfl rfl ?_; refine Ex_mv rfl rfl ?_; refine Ex_ift (fun z => e (by rw [← hb]; exact (nI_eq (by omega) (by decide)).mp z)) ?_
      exact K
theorem c_SO_typeEnd (hT : TI h r B T a) {p : Nat} (hp : p ≤ T.length) : Ev (prog nb sa) m_SO_typeEnd [.ref r, .int (nI (a + p)), .int (nI (a + T.length))] h (some (.int (oI a (tyE T p)))) h := by
  have hz := hT.1.len; have hz2 := hT.2.2
  obtain ⟨f, hr, ha, hB⟩ := id hT.1
  have g1 := sbr_ge T (T.length - p) p
  have g2 := sbr_le T (T.length - p) p
  refine Ev_ofL k_SO_typeEnd 4 [some (.ref r), some (.int (nI (a + p))), some (.int (nI (a + T.length))), none] rfl (Nat.le_of_ble_eq_true rfl) rfl ?_
  refine Ex_mv rfl rfl ?_; refine Ex_mv rfl rfl ?_
  refine SO_typeEnd_loop hT (T.length - p) p (by omega) ?_
  unfold tyE
  generalize sbr T (T.length - p) p = q at g1 g2 ⊢
  by_cases h1 : T.length ≤ q ∨ 255 < q - p
  · rw [if_pos h1]
    refine Ex_mv rfl rfl ?_; refine Ex_mv rfl rfl ?_; refine Ex_mv rfl rfl ?_; (first | refine Ex_leN (by omega) (by omega) (fun b25 => ?_) (fun b25 => ?_) | refine Ex_if (fun b25 => ?_) (fun b25 => ?_))
    · refine Ex_mv rfl rfl ?_
      refine Ex_rt rfl rfl ⟨?_, rfl⟩
      first | rfl | (exfalso; omega)
    · refine Ex_mv rfl rfl ?_; refine Ex_mv rfl rfl ?_; (first | refine Ex_subN rfl (by omega) ?_ | refine Ex_mv rfl rfl ?_); refine Ex_mv rfl rfl ?_; refine Ex_mv rfl rfl ?_; (first | refine Ex_leN (by omega) (by omega) (fun b34 => ?_) (fun b34 => ?_) | refine Ex_if (fun b34 => ?_) (fun b34 => ?_))
      · exfalso; omega
      · refine Ex_mv rfl rfl ?_
        refine Ex_rt rfl rfl ⟨?_, rfl⟩
        first | rfl | (exfalso; omega)
  · rw [if_neg h1]
    have hb := hT.b (j := q) (by omega)
    have hl := hT.lt q
    refine Ex_mv rfl rfl ?_; refine Ex_mv rfl rfl ?_; refine Ex_mv rfl rfl ?_; refine Ex_iff (nI_ge (by omega) (by omega)) ?_
    refine Ex_mv rfl rfl ?_; refine Ex_mv rfl rfl ?_; refine Ex_subN rfl (by omega) ?_; refine Ex_mv rfl rfl ?_; refine Ex_mv rfl rfl ?_; refine Ex_ift (nI_le (by omega) (by omega)) ?_
    refine Ex_mv rfl rfl ?_; refine Ex_mv rfl rfl ?_; refine Ex_invV rfl (by rfl) (by rfl) (by assumption) (by rfl) (c_RW_one hT.1 (by omega)) ?_
    rw [hb]
    refine Ex_mv rfl rfl ?_
    (first | refine Ex_swN (k := 66) rfl (by omega) (by omega) (fun b44 => ?_) (fun b44_66 => ?_) | refine Ex_sw (fun b44 => ?_) (fun b44_66 => ?_))
    · refine Ex_mv rfl rfl ?_; refine Ex_mv rfl rfl ?_; (first | refine Ex_addN rfl ?_ | refine Ex_mv rfl rfl ?_)
      refine Ex_rt rfl rfl ⟨?_, rfl⟩
      first | (rw [if_pos (by simp [isB]; omega)]; simp [oI, Nat.add_assoc]; done) | (rw [if_neg (by simp [isB]; omega), if_pos (by omega)]; done) | (rw [if_neg (by simp [isB]; omega), if_neg (by omega)]; rfl)
    (first | refine Ex_swN (k := 67) rfl (by omega) (by omega) (fun b44 => ?_) (fun b44_67 => ?_) | refine Ex_sw (fun b44 => ?_) (fun b44_67 => ?_))
    · refine Ex_mv rfl rfl ?_; refine Ex_mv rfl rfl ?_; (first | refine Ex_addN rfl ?_ | refine Ex_mv rfl rfl ?_)
      refine Ex_rt rfl rfl ⟨?_, rfl⟩
      first | (rw [if_pos (by simp [isB]; omega)]; simp [oI, Nat.add_assoc]; done) | (rw [if_neg (by simp [isB]; omega), if_pos (by omega)]; done) | (rw [if_neg (by simp [isB]; omega), if_neg (by omega)]; rfl)
    (first | refine Ex_swN (k := 68) rfl (by omega) (by omega) (fun b44 => ?_) (fun b44_68 => ?_) | refine Ex_sw (fun b44 => ?_) (fun b44_68 => ?_))
    · refine Ex_mv rfl rfl ?_; refine Ex_mv rfl rfl ?_; (first | refine Ex_addN rfl ?_ | refine Ex_mv rfl rfl ?_)
      refine Ex_rt rfl rfl ⟨?_, rfl⟩
      first | (rw [if_pos (by simp [isB]; omega)]; simp [oI, Nat.add_assoc]; done) | (rw [if_neg (by simp [isB]; omega), if_pos (by omega)]; done) | (rw [if_neg (by simp [isB]; omega), if_neg (by omega)]; rfl)
    (first | refine Ex_swN (k := 69) rfl (by omega) (by omega) (fun b44 => ?_) (fun b44_69 => ?_) | refine Ex_sw (fun b44 => ?_) (fun b44_69 => ?_))
    · refine Ex_mv rfl rfl ?_
      refine Ex_rt rfl rfl ⟨?_, rfl⟩
      first | (rw [if_pos (by simp [isB]; omega)]; simp [oI, Nat.add_assoc]; done) | (rw [if_neg (by simp [isB]; omega), if_pos (by omega)]; done) | (rw [if_neg (by simp [isB]; omega), if_neg (by omega)]; rfl)
    (first | refine Ex_swN (k := 70) rfl (by omega) (by omega) (fun b44 => ?_) (fun b44_70 => ?_) | refine Ex_sw (fun b44 => ?_) (fun b44_70 => ?_))
    · refine Ex_mv rfl rfl ?_; refine Ex_mv rfl rfl ?_; (first | refine Ex_addN rfl ?_ | refine Ex_mv rfl rfl ?_)
      refine Ex_rt rfl rfl ⟨?_, rfl⟩
      first | (rw [if_pos (by simp [isB]; omega)]; simp [oI, Nat.add_assoc]; done) | (rw [if_neg (by simp [isB]; omega), if_pos (by omega)]; done) | (rw [if_neg (by simp [isB]; omega), if_neg (by omega)]; rfl)
    (first | refine Ex_swN (k := 71) rfl (by omega) (by omega) (fun b44 => ?_) (fun b44_71 => ?_) | refine Ex_sw (fun b44 => ?_) (fun b44_71 => ?_))
    · refine Ex_mv rfl rfl ?_
      refine Ex_rt rfl rfl ⟨?_, rfl⟩
      first | (rw [if_pos (by simp [isB]; omega)]; simp [oI, Nat.add_assoc]; done) | (rw [if_neg (by simp [isB]; omega), if_pos (by omega)]; done) | (rw [if_neg (by simp [isB]; omega), if_neg (by omega)]; rfl)
    (first | refine Ex_swN (k := 72) rfl (by omega) (by omega) (fun b44 => ?_) (fun b44_72 => ?_) | refine Ex_sw (fun b44 => ?_) (fun b44_72 => ?_))
    · refine Ex_mv rfl rfl ?_
      refine Ex_rt rfl rfl ⟨?_, rfl⟩
      first | (rw [if_pos (by simp [isB]; omega)]; simp [oI, Nat.add_assoc]; done) | (rw [if_neg (by simp [isB]; omega), if_pos (by omega)]; done) | (rw [if_neg (by simp [isB]; omega), if_neg (by omega)]; rfl)
    (first | refine Ex_swN (k := 73) rfl (by omega) (by omega) (fun b44 => ?_) (fun b44_73 => ?_) | refine Ex_sw (fun b44 => ?_) (fun b44_73 => ?_))
    · refine Ex_mv rfl rfl ?_; refine Ex_mv rfl rfl ?_; (first | refine Ex_addN rfl ?_ | refine Ex_mv rfl rfl ?_)
      refine Ex_rt rfl rfl ⟨?_, rfl⟩
      first | (rw [if_pos (by simp [isB]; omega)]; simp [oI, Nat.add_assoc]; done) | (rw [if_neg (by simp [isB]; omega), if_pos (by omega)]; done) | (rw [if_neg (by simp [isB]; omega), if_neg (by omega)]; rfl)
    (first | refine Ex_swN (k := 74) rfl (by omega) (by omega) (fun b44 => ?_) (fun b44_74 => ?_) | refine Ex_sw (fun b44 => ?_) (fun b44_74 => ?_))
    · refine Ex_mv rfl rfl ?_; refine Ex_mv rfl rfl ?_; (first | refine Ex_addN rfl ?_ | refine Ex_mv rfl rfl ?_)
      refine Ex_rt rfl rfl ⟨?_, rfl⟩
      first | (rw [if_pos (by simp [isB]; omega)]; simp [oI, Nat.add_assoc]; done) | (rw [if_neg (by simp [isB]; omega), if_pos (by omega)]; done) | (rw [if_neg (by simp [isB]; omega), if_neg (by omega)]; rfl)
    (first | refine Ex_swN (k := 75) rfl (by omega) (by omega) (fun b44 => ?_) (fun b44_75 => ?_) | refine Ex_sw (fun b44 => ?_) (fun b44_75 => ?_))
    · refine Ex_mv rfl rfl ?_
      refine Ex_rt rfl rfl ⟨?_, rfl⟩
      first | (rw [if_pos (by simp [isB]; omega)]; simp [oI, Nat.add_assoc]; done) | (rw [if_neg (by simp [isB]; omega), if_pos (by omega)]; done) | (rw [if_neg (by simp [isB]; omega), if_neg (by omega)]; rfl)
    (first | refine Ex_swN (k := 76) rfl (by omega) (by omega) (fun b44 => ?_) (fun b44_76 => ?_) | refine Ex_sw (fun b44 => ?_) (fun b44_76 => ?_))
    · refine Ex_mv rfl rfl ?_; refine Ex_mv rfl rfl ?_; refine Ex_mv rfl rfl ?_; (first | refine Ex_addN rfl ?_ | refine Ex_mv rfl rfl ?_); refine Ex_mv rfl rfl ?_
      rw [Nat.add_assoc a q 1]
      refine Ex_inv rfl (by rfl) (by rfl) (by rfl) (c_SO_nameEnd hT (by omega)) ?_
      refine Ex_rt rfl rfl ⟨?_, rfl⟩
      first | (rw [if_pos (by simp [isB]; omega)]; simp [oI, Nat.add_assoc]; done) | (rw [if_neg (by simp [isB]; omega), if_pos (by omega)]; done) | (rw [if_neg (by simp [isB]; omega), if_neg (by omega)]; rfl)
    (first | refine Ex_swN (k := 77) rfl (by omega) (by omega) (fun b44 => ?_) (fun b44_77 => ?_) | refine Ex_sw (fun b44 => ?_) (fun b44_77 => ?_))
    · refine Ex_mv rfl rfl ?_
      refine Ex_rt rfl rfl ⟨?_, rfl⟩
      first | (rw [if_pos (by simp [isB]; omega)]; simp [oI, Nat.add_assoc]; done) | (rw [if_neg (by simp [isB]; omega), if_pos (by omega)]; done) | (rw [if_neg (by simp [isB]; omega), if_neg (by omega)]; rfl)
    (first | refine Ex_swN (k := 78) rfl (by omega) (by omega) (fun b44 => ?_) (fun b44_78 => ?_) | refine Ex_sw (fun b44 => ?_) (fun b44_78 => ?_))
    · refine Ex_mv rfl rfl ?_
      refine Ex_rt rfl rfl ⟨?_, rfl⟩
      first | (rw [if_pos (by simp [isB]; omega)]; simp [oI, Nat.add_assoc]; done) | (rw [if_neg (by simp [isB]; omega), if_pos (by omega)]; done) | (rw [if_neg (by simp [isB]; omega), if_neg (by omega)]; rfl)
    (first | refine Ex_swN (k := 79) rfl (by omega) (by omega) (fun b44 => ?_) (fun b44_79 => ?_) | refine Ex_sw (fun b44 => ?_) (fun b44_79 => ?_))
    · refine Ex_mv rfl rfl ?_
      refine Ex_rt rfl rfl ⟨?_, rfl⟩
      first | (rw [if_pos (by simp [isB]; omega)]; simp [oI, Nat.add_assoc]; done) | (rw [if_neg (by simp [isB]; omega), if_pos (by omega)]; done) | (rw [if_neg (by simp [isB]; omega), if_neg (by omega)]; rfl)
    (first | refine Ex_swN (k := 80) rfl (by omega) (by omega) (fun b44 => ?_) (fun b44_80 => ?_) | refine Ex_sw (fun b44 => ?_) (fun b44_80 => ?_))
    · refine Ex_mv rfl rfl ?_
      refine Ex_rt rfl rfl ⟨?_, rfl⟩
      first | (rw [if_pos (by simp [isB]; omega)]; simp [oI, Nat.add_assoc]; done) | (rw [if_neg (by simp [isB]; omega), if_pos (by omega)]; done) | (rw [if_neg (by simp [isB]; omega), if_neg (by omega)]; rfl)
    (first | refine Ex_swN (k := 81) rfl (by omega) (by omega) (fun b44 => ?_) (fun b44_81 => ?_) | refine Ex_sw (fun b44 => ?_) (fun b44_81 => ?_))
    · refine Ex_mv rfl rfl ?_
      refine Ex_rt rfl rfl ⟨?_, rfl⟩
      first | (rw [if_pos (by simp [isB]; omega)]; simp [oI, Nat.add_assoc]; done) | (rw [if_neg (by simp [isB]; omega), if_pos (by omega)]; done) | (rw [if_neg (by simp [isB]; omega), if_neg (by omega)]; rfl)
    (first | refine Ex_swN (k := 82) rfl (by omega) (by omega) (fun b44 => ?_) (fun b44_82 => ?_) | refine Ex_sw (fun b44 => ?_) (fun b44_82 => ?_))
    · refine Ex_mv rfl rfl ?_
      refine Ex_rt rfl rfl ⟨?_, rfl⟩
      first | (rw [if_pos (by simp [isB]; omega)]; simp [oI, Nat.add_assoc]; done) | (rw [if_neg (by simp [isB]; omega), if_pos (by omega)]; done) | (rw [if_neg (by simp [isB]; omega), if_neg (by omega)]; rfl)
    (first | refine Ex_swN (k := 83) rfl (by omega) (by omega) (fun b44 => ?_) (fun b44_83 => ?_) | refine Ex_sw (fun b44 => ?_) (fun b44_83 => ?_))
    · refine Ex_mv rfl rfl ?_; refine Ex_mv rfl rfl ?_; (first | refine Ex_addN rfl ?_ | refine Ex_mv rfl rfl ?_)
      refine Ex_rt rfl rfl ⟨?_, rfl⟩
      first | (rw [if_pos (by simp [isB]; omega)]; simp [oI, Nat.add_assoc]; done) | (rw [if_neg (by simp [isB]; omega), if_pos (by omega)]; done) | (rw [if_neg (by simp [isB]; omega), if_neg (by omega)]; rfl)
    (first | refine Ex_swN (k := 84) rfl (by omega) (by omega) (fun b44 => ?_) (fun b44_84 => ?_) | refine Ex_sw (fun b44 => ?_) (fun b44_84 => ?_))
    · refine Ex_mv rfl rfl ?_
      refine Ex_rt rfl rfl ⟨?_, rfl⟩
      first | (rw [if_pos (by simp [isB]; omega)]; simp [oI, Nat.add_assoc]; done) | (rw [if_neg (by simp [isB]; omega), if_pos (by omega)]; done) | (rw [if_neg (by simp [isB]; omega), if_neg (by omega)]; rfl)
    (first | refine Ex_swN (k := 85) rfl (by omega) (by omega) (fun b44 => ?_) (fun b44_85 => ?_) | refine Ex_sw (fun b44 => ?_) (fun b44_85 => ?_))
    · refine Ex_mv rfl rfl ?_
      refine Ex_rt rfl rfl ⟨?_, rfl⟩
      first | (rw [if_pos (by simp [isB]; omega)]; simp [oI, Nat.add_assoc]; done) | (rw [if_neg (by simp [isB]; omega), if_pos (by omega)]; done) | (rw [if_neg (by simp [isB]; omega), if_neg (by omega)]; rfl)
    (first | refine Ex_swN (k := 86) rfl (by omega) (by omega) (fun b44 => ?_) (fun b44_86 => ?_) | refine Ex_sw (fun b44 => ?_) (fun b44_86 => ?_))
    · refine Ex_mv rfl rfl ?_
      refine Ex_rt rfl rfl ⟨?_, rfl⟩
      first | (rw [if_pos (by simp [isB]; omega)]; simp [oI, Nat.add_assoc]; done) | (rw [if_neg (by simp [isB]; omega), if_pos (by omega)]; done) | (rw [if_neg (by simp [isB]; omega), if_neg (by omega)]; rfl)
    (first | refine Ex_swN (k := 87) rfl (by omega) (by omega) (fun b44 => ?_) (fun b44_87 => ?_) | refine Ex_sw (fun b44 => ?_) (fun b44_87 => ?_))
    · refine Ex_mv rfl rfl ?_
      refine Ex_rt rfl rfl ⟨?_, rfl⟩
      first | (rw [if_pos (by simp [isB]; omega)]; simp [oI, Nat.add_assoc]; done) | (rw [if_neg (by simp [isB]; omega), if_pos (by omega)]; done) | (rw [if_neg (by simp [isB]; omega), if_neg (by omega)]; rfl)
    (first | refine Ex_swN (k := 88) rfl (by omega) (by omega) (fun b44 => ?_) (fun b44_88 => ?_) | refine Ex_sw (fun b44 => ?_) (fun b44_88 => ?_))
    · refine Ex_mv rfl rfl ?_
      refine Ex_rt rfl rfl ⟨?_, rfl⟩
      first | (rw [if_pos (by simp [isB]; omega)]; simp [oI, Nat.add_assoc]; done) | (rw [if_neg (by simp [isB]; omega), if_pos (by omega)]; done) | (rw [if_neg (by simp [isB]; omega), if_neg (by omega)]; rfl)
    (first | refine Ex_swN (k := 89) rfl (by omega) (by omega) (fun b44 => ?_) (fun b44_89 => ?_) | refine Ex_sw (fun b44 => ?_) (fun b44_89 => ?_))
    · refine Ex_mv rfl rfl ?_
      refine Ex_rt rfl rfl ⟨?_, rfl⟩
      first | (rw [if_pos (by simp [isB]; omega)]; simp [oI, Nat.add_assoc]; done) | (rw [if_neg (by simp [isB]; omega), if_pos (by omega)]; done) | (rw [if_neg (by simp [isB]; omega), if_neg (by omega)]; rfl)
    (first | refine Ex_swN (k := 90) rfl (by omega) (by omega) (fun b44 => ?_) (fun b44_90 => ?_) | refine Ex_sw (fun b44 => ?_) (fun b44_90 => ?_))
    · refine Ex_mv rfl rfl ?_; refine Ex_mv rfl rfl ?_; (first | refine Ex_addN rfl ?_ | refine Ex_mv rfl rfl ?_)
      refine Ex_rt rfl rfl ⟨?_, rfl⟩
      first | (rw [if_pos (by simp [isB]; omega)]; simp [oI, Nat.add_assoc]; done) | (rw [if_neg (by simp [isB]; omega), if_pos (by omega)]; done) | (rw [if_neg (by simp [isB]; omega), if_neg (by omega)]; rfl)
    refine Ex_sw0 ?_
    refine Ex_mv rfl rfl ?_
    refine Ex_rt rfl rfl ⟨?_, rfl⟩
    first | (rw [if_pos (by simp [isB]; omega)]; simp [oI, Nat.add_assoc]; done) | (rw [if_neg (by simp [isB]; omega), if_pos (by omega)]; done) | (rw [if_neg (by simp [isB]; omega), if_neg (by omega)]; rfl)
/-! methods' sorts -/
def clo (T : List Nat) : Nat → Nat → Option Nat
  | 0, _ => none
  | f + 1, p => if p < T.length then (if b1 T p = 41 then some p else match tyE T p with
    | none => none
    | some q => clo T f q) else none
/-- the place of the ) behind ( TYPES -/
def cloT (T : List Nat) : Option Nat := if 0 < T.length ∧ b1 T 0 = 40 then clo T T.length 1 else none
def mthT (T : List Nat) : Bool := match cloT T with
  | none => false
  | some c => (decide (c + 2 = T.length) && decide (b1 T (c + 1) = 86)) || decide (tyE T (c + 1) = some T.length)
def wdT (c : Nat) : Nat := if c = 74 ∨ c = 68 then 2 else 1
/-- slots and types from a place on, up to the ) -/
def sumT (T : List Nat) : Nat → Nat → Nat × Nat
  | 0, _ => (0, 0)
  | f + 1, p => if b1 T p = 41 then (0, 0) else match tyE T p with
    | none => (0, 0)
    | some q => ((sumT T f q).1 + wdT (b1 T p), (sumT T f q).2 + 1)
theorem clo_b (T : List Nat) : ∀ f p c, clo T f p = some c → p ≤ c ∧ c < T.length ∧ b1 T c = 41
  | 0, p, c, h => by simp [clo] at h
  | f + 1, p, c, h => by
    unfold clo at h
    split at h
    · split at h
      · simp at h; subst h; exact ⟨Nat.le_refl _, by assumption, by assumption⟩
      · split at h
        · cases h
        · next q hq =>
          have h1 := clo_b T f q c h
          have h2 := tyE_b hq
          exact ⟨by omega, h1.2⟩
    · cases h
theorem cloT_b {T : List Nat} {c : Nat} (h : cloT T = some c) : 1 ≤ c ∧ c < T.length ∧ b1 T c = 41 := by
  unfold cloT at h
  split at h
  · exact clo_b T _ _ _ h
  · cases h
theorem c_SO_isType (hT : TI h r B T a) {p : Nat} (hp : p ≤ T.length) : Ev (prog nb sa) m_SO_isType [.ref r, .int (nI (a + p)), .int (nI (a + T.length))] h (some (.int (nI (if tyE T p = some T.length then 1 else 0)))) h := by
  have hz := hT.1.len; have hz2 := hT.2.2
  refine Ev_ofL k_SO_isType 3 [some (.ref r), some (.int (nI (a + p))), some (.int (nI (a + T.length)))] rfl (Nat.le_of_ble_eq_true rfl) rfl ?_
  cases e : tyE T p with
  | none =>
    refine Ex_mv rfl rfl ?_; refine Ex_mv rfl rfl ?_; refine Ex_mv rfl rfl ?_; refine Ex_inv rfl (by rfl) (by rfl) (by rfl) (c_SO_typeEnd hT hp) ?_
    rw [e]
    refine Ex_mv rfl rfl ?_; refine Ex_mv rfl rfl ?_; refine Ex_ift (fun z => nI_nm1 (by omega) z.symm) ?_; refine Ex_mv rfl rfl ?_
    refine Ex_rt rfl rfl ⟨?_, rfl⟩
    simp
  | some q =>
    have := tyE_b e
    by_cases hq : q = T.length
    · refine Ex_mv rfl rfl ?_; refine Ex_mv rfl rfl ?_; refine Ex_mv rfl rfl ?_; refine Ex_inv rfl (by rfl) (by rfl) (by rfl) (c_SO_typeEnd hT hp) ?_
      rw [e, hq]
      refine Ex_mv rfl rfl ?_; refine Ex_mv rfl rfl ?_; refine Ex_iff (not_not_intro rfl) ?_; refine Ex_mv rfl rfl ?_; refine Ex_mv rfl rfl ?_
      refine Ex_rt rfl rfl ⟨?_, rfl⟩
      simp [hq]
    · refine Ex_mv rfl rfl ?_; refine Ex_mv rfl rfl ?_; refine Ex_mv rfl rfl ?_; refine Ex_inv rfl (by rfl) (by rfl) (by rfl) (c_SO_typeEnd hT hp) ?_
      rw [e]
      refine Ex_mv rfl rfl ?_; refine Ex_mv rfl rfl ?_; refine Ex_ift (fun z => hq (by have := (nI_eq (a := a + q) (b := a + T.length) (by omega) (by omega)).mp z; omega)) ?_; refine Ex_mv rfl rfl ?_
      refine Ex_rt rfl rfl ⟨?_, rfl⟩
      simp [hq]
theorem c_SO_width (hT : TI h r B T a) {p : Nat} (hp : p < T.length) : Ev (prog nb sa) m_SO_width [.ref r, .int (nI (a + p))] h (some (.int (nI (wdT (b1 T p))))) h := by
  have hz := hT.1.len; have hz2 := hT.2.2
  obtain ⟨f, hr, ha, hB⟩ := id hT.1
  have hb := hT.b hp
  have hl := hT.lt p
  refine Ev_ofL k_SO_width 3 [some (.ref r), some (.int (nI (a + p))), none] rfl (Nat.le_of_ble_eq_true rfl) rfl ?_
  refine Ex_mv rfl rfl ?_; refine Ex_mv rfl rfl ?_; refine Ex_invV rfl (by rfl) (by rfl) (by assumption) (by rfl) (c_RW_one hT.1 (by omega)) ?_
  rw [hb]
  refine Ex_mv rfl rfl ?_; refine Ex_mv rfl rfl ?_; refine Ex_mv rfl rfl ?_; refine Ex_mv rfl rfl ?_; (first | refine Ex_eqN (by omega) (by omega) (fun b9 => ?_) (fun b9 => ?_) | refine Ex_if (fun b9 => ?_) (fun b9 => ?_))
  · refine Ex_mv rfl rfl ?_; refine Ex_mv rfl rfl ?_
    refine Ex_rt rfl rfl ⟨?_, rfl⟩
    first | (rw [wdT, if_pos (by omega)]; done) | (rw [wdT, if_neg (by omega)]; done)
  · refine Ex_mv rfl rfl ?_; refine Ex_mv rfl rfl ?_; refine Ex_mv rfl rfl ?_; (first | refine Ex_neN (by omega) (by omega) (fun b15 => ?_) (fun b15 => ?_) | refine Ex_if (fun b15 => ?_) (fun b15 => ?_))
    · refine Ex_mv rfl rfl ?_
      refine Ex_rt rfl rfl ⟨?_, rfl⟩
      first | (rw [wdT, if_pos (by omega)]; done) | (rw [wdT, if_neg (by omega)]; done)
    · refine Ex_mv rfl rfl ?_; refine Ex_mv rfl rfl ?_
      refine Ex_rt rfl rfl ⟨?_, rfl⟩
      first | (rw [wdT, if_pos (by omega)]; done) | (rw [wdT, if_neg (by omega)]; done)
theorem SO_closing_loop (hT : TI h r B T a) : ∀ (f p i : Nat), i < p → p ≤ T.length → T.length + 1 ≤ p + f → Ex (prog nb sa) k_SO_closing 26 [some (.ref r), some (.int (nI (a + 0))), some (.int (nI (a + T.length))), some (.int (nI (a + p))), some (.int (nI i))] [] h (fun v h' => v = some (.int (oI a (clo T f p))) ∧ h' = h)
  | 0, p, i, h1, h2, h3 => by omega
  | f + 1, p, i, h1, h2, h3 => by
    have hz := hT.1.len; have hz2 := hT.2.2
    obtain ⟨fb, hr, ha, hB⟩ := id hT.1
    have hl := hT.lt p
    unfold clo
    by_cases e1 : p < T.length
    · have hb := hT.b e1
      rw [if_pos e1]
      by_cases e2 : b1 T p = 41
      · rw [if_pos e2]
        refine Ex_mv rfl rfl ?_; refine Ex_mv rfl rfl ?_; refine Ex_mv rfl rfl ?_; refine Ex_iff (nI_ge (by omega) (by decide)) ?_; refine Ex_mv rfl rfl ?_; refine Ex_mv rfl rfl ?_; refine Ex_mv rfl rfl ?_; refine Ex_iff (nI_nm1 (by omega)) ?_; refine Ex_mv rfl rfl ?_; refine Ex_mv rfl rfl ?_; refine Ex_mv rfl rfl ?_; refine Ex_iff (nI_ge (by omega) (by omega)) ?_; refine Ex_mv rfl rfl ?_; refine Ex_mv rfl rfl ?_; refine Ex_invV rfl (by rfl) (by rfl) (by assumption) (by rfl) (c_RW_one hT.1 (by omega)) ?_
        rw [hb, e2]
        refine Ex_mv rfl rfl ?_; refine Ex_mv rfl rfl ?_; refine Ex_ift rfl ?_; refine Ex_mv rfl rfl ?_; refine Ex_mv rfl rfl ?_; refine Ex_mv rfl rfl ?_; refine Ex_iff (nI_ge (by omega) (by omega)) ?_; refine Ex_mv rfl rfl ?_; refine Ex_mv rfl rfl ?_
        exact Ex_rt rfl rfl ⟨rfl, rfl⟩
      · rw [if_neg e2]
        cases e3 : tyE T p with
        | none =>
          refine Ex_mv rfl rfl ?_; refine Ex_mv rfl rfl ?_; refine Ex_mv rfl rfl ?_; refine Ex_iff (nI_ge (by omega) (by decide)) ?_; refine Ex_mv rfl rfl ?_; refine Ex_mv rfl rfl ?_; refine Ex_mv rfl rfl ?_; refine Ex_iff (nI_nm1 (by omega)) ?_; refine Ex_mv rfl rfl ?_; refine Ex_mv rfl rfl ?_; refine Ex_mv rfl rfl ?_; refine Ex_iff (nI_ge (by omega) (by omega)) ?_
          refine Ex_mv rfl rfl ?_; refine Ex_mv rfl rfl ?_; refine Ex_invV rfl (by rfl) (by rfl) (by assumption) (by rfl) (c_RW_one hT.1 (by omega)) ?_
          rw [hb]
          refine Ex_mv rfl rfl ?_; refine Ex_mv rfl rfl ?_; refine Ex_iff (fun z => e2 ((nI_eq (by omega) (by decide)).mp z)) ?_; refine Ex_mv rfl rfl ?_; refine Ex_mv rfl rfl ?_; refine Ex_mv rfl rfl ?_; refine Ex_inv rfl (by rfl) (by rfl) (by rfl) (c_SO_typeEnd hT (by omega)) ?_
          rw [e3]
          refine Ex_mv rfl rfl ?_; (first | refine Ex_incN rfl rfl ?_ | refine Ex_mv rfl rfl ?_); refine Ex_mv rfl rfl ?_; refine Ex_mv rfl rfl ?_; refine Ex_mv rfl rfl ?_; refine Ex_mv rfl rfl ?_; refine Ex_iff (nI_ge (by omega) (by decide)) ?_; refine Ex_mv rfl rfl ?_; refine Ex_mv rfl rfl ?_; refine Ex_mv rfl rfl ?_; refine Ex_ift rfl ?_; refine Ex_mv rfl rfl ?_; refine Ex_mv rfl rfl ?_; refine Ex_mv rfl rfl ?_; refine Ex_iff (m1_lt (by omega)) ?_; refine Ex_mv rfl rfl ?_; refine Ex_mv rfl rfl ?_
          exact Ex_rt rfl rfl ⟨rfl, rfl⟩
        | some q =>
          have := tyE_b e3
          refine Ex_mv rfl rfl ?_; refine Ex_mv rfl rfl ?_; refine Ex_mv rfl rfl ?_; refine Ex_iff (nI_ge (by omega) (by decide)) ?_; refine Ex_mv rfl rfl ?_; refine Ex_mv rfl rfl ?_; refine Ex_mv rfl rfl ?_; refine Ex_iff (nI_nm1 (by omega)) ?_; refine Ex_mv rfl rfl ?_; refine Ex_mv rfl rfl ?_; refine Ex_mv rfl rfl ?_; refine Ex_iff (nI_ge (by omega) (by omega)) ?_; refine Ex_mv rfl rfl ?_; refine Ex_mv rfl rfl ?_; refine Ex_invV rfl (by rfl) (by rfl) (by assumption) (by rfl) (c_RW_one hT.1 (by omega)) ?_
          rw [hb]
          refine Ex_mv rfl rfl ?_; refine Ex_mv rfl rfl ?_; refine Ex_iff (fun z => e2 ((nI_eq (by omega) (by decide)).mp z)) ?_; refine Ex_mv rfl rfl ?_; refine Ex_mv rfl rfl ?_; refine Ex_mv rfl rfl ?_; refine Ex_inv rfl (by rfl) (by rfl) (by rfl) (c_SO_typeEnd hT (by omega)) ?_
          rw [e3]
          refine Ex_mv rfl rfl ?_; (first | refine Ex_incN rfl rfl ?_ | refine Ex_mv rfl rfl ?_); refine Ex_mv rfl rfl ?_
          exact SO_closing_loop hT f q (i + 1) (by omega) (by omega) (by omega)
    · rw [if_neg e1]
      refine Ex_mv rfl rfl ?_; refine Ex_mv rfl rfl ?_; refine Ex_mv rfl rfl ?_; refine Ex_iff (nI_ge (by omega) (by decide)) ?_; refine Ex_mv rfl rfl ?_; refine Ex_mv rfl rfl ?_; refine Ex_mv rfl rfl ?_; refine Ex_iff (nI_nm1 (by omega)) ?_; refine Ex_mv rfl rfl ?_; refine Ex_mv rfl rfl ?_; refine Ex_mv rfl rfl ?_; refine Ex_ift (nI_le (by omega) (by omega)) ?_; refine Ex_mv rfl rfl ?_; refine Ex_mv rfl rfl ?_; refine Ex_mv rfl rfl ?_; refine Ex_ift (nI_le (by omega) (by omega)) ?_; refine Ex_mv rfl rfl ?_
      exact Ex_rt rfl rfl ⟨rfl, rfl⟩
theorem c_SO_closing (hT : TI h r B T a) : Ev (prog nb sa) m_SO_closing [.ref r, .int (nI (a + 0)), .int (nI (a + T.length))] h (some (.int (oI a (cloT T)))) h := by
  have hz := hT.1.len; have hz2 := hT.2.2
  obtain ⟨f, hr, ha, hB⟩ := id hT.1
  have hl := hT.lt 0
  unfold cloT
  refine Ev_ofL k_SO_closing 5 [some (.ref r), some (.int (nI (a + 0))), some (.int (nI (a + T.length))), none, none] rfl (Nat.le_of_ble_eq_true rfl) rfl ?_
  by_cases e : 0 < T.length ∧ b1 T 0 = 40
  · rw [if_pos e]
    have hb := hT.b e.1
    refine Ex_mv rfl rfl ?_; refine Ex_mv rfl rfl ?_; refine Ex_mv rfl rfl ?_; refine Ex_iff (nI_ge (by omega) (by omega)) ?_; refine Ex_mv rfl rfl ?_; refine Ex_mv rfl rfl ?_; refine Ex_invV rfl (by rfl) (by rfl) (by assumption) (by rfl) (c_RW_one hT.1 (by omega)) ?_
    rw [hb, e.2]
    refine Ex_mv rfl rfl ?_; refine Ex_mv rfl rfl ?_; refine Ex_iff (not_not_intro rfl) ?_; refine Ex_mv rfl rfl ?_; refine Ex_mv rfl rfl ?_; (first | refine Ex_addN rfl ?_ | refine Ex_mv rfl rfl ?_); refine Ex_mv rfl rfl ?_; refine Ex_mv rfl rfl ?_; refine Ex_mv rfl rfl ?_; refine Ex_mv rfl rfl ?_
    exact SO_closing_loop hT T.length 1 0 (by omega) (by omega) (by omega)
  · rw [if_neg e]
    by_cases e1 : 0 < T.length
    · have hb := hT.b e1
      refine Ex_mv rfl rfl ?_; refine Ex_mv rfl rfl ?_; refine Ex_mv rfl rfl ?_; refine Ex_iff (nI_ge (by omega) (by omega)) ?_; refine Ex_mv rfl rfl ?_; refine Ex_mv rfl rfl ?_; refine Ex_invV rfl (by rfl) (by rfl) (by assumption) (by rfl) (c_RW_one hT.1 (by omega)) ?_
      rw [hb]
      refine Ex_mv rfl rfl ?_; refine Ex_mv rfl rfl ?_; refine Ex_ift (fun z => e ⟨e1, (nI_eq (by omega) (by decide)).mp z⟩) ?_; refine Ex_mv rfl rfl ?_; refine Ex_mv rfl rfl ?_; refine Ex_mv rfl rfl ?_; refine Ex_mv rfl rfl ?_; refine Ex_mv rfl rfl ?_; refine Ex_mv rfl rfl ?_; refine Ex_mv rfl rfl ?_; refine Ex_iff (by decide) ?_; refine Ex_mv rfl rfl ?_; refine Ex_mv rfl rfl ?_; refine Ex_mv rfl rfl ?_; refine Ex_ift rfl ?_; refine Ex_mv rfl rfl ?_; refine Ex_mv rfl rfl ?_; refine Ex_mv rfl rfl ?_; refine Ex_iff (m1_lt (by omega)) ?_; refine Ex_mv rfl rfl ?_; refine Ex_mv rfl rfl ?_
      exact Ex_rt rfl rfl ⟨rfl, rfl⟩
    · refine Ex_mv rfl rfl ?_; refine Ex_mv rfl rfl ?_; refine Ex_mv rfl rfl ?_; refine Ex_ift (nI_le (by omega) (by omega)) ?_; refine Ex_mv rfl rfl ?_; refine Ex_mv rfl rfl ?_; refine Ex_mv rfl rfl ?_; refine Ex_mv rfl rfl ?_; refine Ex_mv rfl rfl ?_; refine Ex_mv rfl rfl ?_; refine Ex_mv rfl rfl ?_; refine Ex_iff (by decide) ?_; refine Ex_mv rfl rfl ?_; refine Ex_mv rfl rfl ?_; refine Ex_mv rfl rfl ?_; refine Ex_ift rfl ?_; refine Ex_mv rfl rfl ?_; refine Ex_mv rfl rfl ?_; refine Ex_mv rfl rfl ?_; refine Ex_iff (m1_lt (by omega)) ?_; refine Ex_mv rfl rfl ?_; refine Ex_mv rfl rfl ?_
      exact Ex_rt rfl rfl ⟨rfl, rfl⟩
theorem c_SO_isMethod (hT : TI h r B T a) : Ev (prog nb sa) m_SO_isMethod [.ref r, .int (nI (a + 0)), .int (nI (a + T.length))] h (some (.int (nI (if mthT T then 1 else 0)))) h := by
  have hz := hT.1.len; have hz2 := hT.2.2
  obtain ⟨f, hr, ha, hB⟩ := id hT.1
  unfold mthT
  refine Ev_ofL k_SO_isMethod 5 [some (.ref r), some (.int (nI (a + 0))), some (.int (nI (a + T.length))), none, none] rfl (Nat.le_of_ble_eq_true rfl) rfl ?_
  cases e : cloT T with
  | none =>
    refine Ex_mv rfl rfl ?_; refine Ex_mv rfl rfl ?_; refine Ex_mv rfl rfl ?_; refine Ex_inv rfl (by rfl) (by rfl) (by rfl) (c_SO_closing hT) ?_
    rw [e]
    refine Ex_mv rfl rfl ?_; refine Ex_mv rfl rfl ?_; refine Ex_mv rfl rfl ?_; refine Ex_mv rfl rfl ?_; refine Ex_iff (not_not_intro rfl) ?_; refine Ex_mv rfl rfl ?_
    exact Ex_rt rfl rfl ⟨rfl, rfl⟩
  | some c =>
    have hc := cloT_b e
    have hl := hT.lt (c + 1)
    have key : ∀ x4 : Nat, x4 ≤ 1 → Ex (prog nb sa) k_SO_isMethod 40 [some (.ref r), some (.int (nI (a + 0))), some (.int (nI (a + T.length))), some (.int (nI (a + c))), some (.int (nI x4))] [] h (fun v h' => v = some (.int (nI (if x4 = 1 ∨ tyE T (c + 1) = some T.length then 1 else 0))) ∧ h' = h) := by
      intro x4 hx4
      by_cases hx : x4 = 1
      · subst hx
        refine Ex_mv rfl rfl ?_; refine Ex_mv rfl rfl ?_; refine Ex_ift (by decide) ?_; refine Ex_mv rfl rfl ?_; refine Ex_mv rfl rfl ?_
        refine Ex_rt rfl rfl ⟨?_, rfl⟩
        simp
      · have hx0 : x4 = 0 := by omega
        subst hx0
        by_cases ht : tyE T (c + 1) = some T.length
        · refine Ex_mv rfl rfl ?_; refine Ex_mv rfl rfl ?_; refine Ex_iff (by decide) ?_; refine Ex_mv rfl rfl ?_; refine Ex_mv rfl rfl ?_; refine Ex_mv rfl rfl ?_; (first | refine Ex_addN rfl ?_ | refine Ex_mv rfl rfl ?_)
          rw [Nat.add_assoc]
          refine Ex_mv rfl rfl ?_; refine Ex_inv rfl (by rfl) (by rfl) (by rfl) (c_SO_isType hT (by omega)) ?_
          rw [if_pos ht]
          refine Ex_mv rfl rfl ?_; refine Ex_iff (by decide) ?_; refine Ex_mv rfl rfl ?_; refine Ex_mv rfl rfl ?_
          refine Ex_rt rfl rfl ⟨?_, rfl⟩
          simp [ht]
        · refine Ex_mv rfl rfl ?_; refine Ex_mv rfl rfl ?_; refine Ex_iff (by decide) ?_; refine Ex_mv rfl rfl ?_; refine Ex_mv rfl rfl ?_; refine Ex_mv rfl rfl ?_; (first | refine Ex_addN rfl ?_ | refine Ex_mv rfl rfl ?_)
          rw [Nat.add_assoc]
          refine Ex_mv rfl rfl ?_; refine Ex_inv rfl (by rfl) (by rfl) (by rfl) (c_SO_isType hT (by omega)) ?_
          rw [if_neg ht]
          refine Ex_mv rfl rfl ?_; refine Ex_ift (by decide) ?_; refine Ex_mv rfl rfl ?_
          refine Ex_rt rfl rfl ⟨?_, rfl⟩
          simp [ht]
    by_cases h1 : c + 2 = T.length
    · have hb := hT.b (j := c + 1) (by omega)
      by_cases h2 : b1 T (c + 1) = 86
      · refine Ex_mv rfl rfl ?_; refine Ex_mv rfl rfl ?_; refine Ex_mv rfl rfl ?_; refine Ex_inv rfl (by rfl) (by rfl) (by rfl) (c_SO_closing hT) ?_
        rw [e]
        refine Ex_mv rfl rfl ?_; refine Ex_mv rfl rfl ?_; refine Ex_mv rfl rfl ?_; refine Ex_mv rfl rfl ?_; refine Ex_ift (nI_nm1 (by omega)) ?_; refine Ex_mv rfl rfl ?_; refine Ex_mv rfl rfl ?_; (first | refine Ex_addN rfl ?_ | refine Ex_mv rfl rfl ?_); refine Ex_mv rfl rfl ?_; refine Ex_mv rfl rfl ?_; refine Ex_iff (by rw [Nat.add_assoc, h1]; exact not_not_intro rfl) ?_; refine Ex_mv rfl rfl ?_; refine Ex_mv rfl rfl ?_; refine Ex_mv rfl rfl ?_; (first | refine Ex_addN rfl ?_ | refine Ex_mv rfl rfl ?_); refine Ex_invV rfl (by rfl) (by rfl) (by assumption) (by rfl) (c_RW_one hT.1 (by omega)) ?_
        rw [Nat.add_assoc, hb, h2]
        refine Ex_mv rfl rfl ?_; refine Ex_mv rfl rfl ?_; refine Ex_iff (not_not_intro rfl) ?_; refine Ex_mv rfl rfl ?_; refine Ex_mv rfl rfl ?_; refine Ex_mv rfl rfl ?_
        refine Ex_mono (key 1 (by decide)) ?_
        rintro v h' ⟨rfl, rfl⟩
        simp [h1, h2]
      · refine Ex_mv rfl rfl ?_; refine Ex_mv rfl rfl ?_; refine Ex_mv rfl rfl ?_; refine Ex_inv rfl (by rfl) (by rfl) (by rfl) (c_SO_closing hT) ?_
        rw [e]
        refine Ex_mv rfl rfl ?_; refine Ex_mv rfl rfl ?_; refine Ex_mv rfl rfl ?_; refine Ex_mv rfl rfl ?_; refine Ex_ift (nI_nm1 (by omega)) ?_; refine Ex_mv rfl rfl ?_; refine Ex_mv rfl rfl ?_; (first | refine Ex_addN rfl ?_ | refine Ex_mv rfl rfl ?_); refine Ex_mv rfl rfl ?_; refine Ex_mv rfl rfl ?_; refine Ex_iff (by rw [Nat.add_assoc, h1]; exact not_not_intro rfl) ?_; refine Ex_mv rfl rfl ?_; refine Ex_mv rfl rfl ?_; refine Ex_mv rfl rfl ?_; (first | refine Ex_addN rfl ?_ | refine Ex_mv rfl rfl ?_); refine Ex_invV rfl (by rfl) (by rfl) (by assumption) (by rfl) (c_RW_one hT.1 (by omega)) ?_
        rw [Nat.add_assoc, hb]
        refine Ex_mv rfl rfl ?_; refine Ex_mv rfl rfl ?_; refine Ex_ift (fun z => h2 ((nI_eq (by omega) (by decide)).mp z)) ?_; refine Ex_mv rfl rfl ?_; refine Ex_mv rfl rfl ?_
        refine Ex_mono (key 0 (by decide)) ?_
        rintro v h' ⟨rfl, rfl⟩
        simp [h2]
    · refine Ex_mv rfl rfl ?_; refine Ex_mv rfl rfl ?_; refine Ex_mv rfl rfl ?_; refine Ex_inv rfl (by rfl) (by rfl) (by rfl) (c_SO_closing hT) ?_
      rw [e]
      refine Ex_mv rfl rfl ?_; refine Ex_mv rfl rfl ?_; refine Ex_mv rfl rfl ?_; refine Ex_mv rfl rfl ?_; refine Ex_ift (nI_nm1 (by omega)) ?_; refine Ex_mv rfl rfl ?_; refine Ex_mv rfl rfl ?_; (first | refine Ex_addN rfl ?_ | refine Ex_mv rfl rfl ?_); refine Ex_mv rfl rfl ?_; refine Ex_mv rfl rfl ?_; refine Ex_ift (fun z => h1 (by have := (nI_eq (a := a + c + 2) (b := a + T.length) (by omega) (by omega)).mp z; omega)) ?_; refine Ex_mv rfl rfl ?_; refine Ex_mv rfl rfl ?_
      refine Ex_mono (key 0 (by decide)) ?_
      rintro v h' ⟨rfl, rfl⟩
      simp [h1]
/-- slots or types of a method's sort -/
def pick (w : Bool) (x : Nat × Nat) : Nat := if w then x.1 else x.2
theorem SO_sum_loop (hT : TI h r B T a) {w : Bool} : ∀ (f p i s c : Nat), clo T f p = some c → i < p → s ≤ 2 * p → Ex (prog nb sa) k_SO_sum 11 [some (.ref r), some (.int (nI (a + 0))), some (.int (nI (a + T.length))), some (.int (nI (if w then 1 else 0))), some (.int (nI s)), some (.int (nI (a + p))), some (.int (nI i))] [] h (fun v h' => v = some (.int (nI (s + pick w (sumT T f p)))) ∧ h' = h)
  | 0, p, i, s, c, hc, h1, h2 => by simp [clo] at hc
  | f + 1, p, i, s, c, hc, h1, h2 => by
    have hz := hT.1.len; have hz2 := hT.2.2
    obtain ⟨fb, hr, ha, hB⟩ := id hT.1
    have hl := hT.lt p
    have hcb := clo_b T _ _ _ hc
    have hb := hT.b (j := p) (by omega)
    unfold clo at hc
    rw [if_pos (by omega)] at hc
    unfold sumT
    by_cases e2 : b1 T p = 41
    · rw [if_pos e2]
      refine Ex_mv rfl rfl ?_; refine Ex_mv rfl rfl ?_; refine Ex_mv rfl rfl ?_; refine Ex_iff (nI_ge (by omega) (by decide)) ?_; refine Ex_mv rfl rfl ?_; refine Ex_mv rfl rfl ?_; refine Ex_mv rfl rfl ?_; refine Ex_iff (nI_nm1 (by omega)) ?_; refine Ex_mv rfl rfl ?_; refine Ex_mv rfl rfl ?_; refine Ex_invV rfl (by rfl) (by rfl) (by assumption) (by rfl) (c_RW_one hT.1 (by omega)) ?_
      rw [hb, e2]
      refine Ex_mv rfl rfl ?_; refine Ex_mv rfl rfl ?_; refine Ex_ift rfl ?_; refine Ex_mv rfl rfl ?_
      refine Ex_rt rfl rfl ⟨?_, rfl⟩
      cases w <;> rfl
    · rw [if_neg e2] at hc ⊢
      cases e3 : tyE T p with
      | none => rw [e3] at hc; cases hc
      | some q =>
        rw [e3] at hc
        have hq := tyE_b e3
        have hwd : wdT (b1 T p) ≤ 2 := by unfold wdT; split <;> omega
        cases w with
        | true =>
          refine Ex_mv rfl rfl ?_; refine Ex_mv rfl rfl ?_; refine Ex_mv rfl rfl ?_; refine Ex_iff (nI_ge (by omega) (by decide)) ?_; refine Ex_mv rfl rfl ?_; refine Ex_mv rfl rfl ?_; refine Ex_mv rfl rfl ?_; refine Ex_iff (nI_nm1 (by omega)) ?_; refine Ex_mv rfl rfl ?_; refine Ex_mv rfl rfl ?_; refine Ex_invV rfl (by rfl) (by rfl) (by assumption) (by rfl) (c_RW_one hT.1 (by omega)) ?_
          rw [hb]
          refine Ex_mv rfl rfl ?_; refine Ex_mv rfl rfl ?_; refine Ex_iff (fun z => e2 ((nI_eq (by omega) (by decide)).mp z)) ?_; refine Ex_mv rfl rfl ?_; refine Ex_mv rfl rfl ?_; refine Ex_mv rfl rfl ?_; refine Ex_iff (by decide) ?_; refine Ex_mv rfl rfl ?_; refine Ex_mv rfl rfl ?_; refine Ex_inv rfl (by rfl) (by rfl) (by rfl) (c_SO_width hT (by omega)) ?_; refine Ex_mv rfl rfl ?_; (first | refine Ex_addN rfl ?_ | refine Ex_mv rfl rfl ?_); refine Ex_mv rfl rfl ?_; refine Ex_mv rfl rfl ?_; refine Ex_mv rfl rfl ?_; refine Ex_mv rfl rfl ?_; refine Ex_inv rfl (by rfl) (by rfl) (by rfl) (c_SO_typeEnd hT (by omega)) ?_
          rw [e3]
          refine Ex_mv rfl rfl ?_; (first | refine Ex_incN rfl rfl ?_ | refine Ex_mv rfl rfl ?_); refine Ex_mv rfl rfl ?_
          refine Ex_mono (SO_sum_loop hT (w := true) f q (i + 1) (s + wdT (b1 T p)) c hc (by omega) (by omega)) ?_
          rintro v h' ⟨rfl, rfl⟩
          simp only [pick, if_true]
          refine ⟨?_, trivial⟩
          congr 3
          omega
        | false =>
          refine Ex_mv rfl rfl ?_; refine Ex_mv rfl rfl ?_; refine Ex_mv rfl rfl ?_; refine Ex_iff (nI_ge (by omega) (by decide)) ?_; refine Ex_mv rfl rfl ?_; refine Ex_mv rfl rfl ?_; refine Ex_mv rfl rfl ?_; refine Ex_iff (nI_nm1 (by omega)) ?_; refine Ex_mv rfl rfl ?_; refine Ex_mv rfl rfl ?_; refine Ex_invV rfl (by rfl) (by rfl) (by assumption) (by rfl) (c_RW_one hT.1 (by omega)) ?_
          rw [hb]
          refine Ex_mv rfl rfl ?_; refine Ex_mv rfl rfl ?_; refine Ex_iff (fun z => e2 ((nI_eq (by omega) (by decide)).mp z)) ?_; refine Ex_mv rfl rfl ?_; refine Ex_mv rfl rfl ?_; refine Ex_mv rfl rfl ?_; refine Ex_ift (by decide) ?_; refine Ex_mv rfl rfl ?_; (first | refine Ex_addN rfl ?_ | refine Ex_mv rfl rfl ?_); refine Ex_mv rfl rfl ?_; refine Ex_mv rfl rfl ?_; refine Ex_mv rfl rfl ?_; refine Ex_mv rfl rfl ?_; refine Ex_inv rfl (by rfl) (by rfl) (by rfl) (c_SO_typeEnd hT (by omega)) ?_
          rw [e3]
          refine Ex_mv rfl rfl ?_; (first | refine Ex_incN rfl rfl ?_ | refine Ex_mv rfl rfl ?_); refine Ex_mv rfl rfl ?_
          refine Ex_mono (SO_sum_loop hT (w := false) f q (i + 1) (s + 1) c hc (by omega) (by omega)) ?_
          rintro v h' ⟨rfl, rfl⟩
          simp only [pick]
          refine ⟨?_, trivial⟩
          simp only [Bool.false_eq_true, if_false]
          congr 3
          omega
/-- slots and types of a method's sort -/
def sumM (T : List Nat) : Nat × Nat := sumT T T.length 1
theorem c_SO_sum (hT : TI h r B T a) {w : Bool} {c : Nat} (hc : cloT T = some c) : Ev (prog nb sa) m_SO_sum [.ref r, .int (nI (a + 0)), .int (nI (a + T.length)), .int (nI (if w then 1 else 0))] h (some (.int (nI (pick w (sumM T))))) h := by
  have hc2 : clo T T.length 1 = some c := by unfold cloT at hc; split at hc <;> first | exact hc | cases hc
  refine Ev_ofL k_SO_sum 7 [some (.ref r), some (.int (nI (a + 0))), some (.int (nI (a + T.length))), some (.int (nI (if w then 1 else 0))), none, none, none] rfl (Nat.le_of_ble_eq_true rfl) rfl ?_
  refine Ex_mv rfl rfl ?_; refine Ex_mv rfl rfl ?_; refine Ex_mv rfl rfl ?_; refine Ex_mv rfl rfl ?_; (first | refine Ex_addN rfl ?_ | refine Ex_mv rfl rfl ?_); refine Ex_mv rfl rfl ?_; refine Ex_mv rfl rfl ?_; refine Ex_mv rfl rfl ?_
  refine Ex_mono (SO_sum_loop hT T.length 1 0 0 c hc2 (by omega) (by omega)) ?_
  rintro v h' ⟨rfl, rfl⟩
  rw [Nat.zero_add]
  exact ⟨rfl, rfl⟩
end SORTS
end
section
/-! ClassFile -/
/-- an array of ints that holds a list at its beginning -/
def AI (h : Hp) (a n : Nat) (L : List Nat) : Prop := ∃ g, h.2.2 a = some (true, .inl (1, n, .inl g)) ∧ ∀ j, j < L.length → g j = nI (L.getD j 0)
theorem AI.fr {h h' : Hp} {a n lo hi : Nat} {L : List Nat} (h1 : AI h a n L) (f : FrI lo hi h h') (hq : a < lo ∨ hi ≤ a) : AI h' a n L := by
  obtain ⟨g, b, c⟩ := h1
  exact ⟨g, f.at b (by omega), c⟩
theorem AI.get {h : Hp} {a n k : Nat} {L : List Nat} {g : Nat → Int32} (hg : ∀ j, j < L.length → g j = nI (L.getD j 0)) (hk : k < L.length) (h31 : k < 2 ^ 31) : g (nI k).toNatClampNeg = nI (L.getD k 0) := by
  rw [nI_clamp h31]; exact hg k hk
/-- a file of the class: its bytes, starts, places; where behind, attributes; members' offsets; tells -/
def CF (h : Hp) (c : Nat) (B : List Nat) (S : Nat → Nat) (n bh aa : Nat) (M0 M1 : List Nat) (TL : List (Nat × Nat)) : Prop :=
  h.2.2 c = some (true, .inr (0, [.ref (c + 1), .ref (c + 2), .int (nI bh), .int (nI aa), .ref (c + 5), .ref (c + 8), .ref (c + 9), .ref (c + 10), .int (nI TL.length)])) ∧ PO h (c + 1) B S n ∧ h.2.2 (c + 5) = some (true, .inl (3, 2, .inr (.inr (.inr (.inr (fun i => if i < 2 then some (c + 5 + 1 + i) else none)))))) ∧ AI h (c + 6) 12 M0 ∧ AI h (c + 7) 12 M1 ∧ AI h (c + 8) 2 [M0.length, M1.length] ∧ AI h (c + 9) 200 (TL.map (·.1)) ∧ AI h (c + 10) 200 (TL.map (·.2)) ∧ M0.length ≤ 12 ∧ M1.length ≤ 12 ∧ TL.length ≤ 200 ∧ bh ≤ 400 ∧ aa ≤ 400 ∧ (∀ x ∈ M0, x ≤ 400) ∧ (∀ x ∈ M1, x ≤ 400) ∧ ∀ x ∈ TL, x.1 ≤ 400 ∧ x.2 ≤ 12
section CFILE
variable {nb sa : Nat} {h : Hp} {c n bh aa : Nat} {B M0 M1 : List Nat} {S : Nat → Nat} {TL : List (Nat × Nat)}
theorem CF.fr {h' : Hp} {lo hi : Nat} (h1 : CF h c B S n bh aa M0 M1 TL) (f : FrI lo hi h h') (hq : c + 11 ≤ lo ∨ hi ≤ c) : CF h' c B S n bh aa M0 M1 TL := by
  obtain ⟨a1, a2, a3, a4, a5, a6, a7, a8, a9⟩ := h1
  exact ⟨f.at a1 (by omega), a2.fr f (by omega), f.at a3 (by omega), a4.fr f (by omega), a5.fr f (by omega), a6.fr f (by omega), a7.fr f (by omega), a8.fr f (by omega), a9⟩
theorem CF.po (hC : CF h c B S n bh aa M0 M1 TL) : PO h (c + 1) B S n := hC.2.1
theorem CF.row (hC : CF h c B S n bh aa M0 M1 TL) : RW h (c + 2) B := hC.2.1.2.1
theorem getD_le {L : List Nat} {m : Nat} (h : ∀ x ∈ L, x ≤ m) (k : Nat) : L.getD k 0 ≤ m := by
  by_cases hk : k < L.length
  · rw [List.getD_eq_getElem?_getD, List.getElem?_eq_getElem hk]; exact h _ (List.getElem_mem hk)
  · rw [List.getD_eq_getElem?_getD, List.getElem?_eq_none (by omega)]; exact Nat.zero_le _
theorem c_CF_tellCount (hC : CF h c B S n bh aa M0 M1 TL) : Ev (prog nb sa) m_CF_tellCount [.ref c] h (some (.int (nI TL.length))) h := by
  have hc := hC.1
  refine Ev_ofL k_CF_tellCount 1 [some (.ref c)] rfl (Nat.le_of_ble_eq_true rfl) rfl ?_
  refine Ex_mv rfl rfl ?_; refine Ex_getf rfl (by assumption) rfl ?_
  exact Ex_rt rfl rfl ⟨rfl, rfl⟩
/-- a tell's place, what is wanted there -/
def tA (TL : List (Nat × Nat)) (t : Nat) : Nat := (TL.map (·.1)).getD t 0
def tW (TL : List (Nat × Nat)) (t : Nat) : Nat := (TL.map (·.2)).getD t 0
theorem getD_out {L : List Nat} {k : Nat} (h : L.length ≤ k) : L.getD k 0 = 0 := b1_out h
theorem c_CF_tellAt (hC : CF h c B S n bh aa M0 M1 TL) {t : Nat} (ht : t < 2 ^ 31) : Ev (prog nb sa) m_CF_tellAt [.ref c, .int (nI t)] h (some (.int (nI (tA TL t)))) h := by
  obtain ⟨hc, a2, a3, a4, a5, a6, ⟨g, hg, hgl⟩, a8, a9, a10, a11, a12⟩ := hC
  refine Ev_ofL k_CF_tellAt 2 [some (.ref c), some (.int (nI t))] rfl (Nat.le_of_ble_eq_true rfl) rfl ?_
  refine Ex_mv rfl rfl ?_; refine Ex_mv rfl rfl ?_; refine Ex_lt0 (by omega) ?_; refine Ex_mv rfl rfl ?_; refine Ex_mv rfl rfl ?_; refine Ex_getf rfl (by assumption) rfl ?_; refine Ex_mv rfl rfl ?_; (first | refine Ex_leN (by omega) (by omega) (fun b9 => ?_) (fun b9 => ?_) | refine Ex_if (fun b9 => ?_) (fun b9 => ?_))
  · refine Ex_mv rfl rfl ?_
    refine Ex_rt rfl rfl ⟨?_, rfl⟩
    first | (rw [AI.get (h := h) (a := c) (n := n) hgl (by simp; omega) (by omega)]; rfl) | (rw [tA, getD_out (by simp; omega)]; done) | (exfalso; omega)
  · refine Ex_mv rfl rfl ?_; refine Ex_mv rfl rfl ?_; refine Ex_mv rfl rfl ?_; (first | refine Ex_leN (by omega) (by omega) (fun b16 => ?_) (fun b16 => ?_) | refine Ex_if (fun b16 => ?_) (fun b16 => ?_))
    · refine Ex_mv rfl rfl ?_
      refine Ex_rt rfl rfl ⟨?_, rfl⟩
      first | (rw [AI.get (h := h) (a := c) (n := n) hgl (by simp; omega) (by omega)]; rfl) | (rw [tA, getD_out (by simp; omega)]; done) | (exfalso; omega)
    · refine Ex_mv rfl rfl ?_; refine Ex_getf rfl (by assumption) rfl ?_; refine Ex_mv rfl rfl ?_; refine Ex_iald rfl (by assumption) (vp_in_nI (by omega) (by decide)) ?_; refine Ex_mv rfl rfl ?_
      refine Ex_rt rfl rfl ⟨?_, rfl⟩
      first | (rw [AI.get (h := h) (a := c) (n := n) hgl (by simp; omega) (by omega)]; rfl) | (rw [tA, getD_out (by simp; omega)]; done) | (exfalso; omega)
theorem c_CF_wanted (hC : CF h c B S n bh aa M0 M1 TL) {t : Nat} (ht : t < 2 ^ 31) : Ev (prog nb sa) m_CF_wanted [.ref c, .int (nI t)] h (some (.int (nI (tW TL t)))) h := by
  obtain ⟨hc, a2, a3, a4, a5, a6, a7, ⟨g, hg, hgl⟩, a9, a10, a11, a12⟩ := hC
  refine Ev_ofL k_CF_wanted 2 [some (.ref c), some (.int (nI t))] rfl (Nat.le_of_ble_eq_true rfl) rfl ?_
  refine Ex_mv rfl rfl ?_; refine Ex_mv rfl rfl ?_; refine Ex_lt0 (by omega) ?_; refine Ex_mv rfl rfl ?_; refine Ex_mv rfl rfl ?_; refine Ex_getf rfl (by assumption) rfl ?_; refine Ex_mv rfl rfl ?_; (first | refine Ex_leN (by omega) (by omega) (fun b9 => ?_) (fun b9 => ?_) | refine Ex_if (fun b9 => ?_) (fun b9 => ?_))
  · refine Ex_mv rfl rfl ?_
    refine Ex_rt rfl rfl ⟨?_, rfl⟩
    first | (rw [AI.get (h := h) (a := c) (n := n) hgl (by simp; omega) (by omega)]; rfl) | (rw [tW, getD_out (by simp; omega)]; done) | (exfalso; omega)
  · refine Ex_mv rfl rfl ?_; refine Ex_mv rfl rfl ?_; refine Ex_mv rfl rfl ?_; (first | refine Ex_leN (by omega) (by omega) (fun b16 => ?_) (fun b16 => ?_) | refine Ex_if (fun b16 => ?_) (fun b16 => ?_))
    · refine Ex_mv rfl rfl ?_
      refine Ex_rt rfl rfl ⟨?_, rfl⟩
      first | (rw [AI.get (h := h) (a := c) (n := n) hgl (by simp; omega) (by omega)]; rfl) | (rw [tW, getD_out (by simp; omega)]; done) | (exfalso; omega)
    · refine Ex_mv rfl rfl ?_; refine Ex_getf rfl (by assumption) rfl ?_; refine Ex_mv rfl rfl ?_; refine Ex_iald rfl (by assumption) (vp_in_nI (by omega) (by decide)) ?_; refine Ex_mv rfl rfl ?_
      refine Ex_rt rfl rfl ⟨?_, rfl⟩
      first | (rw [AI.get (h := h) (a := c) (n := n) hgl (by simp; omega) (by omega)]; rfl) | (rw [tW, getD_out (by simp; omega)]; done) | (exfalso; omega)
theorem tA_le (hC : CF h c B S n bh aa M0 M1 TL) (t : Nat) : tA TL t ≤ 400 := by
  obtain ⟨-, -, -, -, -, -, -, -, -, -, -, -, -, -, -, a⟩ := hC
  refine getD_le (fun x hx => ?_) t
  obtain ⟨y, hy, rfl⟩ := List.mem_map.mp hx
  exact (a y hy).1
theorem tW_le (hC : CF h c B S n bh aa M0 M1 TL) (t : Nat) : tW TL t ≤ 12 := by
  obtain ⟨-, -, -, -, -, -, -, -, -, -, -, -, -, -, -, a⟩ := hC
  refine getD_le (fun x hx => ?_) t
  obtain ⟨y, hy, rfl⟩ := List.mem_map.mp hx
  exact (a y hy).2
/-- the first of the tells behind the pool -/
def fbh (TL : List (Nat × Nat)) (bh : Nat) : Nat → Nat → Nat
  | 0, t => t
  | d + 1, t => if bh ≤ tA TL t then t else fbh TL bh d (t + 1)
theorem fbh_le (TL : List (Nat × Nat)) (bh : Nat) : ∀ d t, t ≤ fbh TL bh d t ∧ fbh TL bh d t ≤ t + d
  | 0, t => ⟨Nat.le_refl _, Nat.le_refl _⟩
  | d + 1, t => by
    unfold fbh
    split
    · omega
    · have := fbh_le TL bh d (t + 1); omega
theorem CF_firstBehind_loop (hC : CF h c B S n bh aa M0 M1 TL) : ∀ (d t : Nat), t + d = TL.length → Ex (prog nb sa) k_CF_firstBehind 2 [some (.ref c), some (.int (nI t))] [] h (fun v h' => v = some (.int (nI (fbh TL bh d t))) ∧ h' = h)
  | 0, t, hd => by
    have hc := hC.1
    have : TL.length ≤ 200 := hC.2.2.2.2.2.2.2.2.2.2.1
    refine Ex_mv rfl rfl ?_; refine Ex_mv rfl rfl ?_; refine Ex_getf rfl (by assumption) rfl ?_; refine Ex_mv rfl rfl ?_; refine Ex_ift (nI_le (by omega) (by omega)) ?_; refine Ex_mv rfl rfl ?_; refine Ex_getf rfl (by assumption) rfl ?_
    refine Ex_rt rfl rfl ⟨?_, rfl⟩
    rw [fbh, ← hd]; rfl
  | d + 1, t, hd => by
    have hc := hC.1
    have : TL.length ≤ 200 := hC.2.2.2.2.2.2.2.2.2.2.1
    have hb : bh ≤ 400 := hC.2.2.2.2.2.2.2.2.2.2.2.1
    have ht := tA_le hC t
    unfold fbh
    by_cases e : bh ≤ tA TL t
    · rw [if_pos e]
      refine Ex_mv rfl rfl ?_; refine Ex_mv rfl rfl ?_; refine Ex_getf rfl (by assumption) rfl ?_; refine Ex_mv rfl rfl ?_; refine Ex_iff (nI_ge (by omega) (by omega)) ?_; refine Ex_mv rfl rfl ?_; refine Ex_mv rfl rfl ?_; refine Ex_invV rfl (by rfl) (by rfl) (by assumption) (by rfl) (c_CF_tellAt hC (by omega)) ?_; refine Ex_mv rfl rfl ?_; refine Ex_getf rfl (by assumption) rfl ?_; refine Ex_mv rfl rfl ?_; refine Ex_iff (nI_nlt e (by omega)) ?_; refine Ex_mv rfl rfl ?_
      exact Ex_rt rfl rfl ⟨rfl, rfl⟩
    · rw [if_neg e]
      refine Ex_mv rfl rfl ?_; refine Ex_mv rfl rfl ?_; refine Ex_getf rfl (by assumption) rfl ?_; refine Ex_mv rfl rfl ?_; refine Ex_iff (nI_ge (by omega) (by omega)) ?_; refine Ex_mv rfl rfl ?_; refine Ex_mv rfl rfl ?_; refine Ex_invV rfl (by rfl) (by rfl) (by assumption) (by rfl) (c_CF_tellAt hC (by omega)) ?_; refine Ex_mv rfl rfl ?_; refine Ex_getf rfl (by assumption) rfl ?_; refine Ex_mv rfl rfl ?_; refine Ex_ift (nI_lt (by omega) (by omega)) ?_; (first | refine Ex_incN rfl rfl ?_ | refine Ex_mv rfl rfl ?_); refine Ex_mv rfl rfl ?_
      exact CF_firstBehind_loop hC d (t + 1) (by omega)
theorem c_CF_firstBehind (hC : CF h c B S n bh aa M0 M1 TL) : Ev (prog nb sa) m_CF_firstBehind [.ref c] h (some (.int (nI (fbh TL bh TL.length 0)))) h := by
  refine Ev_ofL k_CF_firstBehind 2 [some (.ref c), none] rfl (Nat.le_of_ble_eq_true rfl) rfl ?_
  refine Ex_mv rfl rfl ?_; refine Ex_mv rfl rfl ?_
  exact CF_firstBehind_loop hC TL.length 0 (by omega)
/-- members of a kind -/
def mK (M0 M1 : List Nat) (k : Nat) : List Nat := if k = 0 then M0 else M1
theorem c_CF_members (hC : CF h c B S n bh aa M0 M1 TL) {k : Nat} (hk : k < 2) : Ev (prog nb sa) m_CF_members [.ref c, .int (nI k)] h (some (.int (nI (mK M0 M1 k).length))) h := by
  obtain ⟨hc, a2, a3, a4, a5, ⟨g, hg, hgl⟩, a7⟩ := hC
  have e : g (nI k).toNatClampNeg = nI (mK M0 M1 k).length := by
    rw [AI.get (h := h) (a := c) (n := n) hgl (by simpa using hk) (by omega)]
    have : k = 0 ∨ k = 1 := by omega
    rcases this with rfl | rfl <;> rfl
  refine Ev_ofL k_CF_members 2 [some (.ref c), some (.int (nI k))] rfl (Nat.le_of_ble_eq_true rfl) rfl ?_
  refine Ex_mv rfl rfl ?_; refine Ex_mv rfl rfl ?_; (first | refine Ex_eq0 (by omega) (fun b1 => ?_) (fun b1 => ?_) | refine Ex_if (fun b1 => ?_) (fun b1 => ?_))
  · refine Ex_mv rfl rfl ?_; refine Ex_getf rfl (by assumption) rfl ?_; refine Ex_mv rfl rfl ?_; refine Ex_iald rfl (by assumption) (vp_in_nI (by omega) (by decide)) ?_; refine Ex_mv rfl rfl ?_
    refine Ex_rt rfl rfl ⟨?_, rfl⟩
    first | (rw [e]; done) | (exfalso; omega)
  · refine Ex_mv rfl rfl ?_; refine Ex_mv rfl rfl ?_; refine Ex_mv rfl rfl ?_; (first | refine Ex_neN (by omega) (by omega) (fun b6 => ?_) (fun b6 => ?_) | refine Ex_if (fun b6 => ?_) (fun b6 => ?_))
    · refine Ex_mv rfl rfl ?_
      refine Ex_rt rfl rfl ⟨?_, rfl⟩
      first | (rw [e]; done) | (exfalso; omega)
    · refine Ex_mv rfl rfl ?_; refine Ex_getf rfl (by assumption) rfl ?_; refine Ex_mv rfl rfl ?_; refine Ex_iald rfl (by assumption) (vp_in_nI (by omega) (by decide)) ?_; refine Ex_mv rfl rfl ?_
      refine Ex_rt rfl rfl ⟨?_, rfl⟩
      first | (rw [e]; done) | (exfalso; omega)
theorem mK_len (hC : CF h c B S n bh aa M0 M1 TL) (k : Nat) : (mK M0 M1 k).length ≤ 12 := by
  obtain ⟨-, -, -, -, -, -, -, -, a, b, -⟩ := hC
  unfold mK; split <;> assumption
theorem mK_le (hC : CF h c B S n bh aa M0 M1 TL) (k j : Nat) : (mK M0 M1 k).getD j 0 ≤ 400 := by
  obtain ⟨-, -, -, -, -, -, -, -, -, -, -, -, -, a, b, -⟩ := hC
  unfold mK; split
  · exact getD_le a j
  · exact getD_le b j
/-- a member's offset, or none such -/
def mO (L : List Nat) (j : Nat) : Option Nat := if j < L.length then some (L.getD j 0) else none
theorem CF.inner (hC : CF h c B S n bh aa M0 M1 TL) {k : Nat} (hk : k < 2) : AI h (c + 5 + 1 + k) 12 (mK M0 M1 k) := by
  obtain ⟨-, -, -, a, b, -⟩ := hC
  have : k = 0 ∨ k = 1 := by omega
  rcases this with rfl | rfl
  · exact a
  · exact b
theorem c_CF_memberAt (hC : CF h c B S n bh aa M0 M1 TL) {k j : Nat} (hk : k < 2) (hj : j < 2 ^ 31) : Ev (prog nb sa) m_CF_memberAt [.ref c, .int (nI k), .int (nI j)] h (some (.int (oI 0 (mO (mK M0 M1 k) j)))) h := by
  obtain ⟨hc, a2, a3, a4, a5, a6, a7⟩ := id hC
  obtain ⟨g, hg, hgl⟩ := hC.inner hk
  have hl := mK_len hC k
  have hq : (fun i => if i < 2 then some (c + 5 + 1 + i) else none) (nI k).toNatClampNeg = some (c + 5 + 1 + k) := by rw [nI_clamp (by omega)]; exact if_pos hk
  refine Ev_ofL k_CF_memberAt 3 [some (.ref c), some (.int (nI k)), some (.int (nI j))] rfl (Nat.le_of_ble_eq_true rfl) rfl ?_
  refine Ex_mv rfl rfl ?_; refine Ex_mv rfl rfl ?_; refine Ex_lt0 (by omega) ?_; refine Ex_mv rfl rfl ?_; refine Ex_mv rfl rfl ?_; refine Ex_mv rfl rfl ?_; refine Ex_invV rfl (by rfl) (by rfl) (by assumption) (by rfl) (c_CF_members hC hk) ?_; refine Ex_mv rfl rfl ?_; (first | refine Ex_leN (by omega) (by omega) (fun b10 => ?_) (fun b10 => ?_) | refine Ex_if (fun b10 => ?_) (fun b10 => ?_))
  · refine Ex_mv rfl rfl ?_
    refine Ex_rt rfl rfl ⟨?_, rfl⟩
    first | (rw [AI.get (h := h) (a := c) (n := n) hgl (by omega) (by omega), mO, if_pos (by omega)]; simp [oI]; done) | (rw [mO, if_neg (by omega)]; rfl) | (exfalso; omega)
  · refine Ex_mv rfl rfl ?_; refine Ex_mv rfl rfl ?_; refine Ex_mv rfl rfl ?_; (first | refine Ex_leN (by omega) (by omega) (fun b16 => ?_) (fun b16 => ?_) | refine Ex_if (fun b16 => ?_) (fun b16 => ?_))
    · refine Ex_mv rfl rfl ?_
      refine Ex_rt rfl rfl ⟨?_, rfl⟩
      first | (rw [AI.get (h := h) (a := c) (n := n) hgl (by omega) (by omega), mO, if_pos (by omega)]; simp [oI]; done) | (rw [mO, if_neg (by omega)]; rfl) | (exfalso; omega)
    · refine Ex_mv rfl rfl ?_; refine Ex_getf rfl (by assumption) rfl ?_; refine Ex_mv rfl rfl ?_; refine Ex_aald rfl (by assumption) rfl (vp_in_nI (by omega) (by decide)) hq ?_; refine Ex_mv rfl rfl ?_; refine Ex_iald rfl (by assumption) (vp_in_nI (by omega) (by decide)) ?_; refine Ex_mv rfl rfl ?_
      refine Ex_rt rfl rfl ⟨?_, rfl⟩
      first | (rw [AI.get (h := h) (a := c) (n := n) hgl (by omega) (by omega), mO, if_pos (by omega)]; simp [oI]; done) | (rw [mO, if_neg (by omega)]; rfl) | (exfalso; omega)
theorem c_CF_memberAtN (hC : CF h c B S n bh aa M0 M1 TL) {k j : Int32} (hj : j < 0) : Ev (prog nb sa) m_CF_memberAt [.ref c, .int k, .int j] h (some (.int (-1))) h := by
  refine Ev_ofL k_CF_memberAt 3 [some (.ref c), some (.int k), some (.int j)] rfl (Nat.le_of_ble_eq_true rfl) rfl ?_
  refine Ex_mv rfl rfl ?_; refine Ex_mv rfl rfl ?_; refine Ex_ift hj ?_; refine Ex_mv rfl rfl ?_
  exact Ex_rt rfl rfl ⟨rfl, rfl⟩
theorem c_CF_faces (hC : CF h c B S n bh aa M0 M1 TL) : Ev (prog nb sa) m_CF_faces [.ref c] h (some (.int (nI (b2 B (bh + 6))))) h := by
  have hc := hC.1
  have hb : bh ≤ 400 := hC.2.2.2.2.2.2.2.2.2.2.2.1
  obtain ⟨f, hr, ha, hB⟩ := id hC.row
  refine Ev_ofL k_CF_faces 1 [some (.ref c)] rfl (Nat.le_of_ble_eq_true rfl) rfl ?_
  refine Ex_mv rfl rfl ?_; refine Ex_getf rfl (by assumption) rfl ?_; refine Ex_mv rfl rfl ?_; refine Ex_getf rfl (by assumption) rfl ?_; refine Ex_mv rfl rfl ?_; (first | refine Ex_addN rfl ?_ | refine Ex_mv rfl rfl ?_); refine Ex_invV rfl (by rfl) (by rfl) (by assumption) (by rfl) (c_RW_two hC.row (by omega)) ?_
  exact Ex_rt rfl rfl ⟨rfl, rfl⟩
/-- the place of the class itself, the one above, a face; 0: none such -/
def cP (B : List Nat) (bh k : Nat) : Nat := if b2 B (bh + 6) + 2 ≤ k then 0 else b2 B (bh + (if k < 2 then 2 + 2 * k else 4 + 2 * k))
theorem c_CF_classPlace (hC : CF h c B S n bh aa M0 M1 TL) {k : Nat} (hk : k < 2 ^ 31) : Ev (prog nb sa) m_CF_classPlace [.ref c, .int (nI k)] h (some (.int (nI (cP B bh k)))) h := by
  have hc := hC.1
  have hb : bh ≤ 400 := hC.2.2.2.2.2.2.2.2.2.2.2.1
  obtain ⟨f, hr, ha, hB⟩ := id hC.row
  have hf := b2_lt hC.row.lt (bh + 6)
  refine Ev_ofL k_CF_classPlace 2 [some (.ref c), some (.int (nI k))] rfl (Nat.le_of_ble_eq_true rfl) rfl ?_
  by_cases h2 : 2 ≤ k
  · refine Ex_mv rfl rfl ?_; refine Ex_mv rfl rfl ?_; refine Ex_lt0 (by omega) ?_; refine Ex_mv rfl rfl ?_; refine Ex_mv rfl rfl ?_; (first | refine Ex_subN rfl (by omega) ?_ | refine Ex_mv rfl rfl ?_); refine Ex_mv rfl rfl ?_; refine Ex_invV rfl (by rfl) (by rfl) (by assumption) (by rfl) (c_CF_faces hC) ?_; refine Ex_mv rfl rfl ?_; (first | refine Ex_ltN (by omega) (by omega) (fun b11 => ?_) (fun b11 => ?_) | refine Ex_if (fun b11 => ?_) (fun b11 => ?_))
    · refine Ex_mv rfl rfl ?_; refine Ex_getf rfl (by assumption) rfl ?_; refine Ex_mv rfl rfl ?_; refine Ex_getf rfl (by assumption) rfl ?_; refine Ex_mv rfl rfl ?_; refine Ex_mv rfl rfl ?_; refine Ex_mv rfl rfl ?_; refine Ex_ift (nI_le h2 (by omega)) ?_; refine Ex_mv rfl rfl ?_; refine Ex_mv rfl rfl ?_; refine Ex_mv rfl rfl ?_; (first | refine Ex_mulN rfl ?_ | refine Ex_mv rfl rfl ?_); (first | refine Ex_addN rfl ?_ | refine Ex_mv rfl rfl ?_); (first | refine Ex_addN rfl ?_ | refine Ex_mv rfl rfl ?_); refine Ex_invV rfl (by rfl) (by rfl) (by assumption) (by rfl) (c_RW_two hC.row (by omega)) ?_
      refine Ex_rt rfl rfl ⟨?_, rfl⟩
      first | (rw [cP, if_pos (by omega)]; done) | (rw [cP, if_neg (by omega), if_neg (by omega), Nat.mul_comm 2 k]; done) | (rw [cP, if_neg (by omega), if_neg (by omega)]; done) | (exfalso; omega)
    · refine Ex_mv rfl rfl ?_
      refine Ex_rt rfl rfl ⟨?_, rfl⟩
      first | (rw [cP, if_pos (by omega)]; done) | (rw [cP, if_neg (by omega), if_neg (by omega), Nat.mul_comm 2 k]; done) | (rw [cP, if_neg (by omega), if_neg (by omega)]; done) | (exfalso; omega)
  · have hlt : nI k - nI 2 < nI (b2 B (bh + 6)) := by
      refine Int32.lt_of_lt_of_le (pk_sneg (by decide) (by omega)) ?_
      exact nI_pos' (by omega)
    refine Ex_mv rfl rfl ?_; refine Ex_mv rfl rfl ?_; refine Ex_lt0 (by omega) ?_; refine Ex_mv rfl rfl ?_; refine Ex_mv rfl rfl ?_; refine Ex_mv rfl rfl ?_
    refine Ex_mv rfl rfl ?_; refine Ex_invV rfl (by rfl) (by rfl) (by assumption) (by rfl) (c_CF_faces hC) ?_; refine Ex_mv rfl rfl ?_; refine Ex_ift hlt ?_; refine Ex_mv rfl rfl ?_; refine Ex_getf rfl (by assumption) rfl ?_; refine Ex_mv rfl rfl ?_; refine Ex_getf rfl (by assumption) rfl ?_; refine Ex_mv rfl rfl ?_; refine Ex_mv rfl rfl ?_; refine Ex_mv rfl rfl ?_; refine Ex_iff (nI_ge (by omega) (by decide)) ?_; refine Ex_mv rfl rfl ?_; refine Ex_mv rfl rfl ?_; refine Ex_mv rfl rfl ?_; (first | refine Ex_mulN rfl ?_ | refine Ex_mv rfl rfl ?_); (first | refine Ex_addN rfl ?_ | refine Ex_mv rfl rfl ?_); refine Ex_mv rfl rfl ?_; (first | refine Ex_addN rfl ?_ | refine Ex_mv rfl rfl ?_); refine Ex_invV rfl (by rfl) (by rfl) (by assumption) (by rfl) (c_RW_two hC.row (by omega)) ?_
    refine Ex_rt rfl rfl ⟨?_, rfl⟩
    first | (rw [cP, if_neg (by omega), if_pos (by omega)]; done)
/-- where attributes are counted -/
def aO (aa : Nat) (M0 M1 : List Nat) (k j : Nat) : Option Nat := if k = 2 then (if j = 0 then some aa else none) else (mO (mK M0 M1 k) j).map (· + 6)
theorem c_CF_attributesOf (hC : CF h c B S n bh aa M0 M1 TL) {k j : Nat} (hk : k < 3) (hj : j < 2 ^ 31) : Ev (prog nb sa) m_CF_attributesOf [.ref c, .int (nI k), .int (nI j)] h (some (.int (oI 0 (aO aa M0 M1 k j)))) h := by
  have hc := hC.1
  refine Ev_ofL k_CF_attributesOf 4 [some (.ref c), some (.int (nI k)), some (.int (nI j)), none] rfl (Nat.le_of_ble_eq_true rfl) rfl ?_
  by_cases h2 : k = 2
  · refine Ex_mv rfl rfl ?_; refine Ex_mv rfl rfl ?_; refine Ex_mv rfl rfl ?_; refine Ex_iff (by rw [h2]; exact not_not_intro rfl) ?_; refine Ex_mv rfl rfl ?_; refine Ex_mv rfl rfl ?_; (first | refine Ex_ne0 (by omega) (fun b6 => ?_) (fun b6 => ?_) | refine Ex_if (fun b6 => ?_) (fun b6 => ?_))
    · refine Ex_mv rfl rfl ?_
      refine Ex_rt rfl rfl ⟨?_, rfl⟩
      first | (rw [aO, if_pos h2, if_pos (by omega)]; simp [oI]; done) | (rw [aO, if_pos h2, if_neg (by omega)]; rfl)
    · refine Ex_mv rfl rfl ?_; refine Ex_getf rfl (by assumption) rfl ?_; refine Ex_mv rfl rfl ?_
      refine Ex_rt rfl rfl ⟨?_, rfl⟩
      first | (rw [aO, if_pos h2, if_pos (by omega)]; simp [oI]; done) | (rw [aO, if_pos h2, if_neg (by omega)]; rfl)
  · have hm := mK_le hC k j
    cases e : mO (mK M0 M1 k) j with
    | none =>
      refine Ex_mv rfl rfl ?_; refine Ex_mv rfl rfl ?_; refine Ex_mv rfl rfl ?_; refine Ex_ift (fun z => h2 ((nI_eq (by omega) (by decide)).mp z)) ?_; refine Ex_mv rfl rfl ?_; refine Ex_mv rfl rfl ?_; refine Ex_mv rfl rfl ?_; refine Ex_invV rfl (by rfl) (by rfl) (by assumption) (by rfl) (c_CF_memberAt hC (by omega) hj) ?_
      rw [e]
      refine Ex_mv rfl rfl ?_; refine Ex_mv rfl rfl ?_; refine Ex_mv rfl rfl ?_; refine Ex_mv rfl rfl ?_; refine Ex_iff (not_not_intro rfl) ?_; refine Ex_mv rfl rfl ?_; refine Ex_mv rfl rfl ?_
      refine Ex_rt rfl rfl ⟨?_, rfl⟩
      rw [aO, if_neg h2, e]; rfl
    | some q =>
      have hq : q ≤ 400 := by
        unfold mO at e
        split at e
        · simp only [Option.some.injEq] at e; omega
        · cases e
      refine Ex_mv rfl rfl ?_; refine Ex_mv rfl rfl ?_; refine Ex_mv rfl rfl ?_; refine Ex_ift (fun z => h2 ((nI_eq (by omega) (by decide)).mp z)) ?_; refine Ex_mv rfl rfl ?_; refine Ex_mv rfl rfl ?_; refine Ex_mv rfl rfl ?_; refine Ex_invV rfl (by rfl) (by rfl) (by assumption) (by rfl) (c_CF_memberAt hC (by omega) hj) ?_
      rw [e]
      refine Ex_mv rfl rfl ?_; refine Ex_mv rfl rfl ?_; refine Ex_mv rfl rfl ?_; refine Ex_mv rfl rfl ?_; refine Ex_ift (nI_nm1 (by omega)) ?_; refine Ex_mv rfl rfl ?_; refine Ex_mv rfl rfl ?_; (first | refine Ex_addN rfl ?_ | refine Ex_mv rfl rfl ?_)
      refine Ex_rt rfl rfl ⟨?_, rfl⟩
      rw [aO, if_neg h2, e]; simp [oI]
theorem c_CF_attributesOfN (hC : CF h c B S n bh aa M0 M1 TL) {k : Nat} {j : Int32} (hk : k < 3) (hj : j < 0) : Ev (prog nb sa) m_CF_attributesOf [.ref c, .int (nI k), .int j] h (some (.int (-1))) h := by
  have hc := hC.1
  have hj0 : ¬ j = 0 := fun e => by rw [e] at hj; exact absurd hj (by decide)
  refine Ev_ofL k_CF_attributesOf 4 [some (.ref c), some (.int (nI k)), some (.int j), none] rfl (Nat.le_of_ble_eq_true rfl) rfl ?_
  by_cases h2 : k = 2
  · refine Ex_mv rfl rfl ?_; refine Ex_mv rfl rfl ?_; refine Ex_mv rfl rfl ?_; refine Ex_iff (by rw [h2]; exact not_not_intro rfl) ?_; refine Ex_mv rfl rfl ?_; refine Ex_mv rfl rfl ?_; refine Ex_ift hj0 ?_; refine Ex_mv rfl rfl ?_
    exact Ex_rt rfl rfl ⟨rfl, rfl⟩
  · refine Ex_mv rfl rfl ?_; refine Ex_mv rfl rfl ?_; refine Ex_mv rfl rfl ?_; refine Ex_ift (fun z => h2 ((nI_eq (by omega) (by decide)).mp z)) ?_; refine Ex_mv rfl rfl ?_; refine Ex_mv rfl rfl ?_; refine Ex_mv rfl rfl ?_; refine Ex_invV rfl (by rfl) (by rfl) (by assumption) (by rfl) (c_CF_memberAtN hC hj) ?_; refine Ex_mv rfl rfl ?_; refine Ex_mv rfl rfl ?_; refine Ex_mv rfl rfl ?_; refine Ex_mv rfl rfl ?_; refine Ex_iff (not_not_intro rfl) ?_; refine Ex_mv rfl rfl ?_; refine Ex_mv rfl rfl ?_
    exact Ex_rt rfl rfl ⟨rfl, rfl⟩
/-- the offset of the attribute that comes a behind the one at x -/
def atP (B : List Nat) : Nat → Nat → Nat
  | 0, x => x
  | a + 1, x => atP B a (x + 6 + b4 B (x + 2))
theorem CF_attributeAt_loop (hC : CF h c B S n bh aa M0 M1 TL) {k3 : Value} {x1 x4 : Option Value} {a : Nat} (ha : a < 2 ^ 31) : ∀ (d i x : Nat), i + d = a → x ≤ 400 → (∀ j, j < d → atP B j x + 6 + b4 B (atP B j x + 2) ≤ 400) → Ex (prog nb sa) k_CF_attributeAt 42 [some (.ref c), x1, some k3, some (.int (nI a)), x4, some (.int (nI x)), some (.int (nI i))] [] h (fun v h' => v = some (.int (nI (atP B d x))) ∧ h' = h)
  | 0, i, x, hd, hx, hv => by
    refine Ex_mv rfl rfl ?_; refine Ex_mv rfl rfl ?_; refine Ex_mv rfl rfl ?_; refine Ex_ift (nI_le (by omega) (by omega)) ?_; refine Ex_mv rfl rfl ?_
    exact Ex_rt rfl rfl ⟨rfl, rfl⟩
  | d + 1, i, x, hd, hx, hv => by
    have hc := hC.1
    obtain ⟨f, hr, hra, hB⟩ := id hC.row
    have h0 : x + 6 + b4 B (x + 2) ≤ 400 := hv 0 (by omega)
    refine Ex_mv rfl rfl ?_; refine Ex_mv rfl rfl ?_; refine Ex_mv rfl rfl ?_; refine Ex_iff (nI_ge (by omega) (by omega)) ?_; refine Ex_mv rfl rfl ?_; refine Ex_mv rfl rfl ?_; refine Ex_mv rfl rfl ?_; refine Ex_getf rfl (by assumption) rfl ?_; refine Ex_mv rfl rfl ?_; refine Ex_mv rfl rfl ?_; (first | refine Ex_addN rfl ?_ | refine Ex_mv rfl rfl ?_); refine Ex_invV rfl (by rfl) (by rfl) (by assumption) (by rfl) (c_RW_four hC.row (by omega)) ?_; (first | refine Ex_addN rfl ?_ | refine Ex_mv rfl rfl ?_); (first | refine Ex_addN rfl ?_ | refine Ex_mv rfl rfl ?_); refine Ex_mv rfl rfl ?_; (first | refine Ex_incN rfl rfl ?_ | refine Ex_mv rfl rfl ?_); refine Ex_mv rfl rfl ?_
    rw [← Nat.add_assoc]
    exact CF_attributeAt_loop hC ha d (i + 1) (x + 6 + b4 B (x + 2)) (by omega) h0 (fun j hj => hv (j + 1) (by omega))
theorem aO_le (hC : CF h c B S n bh aa M0 M1 TL) {k j q : Nat} (e : aO aa M0 M1 k j = some q) : q ≤ 406 := by
  have h1 : aa ≤ 400 := hC.2.2.2.2.2.2.2.2.2.2.2.2.1
  have h2 := mK_le hC k j
  unfold aO at e
  split at e
  · split at e
    · simp at e; omega
    · cases e
  · unfold mO at e
    split at e
    · simp only [Option.map_some, Option.some.injEq] at e; omega
    · cases e
/-- the offset of an attribute, or none such -/
def aT (B : List Nat) (o : Option Nat) (a : Nat) : Option Nat := match o with
  | none => none
  | some q => if a < b2 B q then some (atP B a (q + 2)) else none
theorem c_CF_attributeAt (hC : CF h c B S n bh aa M0 M1 TL) {k j a : Nat} (hk : k < 3) (hj : j < 2 ^ 31) (ha : a < 2 ^ 31) (hv : ∀ q, aO aa M0 M1 k j = some q → q + 2 ≤ 400 ∧ ∀ i, i < b2 B q → atP B i (q + 2) + 6 + b4 B (atP B i (q + 2) + 2) ≤ 400) : Ev (prog nb sa) m_CF_attributeAt [.ref c, .int (nI k), .int (nI j), .int (nI a)] h (some (.int (oI 0 (aT B (aO aa M0 M1 k j) a)))) h := by
  have hc := hC.1
  obtain ⟨f, hr, hra, hB⟩ := id hC.row
  refine Ev_ofL k_CF_attributeAt 7 [some (.ref c), some (.int (nI k)), some (.int (nI j)), some (.int (nI a)), none, none, none] rfl (Nat.le_of_ble_eq_true rfl) rfl ?_
  cases e : aO aa M0 M1 k j with
  | none =>
    refine Ex_mv rfl rfl ?_; refine Ex_mv rfl rfl ?_; refine Ex_mv rfl rfl ?_; refine Ex_invV rfl (by rfl) (by rfl) (by assumption) (by rfl) (c_CF_attributesOf hC hk hj) ?_
    rw [e]
    refine Ex_mv rfl rfl ?_; refine Ex_mv rfl rfl ?_; refine Ex_mv rfl rfl ?_; refine Ex_mv rfl rfl ?_; refine Ex_ift rfl ?_; refine Ex_mv rfl rfl ?_
    exact Ex_rt rfl rfl ⟨rfl, rfl⟩
  | some q =>
    have hq := aO_le hC e
    have hvq := hv q e
    have hb := b2_lt hC.row.lt q
    by_cases h1 : a < b2 B q
    · refine Ex_mv rfl rfl ?_; refine Ex_mv rfl rfl ?_; refine Ex_mv rfl rfl ?_; refine Ex_invV rfl (by rfl) (by rfl) (by assumption) (by rfl) (c_CF_attributesOf hC hk hj) ?_
      rw [e]
      simp only [oI, Nat.zero_add]
      refine Ex_mv rfl rfl ?_; refine Ex_mv rfl rfl ?_; refine Ex_mv rfl rfl ?_; refine Ex_mv rfl rfl ?_; refine Ex_iff (nI_nm1 (by omega)) ?_; refine Ex_mv rfl rfl ?_; refine Ex_mv rfl rfl ?_; refine Ex_lt0 (by omega) ?_; refine Ex_mv rfl rfl ?_; refine Ex_mv rfl rfl ?_; refine Ex_getf rfl (by assumption) rfl ?_; refine Ex_mv rfl rfl ?_; refine Ex_invV rfl (by rfl) (by rfl) (by assumption) (by rfl) (c_RW_two hC.row (by omega)) ?_; refine Ex_mv rfl rfl ?_; refine Ex_ift (nI_lt h1 (by omega)) ?_; refine Ex_mv rfl rfl ?_; refine Ex_mv rfl rfl ?_; (first | refine Ex_addN rfl ?_ | refine Ex_mv rfl rfl ?_); refine Ex_mv rfl rfl ?_; refine Ex_mv rfl rfl ?_; refine Ex_mv rfl rfl ?_
      refine Ex_mono (CF_attributeAt_loop hC ha a 0 (q + 2) (by omega) hvq.1 (fun i hi => hvq.2 i (by omega))) ?_
      rintro v h' ⟨rfl, rfl⟩
      simp [aT, h1, oI]
    · refine Ex_mv rfl rfl ?_; refine Ex_mv rfl rfl ?_; refine Ex_mv rfl rfl ?_; refine Ex_invV rfl (by rfl) (by rfl) (by assumption) (by rfl) (c_CF_attributesOf hC hk hj) ?_
      rw [e]
      simp only [oI, Nat.zero_add]
      refine Ex_mv rfl rfl ?_; refine Ex_mv rfl rfl ?_; refine Ex_mv rfl rfl ?_; refine Ex_mv rfl rfl ?_; refine Ex_iff (nI_nm1 (by omega)) ?_; refine Ex_mv rfl rfl ?_; refine Ex_mv rfl rfl ?_; refine Ex_lt0 (by omega) ?_; refine Ex_mv rfl rfl ?_; refine Ex_mv rfl rfl ?_; refine Ex_getf rfl (by assumption) rfl ?_; refine Ex_mv rfl rfl ?_; refine Ex_invV rfl (by rfl) (by rfl) (by assumption) (by rfl) (c_RW_two hC.row (by omega)) ?_; refine Ex_mv rfl rfl ?_; refine Ex_iff (nI_nlt (by omega) (by omega)) ?_; refine Ex_mv rfl rfl ?_
      refine Ex_rt rfl rfl ⟨?_, rfl⟩
      simp [aT, h1, oI]
theorem c_CF_attributeAtN (hC : CF h c B S n bh aa M0 M1 TL) {k : Nat} {j a : Int32} (hk : k < 3) (hj : j < 0) : Ev (prog nb sa) m_CF_attributeAt [.ref c, .int (nI k), .int j, .int a] h (some (.int (-1))) h := by
  have hc := hC.1
  refine Ev_ofL k_CF_attributeAt 7 [some (.ref c), some (.int (nI k)), some (.int j), some (.int a), none, none, none] rfl (Nat.le_of_ble_eq_true rfl) rfl ?_
  refine Ex_mv rfl rfl ?_; refine Ex_mv rfl rfl ?_; refine Ex_mv rfl rfl ?_; refine Ex_invV rfl (by rfl) (by rfl) (by assumption) (by rfl) (c_CF_attributesOfN hC hk hj) ?_; refine Ex_mv rfl rfl ?_; refine Ex_mv rfl rfl ?_; refine Ex_mv rfl rfl ?_; refine Ex_mv rfl rfl ?_; refine Ex_ift rfl ?_; refine Ex_mv rfl rfl ?_
  exact Ex_rt rfl rfl ⟨rfl, rfl⟩
theorem c_CF_attributeAtN2 (hC : CF h c B S n bh aa M0 M1 TL) {k j : Nat} {a : Int32} (hk : k < 3) (hj : j < 2 ^ 31) (ha : a < 0) : Ev (prog nb sa) m_CF_attributeAt [.ref c, .int (nI k), .int (nI j), .int a] h (some (.int (-1))) h := by
  have hc := hC.1
  refine Ev_ofL k_CF_attributeAt 7 [some (.ref c), some (.int (nI k)), some (.int (nI j)), some (.int a), none, none, none] rfl (Nat.le_of_ble_eq_true rfl) rfl ?_
  cases e : aO aa M0 M1 k j with
  | none =>
    refine Ex_mv rfl rfl ?_; refine Ex_mv rfl rfl ?_; refine Ex_mv rfl rfl ?_; refine Ex_invV rfl (by rfl) (by rfl) (by assumption) (by rfl) (c_CF_attributesOf hC hk hj) ?_
    rw [e]
    refine Ex_mv rfl rfl ?_; refine Ex_mv rfl rfl ?_; refine Ex_mv rfl rfl ?_; refine Ex_mv rfl rfl ?_; refine Ex_ift rfl ?_; refine Ex_mv rfl rfl ?_
    exact Ex_rt rfl rfl ⟨rfl, rfl⟩
  | some q =>
    have hq := aO_le hC e
    refine Ex_mv rfl rfl ?_; refine Ex_mv rfl rfl ?_; refine Ex_mv rfl rfl ?_; refine Ex_invV rfl (by rfl) (by rfl) (by assumption) (by rfl) (c_CF_attributesOf hC hk hj) ?_
    rw [e]
    simp only [oI, Nat.zero_add]
    refine Ex_mv rfl rfl ?_; refine Ex_mv rfl rfl ?_; refine Ex_mv rfl rfl ?_; refine Ex_mv rfl rfl ?_; refine Ex_iff (nI_nm1 (by omega)) ?_; refine Ex_mv rfl rfl ?_; refine Ex_mv rfl rfl ?_; refine Ex_ift ha ?_; refine Ex_mv rfl rfl ?_
    exact Ex_rt rfl rfl ⟨rfl, rfl⟩
end CFILE
end
section
/-! ClassFile: its changes, its likeness -/
section CFILE2
variable {nb sa : Nat} {h : Hp} {c n bh aa : Nat} {B M0 M1 : List Nat} {S : Nat → Nat} {TL : List (Nat × Nat)}
theorem AI.push {g : Nat → Int32} {L : List Nat} {x : Nat} (hg : ∀ j, j < L.length → g j = nI (L.getD j 0)) (hl : L.length < 2 ^ 31) : ∀ j, j < (L ++ [x]).length → upd g (nI L.length).toNatClampNeg (nI x) j = nI ((L ++ [x]).getD j 0) := by
  intro j hj
  rw [nI_clamp hl]
  simp only [List.length_append, List.length_cons, List.length_nil] at hj
  by_cases e : j = L.length
  · subst e; simp [upd]
  · rw [List.getD_eq_getElem?_getD, List.getElem?_append_left (by omega), ← List.getD_eq_getElem?_getD]
    simp only [upd, e, if_false]
    exact hg j (by omega)
theorem FrI.s1 {h h1 : Hp} {a lo hi : Nat} {x : Ce} (h1 : lo ≤ a) (h2 : a < hi) : FrI lo hi h (hset h a x) := FrI.rf.set h1 h2
theorem c_CF_addTell (hC : CF h c B S n bh aa M0 M1 TL) {a w : Nat} (hT : TL.length < 200) (ha : a ≤ 400) (hw : w ≤ 12) : EvQ (prog nb sa) m_CF_addTell [.ref c, .int (nI a), .int (nI w)] h (fun v h' => v = none ∧ CF h' c B S n bh aa M0 M1 (TL ++ [(a, w)]) ∧ FrI c (c + 11) h h') := by
  obtain ⟨hc, a2, a3, a4, a5, a6, ⟨g, hg, hgl⟩, ⟨g2, hg2, hgl2⟩, a9, a10, a11, a12, a13, a14, a15, a16⟩ := id hC
  have hc1 : ∀ x, (hset h (c + 9) x).2.2 c = _ := fun x => hs_ne (by omega) hc
  have hg3 : ∀ x, (hset h (c + 9) x).2.2 (c + 10) = _ := fun x => hs_ne (by omega) hg2
  have hc2 : ∀ x y, (hset (hset h (c + 9) x) (c + 10) y).2.2 c = _ := fun x y => hs_ne (by omega) (hc1 x)
  refine EvQ_of k_CF_addTell 3 [some (.ref c), some (.int (nI a)), some (.int (nI w))] rfl (Nat.le_of_ble_eq_true rfl) rfl ?_
  refine Ex_mv rfl rfl ?_; refine Ex_getf rfl (by assumption) rfl ?_; refine Ex_mv rfl rfl ?_; refine Ex_lt0 (by omega) ?_; refine Ex_mv rfl rfl ?_; refine Ex_getf rfl (by assumption) rfl ?_; refine Ex_mv rfl rfl ?_; refine Ex_mv rfl rfl ?_; refine Ex_iff (nI_ge (by omega) (by decide)) ?_; refine Ex_mv rfl rfl ?_; refine Ex_getf rfl (by assumption) rfl ?_; refine Ex_mv rfl rfl ?_; refine Ex_getf rfl (by assumption) rfl ?_; refine Ex_mv rfl rfl ?_; refine Ex_iast rfl (by assumption) (vp_in_nI (by omega) (by decide)) ?_; refine Ex_mv rfl rfl ?_; refine Ex_getf rfl (hc1 _) rfl ?_; refine Ex_mv rfl rfl ?_; refine Ex_getf rfl (hc1 _) rfl ?_; refine Ex_mv rfl rfl ?_; refine Ex_iast rfl (hg3 _) (vp_in_nI (by omega) (by decide)) ?_; refine Ex_mv rfl rfl ?_; refine Ex_mv rfl rfl ?_; refine Ex_getf rfl (hc2 _ _) rfl ?_; refine Ex_mv rfl rfl ?_; (first | refine Ex_addN rfl ?_ | refine Ex_mv rfl rfl ?_); refine Ex_putf rfl (hc2 _ _) rfl rfl ?_
  have F1 : ∀ x, FrI (c + 9) (c + 10) h (hset h (c + 9) x) := fun x => FrI.rf.set (by omega) (by omega)
  have F2 : ∀ (k : Hp) x, FrI (c + 10) (c + 11) k (hset k (c + 10) x) := fun k x => FrI.rf.set (by omega) (by omega)
  have F3 : ∀ (k : Hp) x, FrI c (c + 1) k (hset k c x) := fun k x => FrI.rf.set (by omega) (by omega)
  refine Ex_rt rfl rfl ⟨rfl, ⟨?_, ?_, ?_, ?_, ?_, ?_, ⟨_, hs_ne (by omega) (hs_ne (by omega) hs_at), ?_⟩, ⟨_, hs_ne (by omega) hs_at, ?_⟩, a9, a10, by simp; omega, a12, a13, a14, a15, ?_⟩, ((FrI.rf.set (by omega) (by omega)).set (by omega) (by omega)).set (by omega) (by omega)⟩
  · rw [List.length_append]; exact hs_at
  · exact ((a2.fr (F1 _) (by omega)).fr (F2 _ _) (by omega)).fr (F3 _ _) (by omega)
  · exact hs_ne (by omega) (hs_ne (by omega) (hs_ne (by omega) a3))
  · exact ((a4.fr (F1 _) (by omega)).fr (F2 _ _) (by omega)).fr (F3 _ _) (by omega)
  · exact ((a5.fr (F1 _) (by omega)).fr (F2 _ _) (by omega)).fr (F3 _ _) (by omega)
  · exact ((a6.fr (F1 _) (by omega)).fr (F2 _ _) (by omega)).fr (F3 _ _) (by omega)
  · have := AI.push (x := a) hgl (by simp; omega)
    simpa using this
  · have := AI.push (x := w) hgl2 (by simp; omega)
    simpa using this
  · intro x hx
    rcases List.mem_append.mp hx with q | q
    · exact a16 x q
    · simp at q; subst q; exact ⟨ha, hw⟩
theorem c_CF_addMember (hC : CF h c B S n bh aa M0 M1 TL) {k a : Nat} (hk : k < 2) (hT : (mK M0 M1 k).length < 12) (ha : a ≤ 400) : EvQ (prog nb sa) m_CF_addMember [.ref c, .int (nI k), .int (nI a)] h (fun v h' => v = none ∧ CF h' c B S n bh aa (if k = 0 then M0 ++ [a] else M0) (if k = 0 then M1 else M1 ++ [a]) TL ∧ FrI c (c + 11) h h') := by
  obtain ⟨hc, a2, a3, a4, a5, ⟨g, hg, hgl⟩, a7, a8, a9, a10, a11, a12, a13, a14, a15, a16⟩ := id hC
  obtain ⟨gi, hgi, hgil⟩ := hC.inner hk
  have hq : (fun i => if i < 2 then some (c + 5 + 1 + i) else none) (nI k).toNatClampNeg = some (c + 5 + 1 + k) := by rw [nI_clamp (by omega)]; exact if_pos hk
  have hc1 : ∀ x, (hset h (c + 5 + 1 + k) x).2.2 c = _ := fun x => hs_ne (by omega) hc
  have hg1 : ∀ x, (hset h (c + 5 + 1 + k) x).2.2 (c + 8) = _ := fun x => hs_ne (by omega) hg
  have fin : ∀ x y, x = upd gi (nI (mK M0 M1 k).length).toNatClampNeg (nI a) → y = upd g (nI k).toNatClampNeg (nI ((mK M0 M1 k).length + 1)) → CF (hset (hset h (c + 5 + 1 + k) (.inl (1, 12, .inl x))) (c + 8) (.inl (1, 2, .inl y))) c B S n bh aa (if k = 0 then M0 ++ [a] else M0) (if k = 0 then M1 else M1 ++ [a]) TL ∧ FrI c (c + 11) h (hset (hset h (c + 5 + 1 + k) (.inl (1, 12, .inl x))) (c + 8) (.inl (1, 2, .inl y))) := by
    intro x y hx hy
    have F1 : ∀ x, FrI (c + 5 + 1 + k) (c + 5 + 1 + k + 1) h (hset h (c + 5 + 1 + k) x) := fun x => FrI.rf.set (by omega) (by omega)
    have F2 : ∀ (k : Hp) x, FrI (c + 8) (c + 9) k (hset k (c + 8) x) := fun k x => FrI.rf.set (by omega) (by omega)
    have hin := AI.push (x := a) hgil (by omega)
    rw [← hx] at hin
    have hcn : ∀ L0 L1 : Nat, ([L0, L1] : List Nat).getD k 0 = (mK M0 M1 k).length + 1 → ([L0, L1] : List Nat).getD (1 - k) 0 = ([M0.length, M1.length] : List Nat).getD (1 - k) 0 → ∀ j, j < ([L0, L1] : List Nat).length → y j = nI (([L0, L1] : List Nat).getD j 0) := by
      intro L0 L1 e1 e2 j hj
      rw [hy, nI_clamp (by omega)]
      by_cases e : j = k
      · subst e; simp only [upd, if_true]; rw [e1]
      · have ej : j = 1 - k := by simp at hj; omega
        simp only [upd, e, if_false]
        rw [ej, e2]
        exact hgl _ (by simp; omega)
    have hk01 : k = 0 ∨ k = 1 := by omega
    refine ⟨⟨hs_ne (by omega) (hs_ne (by omega) hc), (a2.fr (F1 _) (by omega)).fr (F2 _ _) (by omega), hs_ne (by omega) (hs_ne (by omega) a3), ?_, ?_, ?_, (a7.fr (F1 _) (by omega)).fr (F2 _ _) (by omega), (a8.fr (F1 _) (by omega)).fr (F2 _ _) (by omega), ?_, ?_, a11, a12, a13, ?_, ?_, a16⟩, (FrI.rf.set (by omega) (by omega)).set (by omega) (by omega)⟩
    · rcases hk01 with rfl | rfl
      · exact ⟨x, hs_ne (by omega) hs_at, hin⟩
      · exact (a4.fr (F1 _) (by omega)).fr (F2 _ _) (by omega)
    · rcases hk01 with rfl | rfl
      · exact (a5.fr (F1 _) (by omega)).fr (F2 _ _) (by omega)
      · exact ⟨x, hs_ne (by omega) hs_at, hin⟩
    · refine ⟨y, hs_at, ?_⟩
      rcases hk01 with rfl | rfl
      · exact hcn _ _ (by simp [mK]) (by simp)
      · exact hcn _ _ (by simp [mK]) (by simp)
    · rcases hk01 with rfl | rfl
      · simp [mK] at hT ⊢; omega
      · exact a9
    · rcases hk01 with rfl | rfl
      · exact a10
      · simp [mK] at hT ⊢; omega
    · rcases hk01 with rfl | rfl
      · intro z hz
        rcases List.mem_append.mp hz with q | q
        · exact a14 z q
        · simp at q; omega
      · exact a14
    · rcases hk01 with rfl | rfl
      · exact a15
      · intro z hz
        rcases List.mem_append.mp hz with q | q
        · exact a15 z q
        · simp at q; omega
  refine EvQ_of k_CF_addMember 4 [some (.ref c), some (.int (nI k)), some (.int (nI a)), none] rfl (Nat.le_of_ble_eq_true rfl) rfl ?_
  refine Ex_mv rfl rfl ?_; refine Ex_mv rfl rfl ?_; refine Ex_invV rfl (by rfl) (by rfl) (by assumption) (by rfl) (c_CF_members hC hk) ?_; refine Ex_mv rfl rfl ?_; refine Ex_mv rfl rfl ?_; refine Ex_mv rfl rfl ?_; (first | refine Ex_eq0 (by omega) (fun b7 => ?_) (fun b7 => ?_) | refine Ex_if (fun b7 => ?_) (fun b7 => ?_))
  · refine Ex_mv rfl rfl ?_; refine Ex_mv rfl rfl ?_; refine Ex_lt0 (by omega) ?_; refine Ex_mv rfl rfl ?_; refine Ex_mv rfl rfl ?_; refine Ex_mv rfl rfl ?_; refine Ex_iff (nI_ge (by omega) (by decide)) ?_; refine Ex_mv rfl rfl ?_; refine Ex_getf rfl (by assumption) rfl ?_; refine Ex_mv rfl rfl ?_; refine Ex_aald rfl (by assumption) rfl (vp_in_nI (by omega) (by decide)) hq ?_; refine Ex_mv rfl rfl ?_; refine Ex_mv rfl rfl ?_; refine Ex_iast rfl (by assumption) (vp_in_nI (by omega) (by decide)) ?_; refine Ex_mv rfl rfl ?_; refine Ex_getf rfl (hc1 _) rfl ?_; refine Ex_mv rfl rfl ?_; refine Ex_mv rfl rfl ?_; refine Ex_mv rfl rfl ?_; (first | refine Ex_addN rfl ?_ | refine Ex_mv rfl rfl ?_); refine Ex_iast rfl (hg1 _) (vp_in_nI (by omega) (by decide)) ?_
    refine Ex_rt rfl rfl ?_
    first | exact ⟨rfl, fin _ _ rfl rfl⟩ | (exfalso; omega)
  · refine Ex_mv rfl rfl ?_; refine Ex_mv rfl rfl ?_; refine Ex_mv rfl rfl ?_; (first | refine Ex_neN (by omega) (by omega) (fun b12 => ?_) (fun b12 => ?_) | refine Ex_if (fun b12 => ?_) (fun b12 => ?_))
    · refine Ex_rt rfl rfl ?_
      first | exact ⟨rfl, fin _ _ rfl rfl⟩ | (exfalso; omega)
    · refine Ex_mv rfl rfl ?_; refine Ex_mv rfl rfl ?_; refine Ex_lt0 (by omega) ?_; refine Ex_mv rfl rfl ?_; refine Ex_mv rfl rfl ?_; refine Ex_mv rfl rfl ?_; refine Ex_iff (nI_ge (by omega) (by decide)) ?_; refine Ex_mv rfl rfl ?_; refine Ex_getf rfl (by assumption) rfl ?_; refine Ex_mv rfl rfl ?_; refine Ex_aald rfl (by assumption) rfl (vp_in_nI (by omega) (by decide)) hq ?_; refine Ex_mv rfl rfl ?_; refine Ex_mv rfl rfl ?_; refine Ex_iast rfl (by assumption) (vp_in_nI (by omega) (by decide)) ?_; refine Ex_mv rfl rfl ?_; refine Ex_getf rfl (hc1 _) rfl ?_; refine Ex_mv rfl rfl ?_; refine Ex_mv rfl rfl ?_; refine Ex_mv rfl rfl ?_; (first | refine Ex_addN rfl ?_ | refine Ex_mv rfl rfl ?_); refine Ex_iast rfl (hg1 _) (vp_in_nI (by omega) (by decide)) ?_
      refine Ex_rt rfl rfl ?_
      first | exact ⟨rfl, fin _ _ rfl rfl⟩ | (exfalso; omega)
theorem c_CF_begin {t : Nat} {A : List Nat} (hC : CF h c B S n bh aa M0 M1 TL) (hA : RW h t A) (hd : t + 2 ≤ c ∨ c + 11 ≤ t) : EvQ (prog nb sa) m_CF_begin [.ref c, .ref t] h (fun v h' => v = none ∧ CF h' c A (fun _ => 0) 0 0 0 [] [] [] ∧ FrI c (c + 11) h h') := by
  obtain ⟨hc, a2, a3, ⟨g4, hg4, hl4⟩, ⟨g5, hg5, hl5⟩, ⟨g, hg, hgl⟩, ⟨g7, hg7, hl7⟩, ⟨g8, hg8, hl8⟩, a9⟩ := id hC
  obtain ⟨hp, hR, ⟨gs, hgs, hgS⟩, hn, hS⟩ := id a2
  obtain ⟨f, hr, ha, hB⟩ := id hR
  obtain ⟨f', hr', ha', hB'⟩ := id hA
  obtain ⟨_, h1, e1, rfl, R1, F1⟩ := c_RW_take (nb := nb) (sa := sa) hR hA (by omega) (k := 0) (n := A.length) (by omega)
  rw [show sl A 0 A.length = A by simp [sl]] at R1
  have P1 : PO h1 (c + 1) A S n := ⟨F1.at hp (by omega), R1, ⟨gs, F1.at hgs (by omega), hgS⟩, hn, hS⟩
  obtain ⟨_, h2, e2, rfl, P2, F2⟩ := c_PL_begin (nb := nb) (sa := sa) P1 (m := 0) (by decide)
  have hc1 := F1.at hc (by omega)
  have hc2 := F2.at hc1 (by omega)
  have hq1 := P1.1
  have F12 : FrI (c + 1) (c + 5) h h2 := (F1.wd (by omega) (by omega)).tr (F2.wd (by omega) (by omega))
  have hg2 : ∀ x, (hset h2 c x).2.2 (c + 8) = _ := fun x => hs_ne (by omega) (F12.at hg (by omega))
  have key : ∀ x : Ce × Ce × Ce, EvQ (prog nb sa) m_JA_fill [.ref (c + 8), .int (nI 0)] (hset (hset (hset h2 c x.1) c x.2.1) c x.2.2) (fun v h' => v = none ∧ (∃ g, h'.2.2 (c + 8) = some (true, .inl (1, 2, .inl g)) ∧ ∀ j, j < 2 → g j = nI 0) ∧ FrI (c + 8) (c + 8 + 1) (hset (hset (hset h2 c x.1) c x.2.1) c x.2.2) h') := fun x => c_JA_fill (nb := nb) (sa := sa) (by decide) (hs_ne (by omega) (hs_ne (by omega) (hg2 x.1)))
  refine EvQ_of k_CF_begin 2 [some (.ref c), some (.ref t)] rfl (Nat.le_of_ble_eq_true rfl) rfl ?_
  refine Ex_mv rfl rfl ?_; refine Ex_getf rfl (by assumption) rfl ?_; refine Ex_mv rfl rfl ?_; refine Ex_mv rfl rfl ?_; refine Ex_mv rfl rfl ?_; refine Ex_invV rfl (by rfl) (by rfl) hr' (by rfl) (c_RW_size hA) ?_; refine Ex_invV rfl (by rfl) (by rfl) (by assumption) (by rfl) (e1) ?_; refine Ex_mv rfl rfl ?_; refine Ex_mv rfl rfl ?_; refine Ex_getf rfl (by assumption) rfl ?_; refine Ex_mv rfl rfl ?_; refine Ex_invV rfl (by rfl) (by rfl) (by assumption) (by rfl) (e2) ?_; refine Ex_mv rfl rfl ?_; refine Ex_mv rfl rfl ?_; refine Ex_putf rfl hc2 rfl rfl ?_; refine Ex_mv rfl rfl ?_; refine Ex_mv rfl rfl ?_; refine Ex_putf rfl hs_at rfl rfl ?_; refine Ex_mv rfl rfl ?_; refine Ex_mv rfl rfl ?_; refine Ex_putf rfl hs_at rfl rfl ?_; refine Ex_mv rfl rfl ?_; refine Ex_getf rfl hs_at rfl ?_
  refine Ex_mv rfl rfl ?_
  obtain ⟨_, h3, e3, rfl, ⟨g9, hg9, hz9⟩, F3⟩ := key (_, _, _)
  refine Ex_inv rfl (by rfl) (by rfl) (by rfl) e3 ?_
  have F4 : FrI (c) (c + 11) h2 h3 := (((FrI.rf.set (by omega) (by omega)).set (by omega) (by omega)).set (by omega) (by omega)).tr (F3.wd (by omega) (by omega))
  have FA : ∀ q, (q < c ∨ c + 1 ≤ q) → (q < c + 8 ∨ c + 9 ≤ q) → h3.2.2 q = h2.2.2 q := fun q g1 g2 => by
    rw [F3.2.2 q (by omega)]
    exact hs_ne (by omega) (hs_ne (by omega) (hs_ne (by omega) rfl))
  have FB : ∀ x y z, FrI c (c + 1) h2 (hset (hset (hset h2 c x) c y) c z) := fun x y z => ((FrI.rf.set (by omega) (by omega)).set (by omega) (by omega)).set (by omega) (by omega)
  refine Ex_rt rfl rfl ⟨rfl, ⟨F3.at hs_at (by omega), (P2.fr (FB _ _ _) (by omega)).fr F3 (by omega), ?_, ⟨g4, ?_, by simp⟩, ⟨g5, ?_, by simp⟩, ⟨g9, hg9, ?_⟩, ⟨g7, ?_, by simp⟩, ⟨g8, ?_, by simp⟩, by simp, by simp, by simp, by omega, by omega, by simp, by simp, by simp⟩, (F12.wd (by omega) (by omega)).tr F4⟩
  · rw [FA _ (by omega) (by omega)]; exact F12.at a3 (by omega)
  · rw [FA _ (by omega) (by omega)]; exact F12.at hg4 (by omega)
  · rw [FA _ (by omega) (by omega)]; exact F12.at hg5 (by omega)
  · intro j hj
    rw [hz9 j (by simpa using hj)]
    have : j = 0 ∨ j = 1 := by simp at hj; omega
    rcases this with rfl | rfl <;> rfl
  · rw [FA _ (by omega) (by omega)]; exact F12.at hg7 (by omega)
  · rw [FA _ (by omega) (by omega)]; exact F12.at hg8 (by omega)
end CFILE2
end
section
/-! ClassFile: alike in meaning -/
theorem nI_inj32 {a b : Nat} (ha : a < 2 ^ 32) (hb : b < 2 ^ 32) (e : nI a = nI b) : a = b := by
  have h1 := congrArg (fun x : Int32 => x.toBitVec.toNat) e
  have h2 : (nI a).toBitVec.toNat = a := by
    show (BitVec.ofNat 32 a).toNat = a
    rw [BitVec.toNat_ofNat]; omega
  have h3 : (nI b).toBitVec.toNat = b := by
    show (BitVec.ofNat 32 b).toNat = b
    rw [BitVec.toNat_ofNat]; omega
  have h4 : (nI a).toBitVec.toNat = (nI b).toBitVec.toNat := h1
  omega
/-- places that follow each other in the bytes, two bytes each -/
def Inc (B : List Nat) : Nat → List Nat → Prop
  | a, [] => a ≤ B.length
  | a, t :: T => a ≤ t ∧ t + 2 ≤ B.length ∧ Inc B (t + 2) T
def mea (B B' : List Nat) (F G : Nat → Mng) : List Nat → List Nat → Nat → Nat → Bool
  | [], [], a, b => decide (cmpL (sl B a (B.length - a)) (sl B' b (B'.length - b)) = nI 0)
  | t :: T, u :: U, a, b => decide (cmpL (sl B a (t - a)) (sl B' b (u - b)) = nI 0) && (decide (cmpM (F (b2 B t)) (G (b2 B' u)) = nI 0) && mea B B' F G T U (t + 2) (u + 2))
  | [], _ :: _, _, _ => false
  | _ :: _, [], _, _ => false
section MEANS
variable {nb sa : Nat} {h : Hp} {c n bh aa : Nat} {B M0 M1 : List Nat} {S : Nat → Nat} {TL : List (Nat × Nat)} {c' n' bh' aa' : Nat} {B' M0' M1' : List Nat} {S' : Nat → Nat} {TL' : List (Nat × Nat)}
theorem tA_cons {TL : List (Nat × Nat)} {k : Nat} (hk : k < TL.length) : (TL.map (·.1)).drop k = tA TL k :: (TL.map (·.1)).drop (k + 1) := by
  rw [List.drop_eq_getElem_cons (by simpa using hk)]
  unfold tA
  rw [List.getD_eq_getElem?_getD, List.getElem?_eq_getElem (by simpa using hk)]
  rfl
theorem CF_meansAs_loop (hC : CF h c B S n bh aa M0 M1 TL) (hD : CF h c' B' S' n' bh' aa' M0' M1' TL') (hV : TV B S n) (hV' : TV B' S' n') {t u m : Nat} (ht : t + m = TL.length) (hu : u + m = TL'.length) : ∀ (d i a b : Nat) (x8 x9 : Option Value), i + d = m → Inc B a ((TL.map (·.1)).drop (t + i)) → Inc B' b ((TL'.map (·.1)).drop (u + i)) → Ex (prog nb sa) k_CF_meansAs 65 [some (.ref c), some (.ref c'), some (.int (nI t)), some (.int (nI u)), some (.int (nI m)), some (.int (nI a)), some (.int (nI b)), some (.int (nI i)), x8, x9] [] h (fun v h' => v = some (.int (nI (if mea B B' (mng B S n) (mng B' S' n') ((TL.map (·.1)).drop (t + i)) ((TL'.map (·.1)).drop (u + i)) a b then 1 else 0))) ∧ h' = h)
  | 0, i, a, b, x8, x9, hd, hI, hJ => by
    have hc := hC.1
    have hc' := hD.1
    obtain ⟨f, hr, hra, hB⟩ := id hC.row
    obtain ⟨f', hr', hra', hB'⟩ := id hD.row
    have hl := hC.row.len
    have hl' := hD.row.len
    have hTl : TL.length ≤ 200 := hC.2.2.2.2.2.2.2.2.2.2.1
    rw [List.drop_eq_nil_of_le (by simp; omega)] at hI ⊢
    rw [List.drop_eq_nil_of_le (by simp; omega)] at hJ ⊢
    have hI' : a ≤ B.length := hI
    have hJ' : b ≤ B'.length := hJ
    by_cases e : cmpL (sl B a (B.length - a)) (sl B' b (B'.length - b)) = nI 0
    · refine Ex_mv rfl rfl ?_; refine Ex_mv rfl rfl ?_; refine Ex_mv rfl rfl ?_; refine Ex_ift (nI_le (by omega) (by omega)) ?_; refine Ex_mv rfl rfl ?_; refine Ex_getf rfl (by assumption) rfl ?_; refine Ex_mv rfl rfl ?_; refine Ex_mv rfl rfl ?_; refine Ex_getf rfl (by assumption) rfl ?_; refine Ex_invV rfl (by rfl) (by rfl) (by assumption) (by rfl) (c_RW_size hC.row) ?_; refine Ex_mv rfl rfl ?_; (first | refine Ex_subN rfl (by omega) ?_ | refine Ex_mv rfl rfl ?_); refine Ex_mv rfl rfl ?_; refine Ex_getf rfl (by assumption) rfl ?_; refine Ex_mv rfl rfl ?_; refine Ex_mv rfl rfl ?_; refine Ex_getf rfl (by assumption) rfl ?_; refine Ex_invV rfl (by rfl) (by rfl) (by assumption) (by rfl) (c_RW_size hD.row) ?_; refine Ex_mv rfl rfl ?_; (first | refine Ex_subN rfl (by omega) ?_ | refine Ex_mv rfl rfl ?_); refine Ex_invV rfl (by rfl) (by rfl) (by assumption) (by rfl) (c_RW_order hC.row hD.row (by omega) (by omega) (by omega) (by omega)) ?_; refine Ex_mv rfl rfl ?_; refine Ex_iff (not_not_intro e) ?_; refine Ex_mv rfl rfl ?_; refine Ex_mv rfl rfl ?_
      refine Ex_rt rfl rfl ⟨?_, rfl⟩
      simp [mea, e]
    · refine Ex_mv rfl rfl ?_; refine Ex_mv rfl rfl ?_; refine Ex_mv rfl rfl ?_; refine Ex_ift (nI_le (by omega) (by omega)) ?_; refine Ex_mv rfl rfl ?_; refine Ex_getf rfl (by assumption) rfl ?_; refine Ex_mv rfl rfl ?_; refine Ex_mv rfl rfl ?_; refine Ex_getf rfl (by assumption) rfl ?_; refine Ex_invV rfl (by rfl) (by rfl) (by assumption) (by rfl) (c_RW_size hC.row) ?_; refine Ex_mv rfl rfl ?_; (first | refine Ex_subN rfl (by omega) ?_ | refine Ex_mv rfl rfl ?_); refine Ex_mv rfl rfl ?_; refine Ex_getf rfl (by assumption) rfl ?_; refine Ex_mv rfl rfl ?_; refine Ex_mv rfl rfl ?_; refine Ex_getf rfl (by assumption) rfl ?_; refine Ex_invV rfl (by rfl) (by rfl) (by assumption) (by rfl) (c_RW_size hD.row) ?_; refine Ex_mv rfl rfl ?_; (first | refine Ex_subN rfl (by omega) ?_ | refine Ex_mv rfl rfl ?_); refine Ex_invV rfl (by rfl) (by rfl) (by assumption) (by rfl) (c_RW_order hC.row hD.row (by omega) (by omega) (by omega) (by omega)) ?_; refine Ex_mv rfl rfl ?_; refine Ex_ift (ne_nI0 e) ?_; refine Ex_mv rfl rfl ?_
      refine Ex_rt rfl rfl ⟨?_, rfl⟩
      simp [mea, e]
  | d + 1, i, a, b, x8, x9, hd, hI, hJ => by
    have hc := hC.1
    have hc' := hD.1
    obtain ⟨f, hr, hra, hB⟩ := id hC.row
    obtain ⟨f', hr', hra', hB'⟩ := id hD.row
    have hp := hC.po.1
    have hp' := hD.po.1
    have hl := hC.row.len
    have hl' := hD.row.len
    have hTl : TL.length ≤ 200 := hC.2.2.2.2.2.2.2.2.2.2.1
    have hTl' : TL'.length ≤ 200 := hD.2.2.2.2.2.2.2.2.2.2.1
    rw [tA_cons (TL := TL) (k := t + i) (by omega)] at hI ⊢
    rw [tA_cons (TL := TL') (k := u + i) (by omega)] at hJ ⊢
    obtain ⟨i1, i2, i3⟩ := hI
    obtain ⟨j1, j2, j3⟩ := hJ
    have k1 := b2_lt hC.row.lt (tA TL (t + i))
    have k2 := b2_lt hD.row.lt (tA TL' (u + i))
    by_cases e : cmpL (sl B a (tA TL (t + i) - a)) (sl B' b (tA TL' (u + i) - b)) = nI 0
    · by_cases e2 : cmpM (mng B S n (b2 B (tA TL (t + i)))) (mng B' S' n' (b2 B' (tA TL' (u + i)))) = nI 0
      · refine Ex_mv rfl rfl ?_; refine Ex_mv rfl rfl ?_; refine Ex_mv rfl rfl ?_; refine Ex_iff (nI_ge (by omega) (by omega)) ?_; refine Ex_mv rfl rfl ?_; refine Ex_mv rfl rfl ?_; refine Ex_mv rfl rfl ?_; (first | refine Ex_addN rfl ?_ | refine Ex_mv rfl rfl ?_); refine Ex_invV rfl (by rfl) (by rfl) (by assumption) (by rfl) (c_CF_tellAt hC (by omega)) ?_; refine Ex_mv rfl rfl ?_; refine Ex_mv rfl rfl ?_; refine Ex_mv rfl rfl ?_; refine Ex_mv rfl rfl ?_; (first | refine Ex_addN rfl ?_ | refine Ex_mv rfl rfl ?_); refine Ex_invV rfl (by rfl) (by rfl) (by assumption) (by rfl) (c_CF_tellAt hD (by omega)) ?_; refine Ex_mv rfl rfl ?_; refine Ex_mv rfl rfl ?_; refine Ex_getf rfl (by assumption) rfl ?_; refine Ex_mv rfl rfl ?_; refine Ex_mv rfl rfl ?_; refine Ex_mv rfl rfl ?_; (first | refine Ex_subN rfl (by omega) ?_ | refine Ex_mv rfl rfl ?_); refine Ex_mv rfl rfl ?_; refine Ex_getf rfl (by assumption) rfl ?_; refine Ex_mv rfl rfl ?_; refine Ex_mv rfl rfl ?_; refine Ex_mv rfl rfl ?_; (first | refine Ex_subN rfl (by omega) ?_ | refine Ex_mv rfl rfl ?_); refine Ex_invV rfl (by rfl) (by rfl) (by assumption) (by rfl) (c_RW_order hC.row hD.row (by omega) (by omega) (by omega) (by omega)) ?_; refine Ex_mv rfl rfl ?_; refine Ex_iff (not_not_intro e) ?_; refine Ex_mv rfl rfl ?_; refine Ex_getf rfl (by assumption) rfl ?_; refine Ex_mv rfl rfl ?_; refine Ex_getf rfl (by assumption) rfl ?_; refine Ex_mv rfl rfl ?_; refine Ex_invV rfl (by rfl) (by rfl) (by assumption) (by rfl) (c_RW_two hC.row (by omega)) ?_; refine Ex_mv rfl rfl ?_; refine Ex_getf rfl (by assumption) rfl ?_; refine Ex_mv rfl rfl ?_; refine Ex_getf rfl (by assumption) rfl ?_; refine Ex_mv rfl rfl ?_; refine Ex_invV rfl (by rfl) (by rfl) (by assumption) (by rfl) (c_RW_two hD.row (by omega)) ?_; refine Ex_invV rfl (by rfl) (by rfl) (by assumption) (by rfl) (c_PL_order hC.po hD.po hV hV' (by omega) (by omega)) ?_; refine Ex_mv rfl rfl ?_; refine Ex_ift e2 ?_; refine Ex_mv rfl rfl ?_; refine Ex_mv rfl rfl ?_; (first | refine Ex_addN rfl ?_ | refine Ex_mv rfl rfl ?_); refine Ex_mv rfl rfl ?_; refine Ex_mv rfl rfl ?_; refine Ex_mv rfl rfl ?_; (first | refine Ex_addN rfl ?_ | refine Ex_mv rfl rfl ?_); refine Ex_mv rfl rfl ?_; (first | refine Ex_incN rfl rfl ?_ | refine Ex_mv rfl rfl ?_); refine Ex_mv rfl rfl ?_
        refine Ex_mono (CF_meansAs_loop hC hD hV hV' ht hu d (i + 1) _ _ _ _ (by omega) i3 j3) ?_
        rintro v h' ⟨rfl, rfl⟩
        simp [mea, e, e2, Nat.add_assoc]
      · refine Ex_mv rfl rfl ?_; refine Ex_mv rfl rfl ?_; refine Ex_mv rfl rfl ?_; refine Ex_iff (nI_ge (by omega) (by omega)) ?_; refine Ex_mv rfl rfl ?_; refine Ex_mv rfl rfl ?_; refine Ex_mv rfl rfl ?_; (first | refine Ex_addN rfl ?_ | refine Ex_mv rfl rfl ?_); refine Ex_invV rfl (by rfl) (by rfl) (by assumption) (by rfl) (c_CF_tellAt hC (by omega)) ?_; refine Ex_mv rfl rfl ?_; refine Ex_mv rfl rfl ?_; refine Ex_mv rfl rfl ?_; refine Ex_mv rfl rfl ?_; (first | refine Ex_addN rfl ?_ | refine Ex_mv rfl rfl ?_); refine Ex_invV rfl (by rfl) (by rfl) (by assumption) (by rfl) (c_CF_tellAt hD (by omega)) ?_; refine Ex_mv rfl rfl ?_; refine Ex_mv rfl rfl ?_; refine Ex_getf rfl (by assumption) rfl ?_; refine Ex_mv rfl rfl ?_; refine Ex_mv rfl rfl ?_; refine Ex_mv rfl rfl ?_; (first | refine Ex_subN rfl (by omega) ?_ | refine Ex_mv rfl rfl ?_); refine Ex_mv rfl rfl ?_; refine Ex_getf rfl (by assumption) rfl ?_; refine Ex_mv rfl rfl ?_; refine Ex_mv rfl rfl ?_; refine Ex_mv rfl rfl ?_; (first | refine Ex_subN rfl (by omega) ?_ | refine Ex_mv rfl rfl ?_); refine Ex_invV rfl (by rfl) (by rfl) (by assumption) (by rfl) (c_RW_order hC.row hD.row (by omega) (by omega) (by omega) (by omega)) ?_; refine Ex_mv rfl rfl ?_; refine Ex_iff (not_not_intro e) ?_; refine Ex_mv rfl rfl ?_; refine Ex_getf rfl (by assumption) rfl ?_; refine Ex_mv rfl rfl ?_; refine Ex_getf rfl (by assumption) rfl ?_; refine Ex_mv rfl rfl ?_; refine Ex_invV rfl (by rfl) (by rfl) (by assumption) (by rfl) (c_RW_two hC.row (by omega)) ?_; refine Ex_mv rfl rfl ?_; refine Ex_getf rfl (by assumption) rfl ?_; refine Ex_mv rfl rfl ?_; refine Ex_getf rfl (by assumption) rfl ?_; refine Ex_mv rfl rfl ?_; refine Ex_invV rfl (by rfl) (by rfl) (by assumption) (by rfl) (c_RW_two hD.row (by omega)) ?_; refine Ex_invV rfl (by rfl) (by rfl) (by assumption) (by rfl) (c_PL_order hC.po hD.po hV hV' (by omega) (by omega)) ?_; refine Ex_mv rfl rfl ?_; refine Ex_iff (ne_nI0 e2) ?_; refine Ex_mv rfl rfl ?_
        refine Ex_rt rfl rfl ⟨?_, rfl⟩
        simp [mea, e2]
    · refine Ex_mv rfl rfl ?_; refine Ex_mv rfl rfl ?_; refine Ex_mv rfl rfl ?_; refine Ex_iff (nI_ge (by omega) (by omega)) ?_; refine Ex_mv rfl rfl ?_; refine Ex_mv rfl rfl ?_; refine Ex_mv rfl rfl ?_; (first | refine Ex_addN rfl ?_ | refine Ex_mv rfl rfl ?_); refine Ex_invV rfl (by rfl) (by rfl) (by assumption) (by rfl) (c_CF_tellAt hC (by omega)) ?_; refine Ex_mv rfl rfl ?_; refine Ex_mv rfl rfl ?_; refine Ex_mv rfl rfl ?_; refine Ex_mv rfl rfl ?_; (first | refine Ex_addN rfl ?_ | refine Ex_mv rfl rfl ?_); refine Ex_invV rfl (by rfl) (by rfl) (by assumption) (by rfl) (c_CF_tellAt hD (by omega)) ?_; refine Ex_mv rfl rfl ?_; refine Ex_mv rfl rfl ?_; refine Ex_getf rfl (by assumption) rfl ?_; refine Ex_mv rfl rfl ?_; refine Ex_mv rfl rfl ?_; refine Ex_mv rfl rfl ?_; (first | refine Ex_subN rfl (by omega) ?_ | refine Ex_mv rfl rfl ?_); refine Ex_mv rfl rfl ?_; refine Ex_getf rfl (by assumption) rfl ?_; refine Ex_mv rfl rfl ?_; refine Ex_mv rfl rfl ?_; refine Ex_mv rfl rfl ?_; (first | refine Ex_subN rfl (by omega) ?_ | refine Ex_mv rfl rfl ?_); refine Ex_invV rfl (by rfl) (by rfl) (by assumption) (by rfl) (c_RW_order hC.row hD.row (by omega) (by omega) (by omega) (by omega)) ?_; refine Ex_mv rfl rfl ?_; refine Ex_ift (ne_nI0 e) ?_; refine Ex_mv rfl rfl ?_
      refine Ex_rt rfl rfl ⟨?_, rfl⟩
      simp [mea, e]
theorem mea_len {F G : Nat → Mng} : ∀ (T U : List Nat) (a b : Nat), T.length ≠ U.length → mea B B' F G T U a b = false
  | [], [], a, b, hn => absurd rfl hn
  | [], _ :: _, a, b, hn => rfl
  | _ :: _, [], a, b, hn => rfl
  | t :: T, u :: U, a, b, hn => by
    rw [mea, mea_len T U _ _ (by simpa using hn)]
    simp
/-- the tells behind the pool -/
def tB (TL : List (Nat × Nat)) (bh : Nat) : List Nat := (TL.map (·.1)).drop (fbh TL bh TL.length 0)
theorem c_CF_meansAs (hC : CF h c B S n bh aa M0 M1 TL) (hD : CF h c' B' S' n' bh' aa' M0' M1' TL') (hV : TV B S n) (hV' : TV B' S' n') (hI : Inc B bh (tB TL bh)) (hJ : Inc B' bh' (tB TL' bh')) : Ev (prog nb sa) m_CF_meansAs [.ref c, .ref c'] h (some (.int (nI (if b4 B 4 = b4 B' 4 ∧ mea B B' (mng B S n) (mng B' S' n') (tB TL bh) (tB TL' bh') bh bh' = true then 1 else 0)))) h := by
  have hc := hC.1
  have hc' := hD.1
  obtain ⟨f, hr, hra, hB⟩ := id hC.row
  obtain ⟨f', hr', hra', hB'⟩ := id hD.row
  have k1 := b4_lt hC.row.lt 4
  have k2 := b4_lt hD.row.lt 4
  have hTl : TL.length ≤ 200 := hC.2.2.2.2.2.2.2.2.2.2.1
  have hTl' : TL'.length ≤ 200 := hD.2.2.2.2.2.2.2.2.2.2.1
  have f1 := (fbh_le TL bh TL.length 0).2
  have f2 := (fbh_le TL' bh' TL'.length 0).2
  refine Ev_ofL k_CF_meansAs 10 [some (.ref c), some (.ref c'), none, none, none, none, none, none, none, none] rfl (Nat.le_of_ble_eq_true rfl) rfl ?_
  by_cases hm : TL.length - fbh TL bh TL.length 0 = TL'.length - fbh TL' bh' TL'.length 0
  · by_cases hv : b4 B 4 = b4 B' 4
    · refine Ex_mv rfl rfl ?_; refine Ex_invV rfl (by rfl) (by rfl) (by assumption) (by rfl) (c_CF_firstBehind hC) ?_; refine Ex_mv rfl rfl ?_; refine Ex_mv rfl rfl ?_; refine Ex_invV rfl (by rfl) (by rfl) (by assumption) (by rfl) (c_CF_firstBehind hD) ?_; refine Ex_mv rfl rfl ?_; refine Ex_mv rfl rfl ?_; refine Ex_getf rfl (by assumption) rfl ?_; refine Ex_mv rfl rfl ?_; (first | refine Ex_subN rfl (by omega) ?_ | refine Ex_mv rfl rfl ?_); refine Ex_mv rfl rfl ?_; refine Ex_mv rfl rfl ?_; refine Ex_mv rfl rfl ?_; refine Ex_getf rfl (by assumption) rfl ?_; refine Ex_mv rfl rfl ?_; (first | refine Ex_subN rfl (by omega) ?_ | refine Ex_mv rfl rfl ?_); refine Ex_mv rfl rfl ?_; refine Ex_iff (not_not_intro (by rw [hm])) ?_; refine Ex_mv rfl rfl ?_; refine Ex_getf rfl (by assumption) rfl ?_; refine Ex_mv rfl rfl ?_; refine Ex_invV rfl (by rfl) (by rfl) (by assumption) (by rfl) (c_RW_four hC.row (by omega)) ?_; refine Ex_mv rfl rfl ?_; refine Ex_getf rfl (by assumption) rfl ?_; refine Ex_mv rfl rfl ?_; refine Ex_invV rfl (by rfl) (by rfl) (by assumption) (by rfl) (c_RW_four hD.row (by omega)) ?_; refine Ex_mv rfl rfl ?_; refine Ex_ift (by rw [hv]) ?_; refine Ex_mv rfl rfl ?_; refine Ex_getf rfl (by assumption) rfl ?_; refine Ex_mv rfl rfl ?_; refine Ex_mv rfl rfl ?_; refine Ex_getf rfl (by assumption) rfl ?_; refine Ex_mv rfl rfl ?_; refine Ex_mv rfl rfl ?_; refine Ex_mv rfl rfl ?_
      refine Ex_mono (CF_meansAs_loop hC hD hV hV' (t := fbh TL bh TL.length 0) (u := fbh TL' bh' TL'.length 0) (by omega) (by omega) (TL.length - fbh TL bh TL.length 0) 0 bh bh' _ _ (by omega) hI hJ) ?_
      rintro v h' ⟨rfl, rfl⟩
      refine ⟨?_, rfl⟩
      simp only [Nat.add_zero, hv, true_and]
      rfl
    · refine Ex_mv rfl rfl ?_; refine Ex_invV rfl (by rfl) (by rfl) (by assumption) (by rfl) (c_CF_firstBehind hC) ?_; refine Ex_mv rfl rfl ?_; refine Ex_mv rfl rfl ?_; refine Ex_invV rfl (by rfl) (by rfl) (by assumption) (by rfl) (c_CF_firstBehind hD) ?_; refine Ex_mv rfl rfl ?_; refine Ex_mv rfl rfl ?_; refine Ex_getf rfl (by assumption) rfl ?_; refine Ex_mv rfl rfl ?_; (first | refine Ex_subN rfl (by omega) ?_ | refine Ex_mv rfl rfl ?_); refine Ex_mv rfl rfl ?_; refine Ex_mv rfl rfl ?_; refine Ex_mv rfl rfl ?_; refine Ex_getf rfl (by assumption) rfl ?_; refine Ex_mv rfl rfl ?_; (first | refine Ex_subN rfl (by omega) ?_ | refine Ex_mv rfl rfl ?_); refine Ex_mv rfl rfl ?_; refine Ex_iff (not_not_intro (by rw [hm])) ?_; refine Ex_mv rfl rfl ?_; refine Ex_getf rfl (by assumption) rfl ?_; refine Ex_mv rfl rfl ?_; refine Ex_invV rfl (by rfl) (by rfl) (by assumption) (by rfl) (c_RW_four hC.row (by omega)) ?_; refine Ex_mv rfl rfl ?_; refine Ex_getf rfl (by assumption) rfl ?_; refine Ex_mv rfl rfl ?_; refine Ex_invV rfl (by rfl) (by rfl) (by assumption) (by rfl) (c_RW_four hD.row (by omega)) ?_; refine Ex_mv rfl rfl ?_; refine Ex_iff (fun z => hv (nI_inj32 k1 k2 z)) ?_; refine Ex_mv rfl rfl ?_
      refine Ex_rt rfl rfl ⟨?_, rfl⟩
      simp [hv]
  · have hq : mea B B' (mng B S n) (mng B' S' n') (tB TL bh) (tB TL' bh') bh bh' = false := mea_len _ _ _ _ (by simp [tB]; omega)
    refine Ex_mv rfl rfl ?_; refine Ex_invV rfl (by rfl) (by rfl) (by assumption) (by rfl) (c_CF_firstBehind hC) ?_; refine Ex_mv rfl rfl ?_; refine Ex_mv rfl rfl ?_; refine Ex_invV rfl (by rfl) (by rfl) (by assumption) (by rfl) (c_CF_firstBehind hD) ?_; refine Ex_mv rfl rfl ?_; refine Ex_mv rfl rfl ?_; refine Ex_getf rfl (by assumption) rfl ?_; refine Ex_mv rfl rfl ?_; (first | refine Ex_subN rfl (by omega) ?_ | refine Ex_mv rfl rfl ?_); refine Ex_mv rfl rfl ?_; refine Ex_mv rfl rfl ?_; refine Ex_mv rfl rfl ?_; refine Ex_getf rfl (by assumption) rfl ?_; refine Ex_mv rfl rfl ?_; (first | refine Ex_subN rfl (by omega) ?_ | refine Ex_mv rfl rfl ?_); refine Ex_mv rfl rfl ?_; refine Ex_ift (fun z => hm ((nI_eq (by omega) (by omega)).mp z)) ?_; refine Ex_mv rfl rfl ?_
    refine Ex_rt rfl rfl ⟨?_, rfl⟩
    simp [hq]
end MEANS
end
section
/-! Reader: what it does, step by step; a fault stays -/
abbrev Fs : Type := (Nat → Nat) × Nat × Nat × Nat × List Nat × List Nat × List (Nat × Nat)
def CFs (h : Hp) (c : Nat) (B : List Nat) (x : Fs) : Prop := CF h c B x.1 x.2.1 x.2.2.1 x.2.2.2.1 x.2.2.2.2.1 x.2.2.2.2.2.1 x.2.2.2.2.2.2
/-- a fault with its place, or how far, and the file -/
abbrev Rt : Type := (Nat × Nat) ⊕ (Nat × Fs)
abbrev RdO (h : Hp) (rd c f : Nat) (w : Int32) (a : Nat) : Prop := h.2.2 rd = some (true, .inr (3, [.int (nI f), .int w, .ref c, .ref (c + 2), .int (nI a)]))
def RtM (s : Rt) (f : Nat) (w : Int32) (a : Nat) (x : Fs) : Prop := match s with
  | .inl (f', w') => f = f' ∧ w = nI w' ∧ f' ≠ 0
  | .inr (a', x') => f = 0 ∧ w = -1 ∧ a = a' ∧ x = x' ∧ 2 * x'.2.2.2.2.2.2.length ≤ a'
def RSt (h : Hp) (c rd : Nat) (B : List Nat) (s : Rt) : Prop := ∃ f w a x, RdO h rd c f w a ∧ CFs h c B x ∧ a ≤ B.length ∧ f ≤ 10 ∧ RtM s f w a x
def FR (c rd : Nat) (h h' : Hp) : Prop := h'.1 = h.1 ∧ h'.2.1 = h.2.1 ∧ ∀ q, (q < c ∨ c + 11 ≤ q) → q ≠ rd → h'.2.2 q = h.2.2 q
theorem FR.rf {c rd : Nat} {h : Hp} : FR c rd h h := ⟨rfl, rfl, fun _ _ _ => rfl⟩
theorem FR.tr {c rd : Nat} {h h1 h2 : Hp} (a : FR c rd h h1) (b : FR c rd h1 h2) : FR c rd h h2 := ⟨b.1.trans a.1, b.2.1.trans a.2.1, fun q hq hr => (b.2.2 q hq hr).trans (a.2.2 q hq hr)⟩
theorem FR.of {c rd : Nat} {h h1 : Hp} (a : FrI c (c + 11) h h1) : FR c rd h h1 := ⟨a.1, a.2.1, fun q hq _ => a.2.2 q hq⟩
theorem FR.ofR {c rd : Nat} {h h1 : Hp} (a : FrI rd (rd + 1) h h1) : FR c rd h h1 := ⟨a.1, a.2.1, fun q _ hr => a.2.2 q (by omega)⟩
theorem RtM.ok {s : Rt} {w : Int32} {a : Nat} {x : Fs} (h : RtM s 0 w a x) : s = .inr (a, x) ∧ w = -1 ∧ 2 * x.2.2.2.2.2.2.length ≤ a := by
  cases s with
  | inl e => exact absurd h.1.symm h.2.2
  | inr e => obtain ⟨-, h1, h2, h3, h4⟩ := h; subst h2; subst h3; exact ⟨rfl, h1, h4⟩
theorem RtM.bad {s : Rt} {f : Nat} {w : Int32} {a : Nat} {x : Fs} (h : RtM s f w a x) (hf : f ≠ 0) : ∃ w', s = .inl (f, w') ∧ w = nI w' := by
  cases s with
  | inl e => obtain ⟨h1, h2, h3⟩ := h; exact ⟨e.2, by rw [h1], h2⟩
  | inr e => exact absurd h.1 hf
theorem nI_nz {f : Nat} (h : f ≠ 0) (hf : f < 2 ^ 31) : ¬ nI f = 0 := fun e => h ((nI_eq (b := 0) hf (by decide)).mp e)
def p_fail (k w : Nat) (s : Rt) : Rt := match s with
  | .inl e => .inl e
  | .inr _ => .inl (k, w)
def p_skip (B : List Nat) (k : Nat) (s : Rt) : Rt := match s with
  | .inl e => .inl e
  | .inr (a, x) => if a + k ≤ B.length then .inr (a + k, x) else .inl (1, B.length)
/-- one more tell -/
def addT (x : Fs) (a w : Nat) : Fs := (x.1, x.2.1, x.2.2.1, x.2.2.2.1, x.2.2.2.2.1, x.2.2.2.2.2.1, x.2.2.2.2.2.2 ++ [(a, w)])
def p_tell (B : List Nat) (w : Nat) (s : Rt) : Rt := match s with
  | .inl e => .inl e
  | .inr (a, x) => if a + 2 ≤ B.length then .inr (a + 2, addT x a w) else .inl (1, B.length)
def p_two (B : List Nat) (s : Rt) : Nat := match s with
  | .inl _ => 0
  | .inr (a, _) => if a + 2 ≤ B.length then b2 B a else 0
def p_many (B : List Nat) (m : Nat) (s : Rt) : Nat × Rt := match s with
  | .inl e => (0, .inl e)
  | .inr (a, x) => if a + 2 ≤ B.length then (if b2 B a ≤ m then (b2 B a, .inr (a + 2, x)) else (0, .inl (3, a))) else (0, .inl (1, B.length))
section READER
variable {nb sa : Nat} {h : Hp} {c rd : Nat} {B : List Nat} {s : Rt}
theorem CFs.len {x : Fs} (hC : CFs h c B x) : B.length ≤ 400 := CF.row hC |>.len
theorem CFs.set {x : Fs} {z : Ce} (hd : rd < c ∨ c + 11 ≤ rd) (hC : CFs h c B x) : CFs (hset h rd z) c B x := CF.fr hC (FrI.set (lo := rd) (hi := rd + 1) FrI.rf (by omega) (by omega)) (by omega)
theorem c_RD_fail (hd : rd < c ∨ c + 11 ≤ rd) (hs : RSt h c rd B s) {k w : Nat} (hk : k ≠ 0) (hk2 : k ≤ 10) : EvQ (prog nb sa) m_RD_fail [.ref rd, .int (nI k), .int (nI w)] h (fun v h' => v = none ∧ RSt h' c rd B (p_fail k w s) ∧ FR c rd h h') := by
  obtain ⟨f, w0, a, x, hR, hC, ha, hf, hm⟩ := id hs
  refine EvQ_of k_RD_fail 3 [some (.ref rd), some (.int (nI k)), some (.int (nI w))] rfl (Nat.le_of_ble_eq_true rfl) rfl ?_
  by_cases hf0 : f = 0
  · subst hf0
    obtain ⟨rfl, rfl, hT⟩ := hm.ok
    refine Ex_mv rfl rfl ?_; refine Ex_getf rfl (by assumption) rfl ?_; refine Ex_mv rfl rfl ?_; refine Ex_iff (by decide) ?_; refine Ex_mv rfl rfl ?_; refine Ex_mv rfl rfl ?_; refine Ex_putf rfl (by assumption) rfl rfl ?_; refine Ex_mv rfl rfl ?_; refine Ex_mv rfl rfl ?_; refine Ex_putf rfl hs_at rfl rfl ?_
    refine Ex_rt rfl rfl ?_
    exact ⟨rfl, ⟨k, nI w, a, x, hs_at, (hC.set hd).set hd, ha, hk2, rfl, rfl, hk⟩, FR.ofR ((FrI.rf.set (by omega) (by omega)).set (by omega) (by omega))⟩
  · obtain ⟨w', rfl, rfl⟩ := hm.bad hf0
    refine Ex_mv rfl rfl ?_; refine Ex_getf rfl (by assumption) rfl ?_; refine Ex_mv rfl rfl ?_; refine Ex_ift (nI_nz hf0 (by omega)) ?_
    refine Ex_rt rfl rfl ?_
    exact ⟨rfl, hs, FR.rf⟩
theorem c_RD_skip (hd : rd < c ∨ c + 11 ≤ rd) (hs : RSt h c rd B s) {k : Nat} (hk : k < 2 ^ 31) : EvQ (prog nb sa) m_RD_skip [.ref rd, .int (nI k)] h (fun v h' => v = none ∧ RSt h' c rd B (p_skip B k s) ∧ FR c rd h h') := by
  obtain ⟨_, h1, e1, rfl, R1, F1⟩ := c_RD_fail (nb := nb) (sa := sa) hd hs (k := 1) (w := B.length) (by decide) (by decide)
  obtain ⟨f, w0, a, x, hR, hC, ha, hf, hm⟩ := id hs
  have hl := hC.len
  have hrow : RW h (c + 2) B := CF.row hC
  obtain ⟨fr, hr, hra, hB⟩ := id hrow
  refine EvQ_of k_RD_skip 2 [some (.ref rd), some (.int (nI k))] rfl (Nat.le_of_ble_eq_true rfl) rfl ?_
  by_cases hf0 : f = 0
  · subst hf0
    obtain ⟨rfl, rfl, hT⟩ := hm.ok
    by_cases e : a + k ≤ B.length
    · have es : p_skip B k (.inr (a, x)) = .inr (a + k, x) := if_pos e
      rw [es]
      refine Ex_mv rfl rfl ?_; refine Ex_getf rfl (by assumption) rfl ?_; refine Ex_mv rfl rfl ?_; refine Ex_ift (by decide) ?_; refine Ex_mv rfl rfl ?_; refine Ex_getf rfl (by assumption) rfl ?_; refine Ex_mv rfl rfl ?_; refine Ex_getf rfl (by assumption) rfl ?_; refine Ex_mv rfl rfl ?_; refine Ex_invV rfl (by rfl) (by rfl) (by assumption) (by rfl) (c_RW_has hrow (by omega) hk) ?_
      rw [if_pos e]
      refine Ex_mv rfl rfl ?_; refine Ex_iff (by decide) ?_; refine Ex_mv rfl rfl ?_; refine Ex_mv rfl rfl ?_; refine Ex_getf rfl (by assumption) rfl ?_; refine Ex_mv rfl rfl ?_; (first | refine Ex_addN rfl ?_ | refine Ex_mv rfl rfl ?_); refine Ex_putf rfl (by assumption) rfl rfl ?_; refine Ex_mv rfl rfl ?_
      refine Ex_rt rfl rfl ?_
      exact ⟨rfl, ⟨0, -1, a + k, x, hs_at, hC.set hd, e, by decide, rfl, rfl, rfl, rfl, by omega⟩, FR.ofR (FrI.rf.set (by omega) (by omega))⟩
    · have es : p_skip B k (.inr (a, x)) = .inl (1, B.length) := if_neg e
      rw [es]
      refine Ex_mv rfl rfl ?_; refine Ex_getf rfl (by assumption) rfl ?_; refine Ex_mv rfl rfl ?_; refine Ex_ift (by decide) ?_; refine Ex_mv rfl rfl ?_; refine Ex_getf rfl (by assumption) rfl ?_; refine Ex_mv rfl rfl ?_; refine Ex_getf rfl (by assumption) rfl ?_; refine Ex_mv rfl rfl ?_; refine Ex_invV rfl (by rfl) (by rfl) (by assumption) (by rfl) (c_RW_has hrow (by omega) hk) ?_
      rw [if_neg e]
      refine Ex_mv rfl rfl ?_; refine Ex_ift (by decide) ?_; refine Ex_mv rfl rfl ?_; refine Ex_mv rfl rfl ?_; refine Ex_mv rfl rfl ?_; refine Ex_getf rfl (by assumption) rfl ?_; refine Ex_invV rfl (by rfl) (by rfl) (by assumption) (by rfl) (c_RW_size hrow) ?_; refine Ex_invV rfl (by rfl) (by rfl) (by assumption) (by rfl) (e1) ?_
      refine Ex_rt rfl rfl ?_
      exact ⟨rfl, R1, F1⟩
  · obtain ⟨w', rfl, rfl⟩ := hm.bad hf0
    refine Ex_mv rfl rfl ?_; refine Ex_getf rfl (by assumption) rfl ?_; refine Ex_mv rfl rfl ?_; refine Ex_iff (nI_nz hf0 (by omega)) ?_
    refine Ex_rt rfl rfl ?_
    exact ⟨rfl, hs, FR.rf⟩
theorem c_RD_skipB (hs : RSt h c rd B s) {e : Nat × Nat} (he : s = .inl e) {k : Int32} : Ev (prog nb sa) m_RD_skip [.ref rd, .int k] h none h := by
  obtain ⟨f, w0, a, x, hR, hC, ha, hf, hm⟩ := id hs
  subst he
  obtain ⟨f1, f2, f3⟩ := hm
  refine Ev_ofL k_RD_skip 2 [some (.ref rd), some (.int k)] rfl (Nat.le_of_ble_eq_true rfl) rfl ?_
  refine Ex_mv rfl rfl ?_; refine Ex_getf rfl (by assumption) rfl ?_; refine Ex_mv rfl rfl ?_; refine Ex_iff (nI_nz (by omega) (by omega)) ?_
  exact Ex_rt rfl rfl ⟨rfl, rfl⟩
theorem c_RD_tell (hd : rd < c ∨ c + 11 ≤ rd) (hs : RSt h c rd B s) {k : Nat} (hk : k ≤ 12) : EvQ (prog nb sa) m_RD_tell [.ref rd, .int (nI k)] h (fun v h' => v = none ∧ RSt h' c rd B (p_tell B k s) ∧ FR c rd h h') := by
  obtain ⟨_, h1, e1, rfl, R1, F1⟩ := c_RD_skip (nb := nb) (sa := sa) hd hs (k := 2) (by decide)
  obtain ⟨f, w0, a, x, hR, hC, ha, hf, hm⟩ := id hs
  obtain ⟨f1, w1, a1, x1, hR1, hC1, ha1, hf1, hm1⟩ := id R1
  have hl := hC.len
  have hc1 := hC1.1
  refine EvQ_of k_RD_tell 3 [some (.ref rd), some (.int (nI k)), none] rfl (Nat.le_of_ble_eq_true rfl) rfl ?_
  by_cases hf0 : f = 0
  · subst hf0
    obtain ⟨rfl, rfl, hT⟩ := hm.ok
    by_cases e : a + 2 ≤ B.length
    · have es : p_skip B 2 (.inr (a, x)) = .inr (a + 2, x) := if_pos e
      have es2 : p_tell B k (.inr (a, x)) = .inr (a + 2, addT x a k) := if_pos e
      rw [es] at hm1
      rw [es2]
      obtain ⟨rfl, rfl, rfl, rfl, hT1⟩ := hm1
      obtain ⟨_, h2, e2, rfl, C2, F2⟩ := c_CF_addTell (nb := nb) (sa := sa) hC1 (a := a) (w := k) (by omega) (by omega) hk
      refine Ex_mv rfl rfl ?_; refine Ex_getf rfl (by assumption) rfl ?_; refine Ex_mv rfl rfl ?_; refine Ex_mv rfl rfl ?_; refine Ex_mv rfl rfl ?_; refine Ex_invV rfl (by rfl) (by rfl) (by assumption) (by rfl) (e1) ?_; refine Ex_mv rfl rfl ?_; refine Ex_getf rfl (by assumption) rfl ?_; refine Ex_mv rfl rfl ?_; refine Ex_iff (by decide) ?_; refine Ex_mv rfl rfl ?_; refine Ex_getf rfl (by assumption) rfl ?_; refine Ex_mv rfl rfl ?_; refine Ex_mv rfl rfl ?_; refine Ex_invV rfl (by rfl) (by rfl) (by assumption) (by rfl) (e2) ?_
      refine Ex_rt rfl rfl ?_
      exact ⟨rfl, ⟨0, -1, a + 2, addT x1 a k, F2.at hR1 (by omega), C2, e, by decide, rfl, rfl, rfl, rfl, by simp [addT]; omega⟩, F1.tr (FR.of F2)⟩
    · have es : p_skip B 2 (.inr (a, x)) = .inl (1, B.length) := if_neg e
      have es2 : p_tell B k (.inr (a, x)) = .inl (1, B.length) := if_neg e
      rw [es] at hm1 R1
      rw [es2]
      have hq := hm1.1
      refine Ex_mv rfl rfl ?_; refine Ex_getf rfl (by assumption) rfl ?_; refine Ex_mv rfl rfl ?_; refine Ex_mv rfl rfl ?_; refine Ex_mv rfl rfl ?_; refine Ex_invV rfl (by rfl) (by rfl) (by assumption) (by rfl) (e1) ?_; refine Ex_mv rfl rfl ?_; refine Ex_getf rfl (by assumption) rfl ?_; refine Ex_mv rfl rfl ?_; refine Ex_ift (nI_nz (by omega) (by omega)) ?_
      refine Ex_rt rfl rfl ?_
      exact ⟨rfl, R1, F1⟩
  · obtain ⟨w', rfl, rfl⟩ := hm.bad hf0
    have hq : f1 = f := hm1.1
    refine Ex_mv rfl rfl ?_; refine Ex_getf rfl (by assumption) rfl ?_; refine Ex_mv rfl rfl ?_; refine Ex_mv rfl rfl ?_; refine Ex_mv rfl rfl ?_; refine Ex_invV rfl (by rfl) (by rfl) (by assumption) (by rfl) (e1) ?_; refine Ex_mv rfl rfl ?_; refine Ex_getf rfl (by assumption) rfl ?_; refine Ex_mv rfl rfl ?_; refine Ex_ift (nI_nz (by omega) (by omega)) ?_
    refine Ex_rt rfl rfl ?_
    exact ⟨rfl, R1, F1⟩
theorem c_RD_two (hd : rd < c ∨ c + 11 ≤ rd) (hs : RSt h c rd B s) : EvQ (prog nb sa) m_RD_two [.ref rd] h (fun v h' => v = some (.int (nI (p_two B s))) ∧ RSt h' c rd B (p_skip B 2 s) ∧ FR c rd h h') := by
  obtain ⟨_, h1, e1, rfl, R1, F1⟩ := c_RD_skip (nb := nb) (sa := sa) hd hs (k := 2) (by decide)
  obtain ⟨f, w0, a, x, hR, hC, ha, hf, hm⟩ := id hs
  obtain ⟨f1, w1, a1, x1, hR1, hC1, ha1, hf1, hm1⟩ := id R1
  have hl := hC.len
  have hrow1 : RW h1 (c + 2) B := CF.row hC1
  obtain ⟨fr, hr, hra, hB⟩ := id hrow1
  refine EvQ_of k_RD_two 2 [some (.ref rd), none] rfl (Nat.le_of_ble_eq_true rfl) rfl ?_
  by_cases hf0 : f = 0
  · subst hf0
    obtain ⟨rfl, rfl, hT⟩ := hm.ok
    by_cases e : a + 2 ≤ B.length
    · have es : p_skip B 2 (.inr (a, x)) = .inr (a + 2, x) := if_pos e
      have es2 : p_two B (.inr (a, x)) = b2 B a := if_pos e
      rw [es] at hm1
      rw [es2]
      obtain ⟨rfl, rfl, rfl, rfl, hT1⟩ := hm1
      refine Ex_mv rfl rfl ?_; refine Ex_getf rfl (by assumption) rfl ?_; refine Ex_mv rfl rfl ?_; refine Ex_mv rfl rfl ?_; refine Ex_mv rfl rfl ?_; refine Ex_invV rfl (by rfl) (by rfl) (by assumption) (by rfl) (e1) ?_; refine Ex_mv rfl rfl ?_; refine Ex_getf rfl (by assumption) rfl ?_; refine Ex_mv rfl rfl ?_; refine Ex_iff (by decide) ?_; refine Ex_mv rfl rfl ?_; refine Ex_getf rfl (by assumption) rfl ?_; refine Ex_mv rfl rfl ?_; refine Ex_invV rfl (by rfl) (by rfl) (by assumption) (by rfl) (c_RW_two hrow1 (by omega)) ?_; refine Ex_mv rfl rfl ?_
      refine Ex_rt rfl rfl ?_
      exact ⟨rfl, R1, F1⟩
    · have es : p_skip B 2 (.inr (a, x)) = .inl (1, B.length) := if_neg e
      have es2 : p_two B (.inr (a, x)) = 0 := if_neg e
      rw [es] at hm1
      rw [es2]
      have hq := hm1.1
      refine Ex_mv rfl rfl ?_; refine Ex_getf rfl (by assumption) rfl ?_; refine Ex_mv rfl rfl ?_; refine Ex_mv rfl rfl ?_; refine Ex_mv rfl rfl ?_; refine Ex_invV rfl (by rfl) (by rfl) (by assumption) (by rfl) (e1) ?_; refine Ex_mv rfl rfl ?_; refine Ex_getf rfl (by assumption) rfl ?_; refine Ex_mv rfl rfl ?_; refine Ex_ift (nI_nz (by omega) (by omega)) ?_; refine Ex_mv rfl rfl ?_
      refine Ex_rt rfl rfl ?_
      exact ⟨rfl, R1, F1⟩
  · obtain ⟨w', rfl, rfl⟩ := hm.bad hf0
    have hq : f1 = f := hm1.1
    refine Ex_mv rfl rfl ?_; refine Ex_getf rfl (by assumption) rfl ?_; refine Ex_mv rfl rfl ?_; refine Ex_mv rfl rfl ?_; refine Ex_mv rfl rfl ?_; refine Ex_invV rfl (by rfl) (by rfl) (by assumption) (by rfl) (e1) ?_; refine Ex_mv rfl rfl ?_; refine Ex_getf rfl (by assumption) rfl ?_; refine Ex_mv rfl rfl ?_; refine Ex_ift (nI_nz (by omega) (by omega)) ?_; refine Ex_mv rfl rfl ?_
    refine Ex_rt rfl rfl ?_
    exact ⟨rfl, R1, F1⟩
theorem c_RD_many (hd : rd < c ∨ c + 11 ≤ rd) (hs : RSt h c rd B s) {m : Nat} (hm0 : m < 65536) : EvQ (prog nb sa) m_RD_many [.ref rd, .int (nI m)] h (fun v h' => v = some (.int (nI (p_many B m s).1)) ∧ RSt h' c rd B (p_many B m s).2 ∧ FR c rd h h') := by
  obtain ⟨_, h1, e1, rfl, R1, F1⟩ := c_RD_skip (nb := nb) (sa := sa) hd hs (k := 2) (by decide)
  obtain ⟨f, w0, a, x, hR, hC, ha, hf, hm⟩ := id hs
  obtain ⟨f1, w1, a1, x1, hR1, hC1, ha1, hf1, hm1⟩ := id R1
  obtain ⟨_, h2, e2, rfl, R2, F2⟩ := c_RD_fail (nb := nb) (sa := sa) hd R1 (k := 3) (w := a) (by decide) (by decide)
  obtain ⟨f2, w2, a2, x2, hR2, hC2, ha2, hf2, hm2⟩ := id R2
  have hl := hC.len
  have hrow1 : RW h1 (c + 2) B := CF.row hC1
  obtain ⟨fr, hr, hra, hB⟩ := id hrow1
  have hb := b2_lt hrow1.lt a
  refine EvQ_of k_RD_many 4 [some (.ref rd), some (.int (nI m)), none, none] rfl (Nat.le_of_ble_eq_true rfl) rfl ?_
  by_cases hf0 : f = 0
  · subst hf0
    obtain ⟨rfl, rfl, hT⟩ := hm.ok
    by_cases e : a + 2 ≤ B.length
    · have es : p_skip B 2 (.inr (a, x)) = .inr (a + 2, x) := if_pos e
      rw [es] at hm1 R1 R2 hm2
      by_cases hb2 : b2 B a ≤ m
      · have es2 : p_many B m (.inr (a, x)) = (b2 B a, .inr (a + 2, x)) := (if_pos e).trans (if_pos hb2)
        rw [es2]
        obtain ⟨rfl, rfl, rfl, rfl, hT1⟩ := hm1
        refine Ex_mv rfl rfl ?_; refine Ex_getf rfl (by assumption) rfl ?_; refine Ex_mv rfl rfl ?_; refine Ex_mv rfl rfl ?_; refine Ex_mv rfl rfl ?_; refine Ex_invV rfl (by rfl) (by rfl) (by assumption) (by rfl) (e1) ?_; refine Ex_mv rfl rfl ?_; refine Ex_getf rfl (by assumption) rfl ?_; refine Ex_mv rfl rfl ?_; refine Ex_invV rfl (by rfl) (by rfl) (by assumption) (by rfl) (c_RW_two hrow1 (by omega)) ?_; refine Ex_mv rfl rfl ?_; refine Ex_mv rfl rfl ?_; refine Ex_mv rfl rfl ?_; refine Ex_mv rfl rfl ?_; refine Ex_ift (nI_le (by omega) (by omega)) ?_; refine Ex_mv rfl rfl ?_; refine Ex_getf rfl (by assumption) rfl ?_; refine Ex_mv rfl rfl ?_; refine Ex_iff (by decide) ?_; refine Ex_mv rfl rfl ?_; refine Ex_mv rfl rfl ?_
        refine Ex_rt rfl rfl ?_
        exact ⟨rfl, R1, F1⟩
      · have es2 : p_many B m (.inr (a, x)) = (0, .inl (3, a)) := (if_pos e).trans (if_neg hb2)
        rw [es2]
        have hq : f2 = 3 := hm2.1
        refine Ex_mv rfl rfl ?_; refine Ex_getf rfl (by assumption) rfl ?_; refine Ex_mv rfl rfl ?_; refine Ex_mv rfl rfl ?_; refine Ex_mv rfl rfl ?_; refine Ex_invV rfl (by rfl) (by rfl) (by assumption) (by rfl) (e1) ?_; refine Ex_mv rfl rfl ?_; refine Ex_getf rfl (by assumption) rfl ?_; refine Ex_mv rfl rfl ?_; refine Ex_invV rfl (by rfl) (by rfl) (by assumption) (by rfl) (c_RW_two hrow1 (by omega)) ?_; refine Ex_mv rfl rfl ?_; refine Ex_mv rfl rfl ?_; refine Ex_mv rfl rfl ?_; refine Ex_mv rfl rfl ?_; refine Ex_iff (nI_ge (by omega) (by omega)) ?_; refine Ex_mv rfl rfl ?_; refine Ex_mv rfl rfl ?_; refine Ex_mv rfl rfl ?_; refine Ex_invV rfl (by rfl) (by rfl) (by assumption) (by rfl) (e2) ?_; refine Ex_mv rfl rfl ?_; refine Ex_getf rfl (by assumption) rfl ?_; refine Ex_mv rfl rfl ?_; refine Ex_ift (nI_nz (by omega) (by omega)) ?_; refine Ex_mv rfl rfl ?_
        refine Ex_rt rfl rfl ?_
        exact ⟨rfl, R2, F1.tr F2⟩
    · have es : p_skip B 2 (.inr (a, x)) = .inl (1, B.length) := if_neg e
      have es2 : p_many B m (.inr (a, x)) = (0, .inl (1, B.length)) := if_neg e
      rw [es] at hm1 R1 R2 hm2
      rw [es2]
      have hq : f1 = 1 := hm1.1
      have hq2 : f2 = 1 := hm2.1
      by_cases hb2 : b2 B a ≤ m
      · refine Ex_mv rfl rfl ?_; refine Ex_getf rfl (by assumption) rfl ?_; refine Ex_mv rfl rfl ?_; refine Ex_mv rfl rfl ?_; refine Ex_mv rfl rfl ?_; refine Ex_invV rfl (by rfl) (by rfl) (by assumption) (by rfl) (e1) ?_; refine Ex_mv rfl rfl ?_; refine Ex_getf rfl (by assumption) rfl ?_; refine Ex_mv rfl rfl ?_; refine Ex_invV rfl (by rfl) (by rfl) (by assumption) (by rfl) (c_RW_two hrow1 (by omega)) ?_; refine Ex_mv rfl rfl ?_; refine Ex_mv rfl rfl ?_; refine Ex_mv rfl rfl ?_; refine Ex_mv rfl rfl ?_; refine Ex_ift (nI_le (by omega) (by omega)) ?_; refine Ex_mv rfl rfl ?_; refine Ex_getf rfl (by assumption) rfl ?_; refine Ex_mv rfl rfl ?_; refine Ex_ift (nI_nz (by omega) (by omega)) ?_; refine Ex_mv rfl rfl ?_
        refine Ex_rt rfl rfl ?_
        exact ⟨rfl, R1, F1⟩
      · refine Ex_mv rfl rfl ?_; refine Ex_getf rfl (by assumption) rfl ?_; refine Ex_mv rfl rfl ?_; refine Ex_mv rfl rfl ?_; refine Ex_mv rfl rfl ?_; refine Ex_invV rfl (by rfl) (by rfl) (by assumption) (by rfl) (e1) ?_; refine Ex_mv rfl rfl ?_; refine Ex_getf rfl (by assumption) rfl ?_; refine Ex_mv rfl rfl ?_; refine Ex_invV rfl (by rfl) (by rfl) (by assumption) (by rfl) (c_RW_two hrow1 (by omega)) ?_; refine Ex_mv rfl rfl ?_; refine Ex_mv rfl rfl ?_; refine Ex_mv rfl rfl ?_; refine Ex_mv rfl rfl ?_; refine Ex_iff (nI_ge (by omega) (by omega)) ?_; refine Ex_mv rfl rfl ?_; refine Ex_mv rfl rfl ?_; refine Ex_mv rfl rfl ?_; refine Ex_invV rfl (by rfl) (by rfl) (by assumption) (by rfl) (e2) ?_; refine Ex_mv rfl rfl ?_; refine Ex_getf rfl (by assumption) rfl ?_; refine Ex_mv rfl rfl ?_; refine Ex_ift (nI_nz (by omega) (by omega)) ?_; refine Ex_mv rfl rfl ?_
        refine Ex_rt rfl rfl ?_
        exact ⟨rfl, R2, F1.tr F2⟩
  · obtain ⟨w', rfl, rfl⟩ := hm.bad hf0
    have hq : f1 = f := hm1.1
    have hq2 : f2 = f := hm2.1
    by_cases hb2 : b2 B a ≤ m
    · refine Ex_mv rfl rfl ?_; refine Ex_getf rfl (by assumption) rfl ?_; refine Ex_mv rfl rfl ?_; refine Ex_mv rfl rfl ?_; refine Ex_mv rfl rfl ?_; refine Ex_invV rfl (by rfl) (by rfl) (by assumption) (by rfl) (e1) ?_; refine Ex_mv rfl rfl ?_; refine Ex_getf rfl (by assumption) rfl ?_; refine Ex_mv rfl rfl ?_; refine Ex_invV rfl (by rfl) (by rfl) (by assumption) (by rfl) (c_RW_two hrow1 (by omega)) ?_; refine Ex_mv rfl rfl ?_; refine Ex_mv rfl rfl ?_; refine Ex_mv rfl rfl ?_; refine Ex_mv rfl rfl ?_; refine Ex_ift (nI_le (by omega) (by omega)) ?_; refine Ex_mv rfl rfl ?_; refine Ex_getf rfl (by assumption) rfl ?_; refine Ex_mv rfl rfl ?_; refine Ex_ift (nI_nz (by omega) (by omega)) ?_; refine Ex_mv rfl rfl ?_
      refine Ex_rt rfl rfl ?_
      exact ⟨rfl, R1, F1⟩
    · refine Ex_mv rfl rfl ?_; refine Ex_getf rfl (by assumption) rfl ?_; refine Ex_mv rfl rfl ?_; refine Ex_mv rfl rfl ?_; refine Ex_mv rfl rfl ?_; refine Ex_invV rfl (by rfl) (by rfl) (by assumption) (by rfl) (e1) ?_; refine Ex_mv rfl rfl ?_; refine Ex_getf rfl (by assumption) rfl ?_; refine Ex_mv rfl rfl ?_; refine Ex_invV rfl (by rfl) (by rfl) (by assumption) (by rfl) (c_RW_two hrow1 (by omega)) ?_; refine Ex_mv rfl rfl ?_; refine Ex_mv rfl rfl ?_; refine Ex_mv rfl rfl ?_; refine Ex_mv rfl rfl ?_; refine Ex_iff (nI_ge (by omega) (by omega)) ?_; refine Ex_mv rfl rfl ?_; refine Ex_mv rfl rfl ?_; refine Ex_mv rfl rfl ?_; refine Ex_invV rfl (by rfl) (by rfl) (by assumption) (by rfl) (e2) ?_; refine Ex_mv rfl rfl ?_; refine Ex_getf rfl (by assumption) rfl ?_; refine Ex_mv rfl rfl ?_; refine Ex_ift (nI_nz (by omega) (by omega)) ?_; refine Ex_mv rfl rfl ?_
      refine Ex_rt rfl rfl ?_
      exact ⟨rfl, R2, F1.tr F2⟩
end READER
end
section
/-! Reader: magic, entries -/
def mgc (i : Nat) : Nat := ([202, 254, 186, 190] : List Nat).getD i 0
def p_mag (B : List Nat) (i : Nat) (s : Rt) : Rt := if b1 B i = mgc i then p_skip B 1 s else p_fail 2 i (p_skip B 1 s)
def p_mags (B : List Nat) : Nat → Nat → Rt → Rt
  | 0, _, s => s
  | d + 1, i, s => p_mags B d (i + 1) (p_mag B i s)
def isT (t : Nat) : Prop := t = 1 ∨ 3 ≤ t ∧ t ≤ 12
def isW (t : Nat) : Prop := t = 5 ∨ t = 6
def p_entry (B : List Nat) (l : Bool) (a : Nat) (x : Fs) : Rt :=
  if ¬ (b1 B a = 1 ∨ 3 ≤ b1 B a ∧ b1 B a ≤ 12) ∨ l = true ∧ (b1 B a = 5 ∨ b1 B a = 6) then p_fail 4 a (p_skip B 1 (.inr (a, x)))
  else if b1 B a = 1 then p_skip B (p_two B (p_skip B 1 (.inr (a, x)))) (p_skip B 2 (p_skip B 1 (.inr (a, x))))
  else if 3 ≤ b1 B a ∧ b1 B a ≤ 6 then p_skip B (if b1 B a = 5 ∨ b1 B a = 6 then 8 else 4) (p_skip B 1 (.inr (a, x)))
  else if b1 B a = 7 ∨ b1 B a = 8 then p_tell B 1 (p_skip B 1 (.inr (a, x)))
  else p_tell B (if b1 B a = 12 then 1 else 12) (p_tell B (if b1 B a = 12 then 1 else 7) (p_skip B 1 (.inr (a, x))))
/-- a start laid into the file -/
def setS (x : Fs) (i a : Nat) : Fs := (upS x.1 i a, x.2)
def wst (t : Nat) : Nat := if t = 5 ∨ t = 6 then 2 else 1
def p_ents (B : List Nat) (m : Nat) : Nat → Nat → Rt → Rt
  | 0, _, s => s
  | f + 1, i, s => if i < m then (match s with
    | .inl e => .inl e
    | .inr (a, x) => p_ents B m f (i + wst (b1 B a)) (p_entry B (decide (i + 1 = m)) a (setS x i a))) else s
def p_begin (m : Nat) (s : Rt) : Rt := match s with
  | .inl e => .inl e
  | .inr (a, x) => .inr (a, (fun _ => 0, m, x.2.2))
def p_entries (B : List Nat) (s : Rt) : Rt := match s with
  | .inl e => .inl e
  | .inr (a, x) => p_ents B (p_many B 61 (.inr (a, x))).1 (p_many B 61 (.inr (a, x))).1 1 (p_begin (p_many B 61 (.inr (a, x))).1 (if (p_many B 61 (.inr (a, x))).1 = 0 then p_fail 3 a (p_many B 61 (.inr (a, x))).2 else (p_many B 61 (.inr (a, x))).2))
theorem mgc_eq {i : Nat} (hi : i < 4) : ((-889275714 : Int32) >>> (nI (24 - 8 * i) &&& 31)) &&& nI 255 = nI (mgc i) := by
  have : i = 0 ∨ i = 1 ∨ i = 2 ∨ i = 3 := by omega
  rcases this with rfl | rfl | rfl | rfl <;> decide
theorem mgc_lt (i : Nat) (hi : i < 4) : mgc i < 256 := by
  have : i = 0 ∨ i = 1 ∨ i = 2 ∨ i = 3 := by omega
  rcases this with rfl | rfl | rfl | rfl <;> decide
section READER2
variable {nb sa : Nat} {c rd : Nat} {B : List Nat}
theorem RD_magic_loop (hd : rd < c ∨ c + 11 ≤ rd) : ∀ (d i : Nat) (h : Hp) (s : Rt), i + d = 4 → RSt h c rd B s → Ex (prog nb sa) k_RD_magic 2 [some (.ref rd), some (.int (nI i))] [] h (fun v h' => v = none ∧ RSt h' c rd B (p_mags B d i s) ∧ FR c rd h h')
  | 0, i, h, s, hi, hs => by
    refine Ex_mv rfl rfl ?_; refine Ex_mv rfl rfl ?_; refine Ex_mv rfl rfl ?_; refine Ex_ift (nI_le (by omega) (by omega)) ?_
    refine Ex_rt rfl rfl ?_
    exact ⟨rfl, hs, FR.rf⟩
  | d + 1, i, h, s, hi, hs => by
    obtain ⟨_, h1, e1, rfl, R1, F1⟩ := c_RD_skip (nb := nb) (sa := sa) hd hs (k := 1) (by decide)
    obtain ⟨_, h2, e2, rfl, R2, F2⟩ := c_RD_fail (nb := nb) (sa := sa) hd R1 (k := 2) (w := i) (by decide) (by decide)
    obtain ⟨f, w0, a, x, hR, hC, ha, hf, hm⟩ := id hs
    obtain ⟨f1, w1, a1, x1, hR1, hC1, ha1, hf1, hm1⟩ := id R1
    have hrow1 : RW h1 (c + 2) B := CF.row hC1
    obtain ⟨fr, hr, hra, hB⟩ := id hrow1
    have hb := b1_lt hrow1.lt i
    have hg := mgc_lt i (by omega)
    by_cases e : b1 B i = mgc i
    · have es : p_mags B (d + 1) i s = p_mags B d (i + 1) (p_skip B 1 s) := by rw [p_mags, p_mag, if_pos e]
      rw [es]
      refine Ex_mv rfl rfl ?_; refine Ex_mv rfl rfl ?_; refine Ex_mv rfl rfl ?_; refine Ex_iff (nI_ge (by omega) (by omega)) ?_; refine Ex_mv rfl rfl ?_; refine Ex_mv rfl rfl ?_; refine Ex_invV rfl (by rfl) (by rfl) (by assumption) (by rfl) (e1) ?_; refine Ex_mv rfl rfl ?_; refine Ex_getf rfl (by assumption) rfl ?_; refine Ex_mv rfl rfl ?_; refine Ex_invV rfl (by rfl) (by rfl) (by assumption) (by rfl) (c_RW_one hrow1 (by omega)) ?_; refine Ex_mv rfl rfl ?_; refine Ex_mv rfl rfl ?_; refine Ex_mv rfl rfl ?_; refine Ex_mv rfl rfl ?_; (first | refine Ex_mulN rfl ?_ | refine Ex_mv rfl rfl ?_); (first | refine Ex_subN rfl (by omega) ?_ | refine Ex_mv rfl rfl ?_); refine Ex_ishr rfl ?_; refine Ex_mv rfl rfl ?_; refine Ex_iand rfl ?_; refine Ex_mv rfl rfl ?_; refine Ex_ift (by rw [mgc_eq (by omega), e]) ?_; (first | refine Ex_incN rfl rfl ?_ | refine Ex_mv rfl rfl ?_); refine Ex_mv rfl rfl ?_
      refine Ex_mono (RD_magic_loop hd d (i + 1) _ _ (by omega) R1) ?_
      rintro v h' ⟨rfl, q1, q2⟩
      exact ⟨rfl, q1, F1.tr q2⟩
    · have es : p_mags B (d + 1) i s = p_mags B d (i + 1) (p_fail 2 i (p_skip B 1 s)) := by rw [p_mags, p_mag, if_neg e]
      rw [es]
      refine Ex_mv rfl rfl ?_; refine Ex_mv rfl rfl ?_; refine Ex_mv rfl rfl ?_; refine Ex_iff (nI_ge (by omega) (by omega)) ?_; refine Ex_mv rfl rfl ?_; refine Ex_mv rfl rfl ?_; refine Ex_invV rfl (by rfl) (by rfl) (by assumption) (by rfl) (e1) ?_; refine Ex_mv rfl rfl ?_; refine Ex_getf rfl (by assumption) rfl ?_; refine Ex_mv rfl rfl ?_; refine Ex_invV rfl (by rfl) (by rfl) (by assumption) (by rfl) (c_RW_one hrow1 (by omega)) ?_; refine Ex_mv rfl rfl ?_; refine Ex_mv rfl rfl ?_; refine Ex_mv rfl rfl ?_; refine Ex_mv rfl rfl ?_; (first | refine Ex_mulN rfl ?_ | refine Ex_mv rfl rfl ?_); (first | refine Ex_subN rfl (by omega) ?_ | refine Ex_mv rfl rfl ?_); refine Ex_ishr rfl ?_; refine Ex_mv rfl rfl ?_; refine Ex_iand rfl ?_; refine Ex_mv rfl rfl ?_; refine Ex_iff (by rw [mgc_eq (by omega)]; exact fun z => e ((nI_eq (by omega) (by omega)).mp z)) ?_; refine Ex_mv rfl rfl ?_; refine Ex_mv rfl rfl ?_; refine Ex_mv rfl rfl ?_; refine Ex_invV rfl (by rfl) (by rfl) (by assumption) (by rfl) (e2) ?_; (first | refine Ex_incN rfl rfl ?_ | refine Ex_mv rfl rfl ?_); refine Ex_mv rfl rfl ?_
      refine Ex_mono (RD_magic_loop hd d (i + 1) _ _ (by omega) R2) ?_
      rintro v h' ⟨rfl, q1, q2⟩
      exact ⟨rfl, q1, (F1.tr F2).tr q2⟩
theorem c_RD_magic {h : Hp} {s : Rt} (hd : rd < c ∨ c + 11 ≤ rd) (hs : RSt h c rd B s) : EvQ (prog nb sa) m_RD_magic [.ref rd] h (fun v h' => v = none ∧ RSt h' c rd B (p_mags B 4 0 s) ∧ FR c rd h h') := by
  refine EvQ_of k_RD_magic 2 [some (.ref rd), none] rfl (Nat.le_of_ble_eq_true rfl) rfl ?_
  refine Ex_mv rfl rfl ?_; refine Ex_mv rfl rfl ?_
  exact RD_magic_loop hd 4 0 h s (by omega) hs
theorem p_two_lt (hB : ∀ x ∈ B, x < 256) (s : Rt) : p_two B s < 65536 := by
  unfold p_two
  split
  · decide
  · split
    · exact b2_lt hB _
    · decide
theorem c_RD_anEntry {h : Hp} {a : Nat} {x : Fs} {l : Bool} (hd : rd < c ∨ c + 11 ≤ rd) (hs : RSt h c rd B (.inr (a, x))) : EvQ (prog nb sa) m_RD_anEntry [.ref rd, .int (nI (if l then 1 else 0))] h (fun v h' => v = none ∧ RSt h' c rd B (p_entry B l a x) ∧ FR c rd h h') := by
  obtain ⟨_, h1, e1, rfl, R1, F1⟩ := c_RD_skip (nb := nb) (sa := sa) hd hs (k := 1) (by decide)
  obtain ⟨f, w0, a0, x0, hR, hC, ha, hf, hm⟩ := id hs
  obtain ⟨f1, w1, a1, x1, hR1, hC1, ha1, hf1, hm1⟩ := id R1
  have hrow1 : RW h1 (c + 2) B := CF.row hC1
  obtain ⟨fr, hr, hra, hB⟩ := id hrow1
  have hl := hC.len
  have hb := b1_lt hrow1.lt a
  obtain ⟨rfl, rfl, rfl, rfl, hT⟩ := hm
  unfold p_entry
  refine EvQ_of k_RD_anEntry 4 [some (.ref rd), some (.int (nI (if l then 1 else 0))), none, none] rfl (Nat.le_of_ble_eq_true rfl) rfl ?_
  by_cases g1 : b1 B a0 = 1 ∨ 3 ≤ b1 B a0 ∧ b1 B a0 ≤ 12
  · by_cases g2 : l = true ∧ (b1 B a0 = 5 ∨ b1 B a0 = 6)
    · rw [if_pos (Or.inr g2)]
      obtain ⟨g2a, g2b⟩ := g2
      subst g2a
      obtain ⟨_, h2, e2, rfl, R2, F2⟩ := c_RD_fail (nb := nb) (sa := sa) hd R1 (k := 4) (w := a0) (by decide) (by decide)
      refine Ex_mv rfl rfl ?_; refine Ex_getf rfl (by assumption) rfl ?_; refine Ex_mv rfl rfl ?_; refine Ex_mv rfl rfl ?_; refine Ex_mv rfl rfl ?_; refine Ex_invV rfl (by rfl) (by rfl) (by assumption) (by rfl) (e1) ?_; refine Ex_mv rfl rfl ?_; refine Ex_getf rfl (by assumption) rfl ?_; refine Ex_mv rfl rfl ?_; refine Ex_invV rfl (by rfl) (by rfl) (by assumption) (by rfl) (c_RW_one hrow1 (by omega)) ?_; refine Ex_mv rfl rfl ?_; refine Ex_mv rfl rfl ?_; refine Ex_inv rfl (by rfl) (by rfl) (by rfl) (c_CP_isTag (by omega)) ?_
      rw [if_pos g1]
      refine Ex_mv rfl rfl ?_; refine Ex_iff (by decide) ?_; refine Ex_mv rfl rfl ?_
      rw [if_pos rfl]
      refine Ex_mv rfl rfl ?_; refine Ex_iff (by decide) ?_; refine Ex_mv rfl rfl ?_; refine Ex_inv rfl (by rfl) (by rfl) (by rfl) (c_CP_isWide (by omega)) ?_
      rw [if_pos g2b]
      refine Ex_mv rfl rfl ?_; refine Ex_iff (by decide) ?_; refine Ex_mv rfl rfl ?_; refine Ex_mv rfl rfl ?_; refine Ex_mv rfl rfl ?_; refine Ex_invV rfl (by rfl) (by rfl) (by assumption) (by rfl) (e2) ?_; refine Ex_mv rfl rfl ?_
      refine Ex_rt rfl rfl ?_
      exact ⟨rfl, R2, F1.tr F2⟩
    · have g3 : ¬ (¬ (b1 B a0 = 1 ∨ 3 ≤ b1 B a0 ∧ b1 B a0 ≤ 12) ∨ l = true ∧ (b1 B a0 = 5 ∨ b1 B a0 = 6)) := fun z => z.elim (fun q => q g1) g2
      rw [if_neg g3]
      have key : ∀ K : Prop, (Ex (prog nb sa) k_RD_anEntry 46 [some (.ref rd), some (.int (nI (if l then 1 else 0))), some (.int (nI a0)), some (.int (nI (b1 B a0)))] [] h1 (fun v h' => v = none ∧ RSt h' c rd B (if b1 B a0 = 1 then p_skip B (p_two B (p_skip B 1 (.inr (a0, x0)))) (p_skip B 2 (p_skip B 1 (.inr (a0, x0))))
  else if 3 ≤ b1 B a0 ∧ b1 B a0 ≤ 6 then p_skip B (if b1 B a0 = 5 ∨ b1 B a0 = 6 then 8 else 4) (p_skip B 1 (.inr (a0, x0)))
  else if b1 B a0 = 7 ∨ b1 B a0 = 8 then p_tell B 1 (p_skip B 1 (.inr (a0, x0)))
  else p_tell B (if b1 B a0 = 12 then 1 else 12) (p_tell B (if b1 B a0 = 12 then 1 else 7) (p_skip B 1 (.inr (a0, x0))))) ∧ FR c rd h h') → K) → K := by
        intro K hK
        refine hK ?_
        by_cases t1 : b1 B a0 = 1
        · rw [if_pos t1]
          obtain ⟨_, h2, e2, rfl, R2, F2⟩ := c_RD_two (nb := nb) (sa := sa) hd R1
          have hp2 := p_two_lt hrow1.lt (p_skip B 1 (.inr (a0, x0)))
          obtain ⟨_, h3, e3, rfl, R3, F3⟩ := c_RD_skip (nb := nb) (sa := sa) hd R2 (k := p_two B (p_skip B 1 (.inr (a0, x0)))) (by omega)
          obtain ⟨f2, w2, a2, x2, hR2, -, -, -, -⟩ := id R2
          refine Ex_mv rfl rfl ?_; refine Ex_mv rfl rfl ?_; refine Ex_mv rfl rfl ?_; refine Ex_iff (by rw [t1]; exact not_not_intro rfl) ?_; refine Ex_mv rfl rfl ?_; refine Ex_mv rfl rfl ?_; refine Ex_invV rfl (by rfl) (by rfl) (by assumption) (by rfl) (e2) ?_; refine Ex_invV rfl (by rfl) (by rfl) (by assumption) (by rfl) (e3) ?_; refine Ex_mv rfl rfl ?_
          refine Ex_rt rfl rfl ?_
          exact ⟨rfl, R3, (F1.tr F2).tr F3⟩
        · rw [if_neg t1]
          by_cases t2 : 3 ≤ b1 B a0 ∧ b1 B a0 ≤ 6
          · rw [if_pos t2]
            by_cases t3 : b1 B a0 = 5 ∨ b1 B a0 = 6
            · rw [if_pos t3]
              obtain ⟨_, h3, e3, rfl, R3, F3⟩ := c_RD_skip (nb := nb) (sa := sa) hd R1 (k := 8) (by decide)
              refine Ex_mv rfl rfl ?_; refine Ex_mv rfl rfl ?_; refine Ex_mv rfl rfl ?_; refine Ex_ift (fun z => t1 ((nI_eq (by omega) (by decide)).mp z)) ?_; refine Ex_mv rfl rfl ?_; refine Ex_inv rfl (by rfl) (by rfl) (by rfl) (c_CP_isNumber (by omega)) ?_
              rw [if_pos t2]
              refine Ex_mv rfl rfl ?_; refine Ex_iff (by decide) ?_; refine Ex_mv rfl rfl ?_; refine Ex_mv rfl rfl ?_; refine Ex_inv rfl (by rfl) (by rfl) (by rfl) (c_CP_isWide (by omega)) ?_
              rw [if_pos t3]
              refine Ex_mv rfl rfl ?_; refine Ex_iff (by decide) ?_; refine Ex_mv rfl rfl ?_; refine Ex_mv rfl rfl ?_; refine Ex_invV rfl (by rfl) (by rfl) (by assumption) (by rfl) (e3) ?_; refine Ex_mv rfl rfl ?_
              refine Ex_rt rfl rfl ?_
              exact ⟨rfl, R3, F1.tr F3⟩
            · rw [if_neg t3]
              obtain ⟨_, h3, e3, rfl, R3, F3⟩ := c_RD_skip (nb := nb) (sa := sa) hd R1 (k := 4) (by decide)
              refine Ex_mv rfl rfl ?_; refine Ex_mv rfl rfl ?_; refine Ex_mv rfl rfl ?_; refine Ex_ift (fun z => t1 ((nI_eq (by omega) (by decide)).mp z)) ?_; refine Ex_mv rfl rfl ?_; refine Ex_inv rfl (by rfl) (by rfl) (by rfl) (c_CP_isNumber (by omega)) ?_
              rw [if_pos t2]
              refine Ex_mv rfl rfl ?_; refine Ex_iff (by decide) ?_; refine Ex_mv rfl rfl ?_; refine Ex_mv rfl rfl ?_; refine Ex_inv rfl (by rfl) (by rfl) (by rfl) (c_CP_isWide (by omega)) ?_
              rw [if_neg t3]
              refine Ex_mv rfl rfl ?_; refine Ex_ift (by decide) ?_; refine Ex_mv rfl rfl ?_; refine Ex_invV rfl (by rfl) (by rfl) (by assumption) (by rfl) (e3) ?_; refine Ex_mv rfl rfl ?_
              refine Ex_rt rfl rfl ?_
              exact ⟨rfl, R3, F1.tr F3⟩
          · rw [if_neg t2]
            by_cases t4 : b1 B a0 = 7 ∨ b1 B a0 = 8
            · rw [if_pos t4]
              obtain ⟨_, h3, e3, rfl, R3, F3⟩ := c_RD_tell (nb := nb) (sa := sa) hd R1 (k := 1) (by decide)
              refine Ex_mv rfl rfl ?_; refine Ex_mv rfl rfl ?_; refine Ex_mv rfl rfl ?_; refine Ex_ift (fun z => t1 ((nI_eq (by omega) (by decide)).mp z)) ?_; refine Ex_mv rfl rfl ?_; refine Ex_inv rfl (by rfl) (by rfl) (by rfl) (c_CP_isNumber (by omega)) ?_
              rw [if_neg t2]
              refine Ex_mv rfl rfl ?_; refine Ex_ift (by decide) ?_; refine Ex_mv rfl rfl ?_; refine Ex_mv rfl rfl ?_; refine Ex_mv rfl rfl ?_; (first | refine Ex_eqN (by omega) (by omega) (fun b92 => ?_) (fun b92 => ?_) | refine Ex_if (fun b92 => ?_) (fun b92 => ?_))
              · refine Ex_mv rfl rfl ?_; refine Ex_mv rfl rfl ?_; refine Ex_invV rfl (by rfl) (by rfl) (by assumption) (by rfl) (e3) ?_; refine Ex_mv rfl rfl ?_
                refine Ex_rt rfl rfl ?_
                exact ⟨rfl, R3, F1.tr F3⟩
              · refine Ex_mv rfl rfl ?_; refine Ex_mv rfl rfl ?_; refine Ex_mv rfl rfl ?_; (first | refine Ex_neN (by omega) (by omega) (fun b98 => ?_) (fun b98 => ?_) | refine Ex_if (fun b98 => ?_) (fun b98 => ?_))
                · exfalso; omega
                · refine Ex_mv rfl rfl ?_; refine Ex_mv rfl rfl ?_; refine Ex_invV rfl (by rfl) (by rfl) (by assumption) (by rfl) (e3) ?_; refine Ex_mv rfl rfl ?_
                  refine Ex_rt rfl rfl ?_
                  exact ⟨rfl, R3, F1.tr F3⟩
            · rw [if_neg t4]
              by_cases t5 : b1 B a0 = 12
              · rw [if_pos t5, if_pos t5]
                obtain ⟨_, h3, e3, rfl, R3, F3⟩ := c_RD_tell (nb := nb) (sa := sa) hd R1 (k := 1) (by decide)
                obtain ⟨_, h4, e4, rfl, R4, F4⟩ := c_RD_tell (nb := nb) (sa := sa) hd R3 (k := 1) (by decide)
                obtain ⟨f2, w2, a2, x2, hR2, -, -, -, -⟩ := id R3
                refine Ex_mv rfl rfl ?_; refine Ex_mv rfl rfl ?_; refine Ex_mv rfl rfl ?_; refine Ex_ift (fun z => t1 ((nI_eq (by omega) (by decide)).mp z)) ?_; refine Ex_mv rfl rfl ?_; refine Ex_inv rfl (by rfl) (by rfl) (by rfl) (c_CP_isNumber (by omega)) ?_
                rw [if_neg t2]
                refine Ex_mv rfl rfl ?_; refine Ex_ift (by decide) ?_; refine Ex_mv rfl rfl ?_; refine Ex_mv rfl rfl ?_; refine Ex_mv rfl rfl ?_; refine Ex_iff (fun z => absurd ((nI_eq (by omega) (by decide)).mp z) (by omega)) ?_; refine Ex_mv rfl rfl ?_; refine Ex_mv rfl rfl ?_; refine Ex_mv rfl rfl ?_; refine Ex_ift (fun z => absurd ((nI_eq (by omega) (by decide)).mp z) (by omega)) ?_; refine Ex_mv rfl rfl ?_; refine Ex_mv rfl rfl ?_; refine Ex_mv rfl rfl ?_; refine Ex_mv rfl rfl ?_; refine Ex_iff (by rw [t5]; exact not_not_intro rfl) ?_; refine Ex_mv rfl rfl ?_; refine Ex_mv rfl rfl ?_; refine Ex_invV rfl (by rfl) (by rfl) (by assumption) (by rfl) (e3) ?_; refine Ex_mv rfl rfl ?_; refine Ex_mv rfl rfl ?_; refine Ex_mv rfl rfl ?_; refine Ex_mv rfl rfl ?_; refine Ex_iff (by rw [t5]; exact not_not_intro rfl) ?_; refine Ex_mv rfl rfl ?_; refine Ex_mv rfl rfl ?_; refine Ex_invV rfl (by rfl) (by rfl) (by assumption) (by rfl) (e4) ?_
                refine Ex_rt rfl rfl ?_
                exact ⟨rfl, R4, (F1.tr F3).tr F4⟩
              · rw [if_neg t5, if_neg t5]
                obtain ⟨_, h3, e3, rfl, R3, F3⟩ := c_RD_tell (nb := nb) (sa := sa) hd R1 (k := 7) (by decide)
                obtain ⟨_, h4, e4, rfl, R4, F4⟩ := c_RD_tell (nb := nb) (sa := sa) hd R3 (k := 12) (by decide)
                obtain ⟨f2, w2, a2, x2, hR2, -, -, -, -⟩ := id R3
                refine Ex_mv rfl rfl ?_; refine Ex_mv rfl rfl ?_; refine Ex_mv rfl rfl ?_; refine Ex_ift (fun z => t1 ((nI_eq (by omega) (by decide)).mp z)) ?_; refine Ex_mv rfl rfl ?_; refine Ex_inv rfl (by rfl) (by rfl) (by rfl) (c_CP_isNumber (by omega)) ?_
                rw [if_neg t2]
                refine Ex_mv rfl rfl ?_; refine Ex_ift (by decide) ?_; refine Ex_mv rfl rfl ?_; refine Ex_mv rfl rfl ?_; refine Ex_mv rfl rfl ?_; refine Ex_iff (fun z => absurd ((nI_eq (by omega) (by decide)).mp z) (by omega)) ?_; refine Ex_mv rfl rfl ?_; refine Ex_mv rfl rfl ?_; refine Ex_mv rfl rfl ?_; refine Ex_ift (fun z => absurd ((nI_eq (by omega) (by decide)).mp z) (by omega)) ?_; refine Ex_mv rfl rfl ?_; refine Ex_mv rfl rfl ?_; refine Ex_mv rfl rfl ?_; refine Ex_mv rfl rfl ?_; refine Ex_ift (fun z => t5 ((nI_eq (by omega) (by decide)).mp z)) ?_; refine Ex_mv rfl rfl ?_; refine Ex_invV rfl (by rfl) (by rfl) (by assumption) (by rfl) (e3) ?_; refine Ex_mv rfl rfl ?_; refine Ex_mv rfl rfl ?_; refine Ex_mv rfl rfl ?_; refine Ex_mv rfl rfl ?_; refine Ex_ift (fun z => t5 ((nI_eq (by omega) (by decide)).mp z)) ?_; refine Ex_mv rfl rfl ?_; refine Ex_invV rfl (by rfl) (by rfl) (by assumption) (by rfl) (e4) ?_
                refine Ex_rt rfl rfl ?_
                exact ⟨rfl, R4, (F1.tr F3).tr F4⟩
      refine key _ (fun q => ?_)
      cases l with
      | false =>
        refine Ex_mv rfl rfl ?_; refine Ex_getf rfl (by assumption) rfl ?_; refine Ex_mv rfl rfl ?_; refine Ex_mv rfl rfl ?_; refine Ex_mv rfl rfl ?_; refine Ex_invV rfl (by rfl) (by rfl) (by assumption) (by rfl) (e1) ?_; refine Ex_mv rfl rfl ?_; refine Ex_getf rfl (by assumption) rfl ?_; refine Ex_mv rfl rfl ?_; refine Ex_invV rfl (by rfl) (by rfl) (by assumption) (by rfl) (c_RW_one hrow1 (by omega)) ?_; refine Ex_mv rfl rfl ?_; refine Ex_mv rfl rfl ?_; refine Ex_inv rfl (by rfl) (by rfl) (by rfl) (c_CP_isTag (by omega)) ?_
        rw [if_pos g1]
        refine Ex_mv rfl rfl ?_; refine Ex_iff (by decide) ?_; refine Ex_mv rfl rfl ?_
        rw [if_neg Bool.false_ne_true]
        refine Ex_mv rfl rfl ?_; refine Ex_ift (by decide) ?_
        exact q
      | true =>
        have g2b : ¬ (b1 B a0 = 5 ∨ b1 B a0 = 6) := fun z => g2 ⟨rfl, z⟩
        refine Ex_mv rfl rfl ?_; refine Ex_getf rfl (by assumption) rfl ?_; refine Ex_mv rfl rfl ?_; refine Ex_mv rfl rfl ?_; refine Ex_mv rfl rfl ?_; refine Ex_invV rfl (by rfl) (by rfl) (by assumption) (by rfl) (e1) ?_; refine Ex_mv rfl rfl ?_; refine Ex_getf rfl (by assumption) rfl ?_; refine Ex_mv rfl rfl ?_; refine Ex_invV rfl (by rfl) (by rfl) (by assumption) (by rfl) (c_RW_one hrow1 (by omega)) ?_; refine Ex_mv rfl rfl ?_; refine Ex_mv rfl rfl ?_; refine Ex_inv rfl (by rfl) (by rfl) (by rfl) (c_CP_isTag (by omega)) ?_
        rw [if_pos g1]
        refine Ex_mv rfl rfl ?_; refine Ex_iff (by decide) ?_; refine Ex_mv rfl rfl ?_
        rw [if_pos rfl]
        refine Ex_mv rfl rfl ?_; refine Ex_iff (by decide) ?_; refine Ex_mv rfl rfl ?_; refine Ex_inv rfl (by rfl) (by rfl) (by rfl) (c_CP_isWide (by omega)) ?_
        rw [if_neg g2b]
        refine Ex_mv rfl rfl ?_; refine Ex_ift (by decide) ?_
        exact q
  · rw [if_pos (Or.inl g1)]
    obtain ⟨_, h2, e2, rfl, R2, F2⟩ := c_RD_fail (nb := nb) (sa := sa) hd R1 (k := 4) (w := a0) (by decide) (by decide)
    refine Ex_mv rfl rfl ?_; refine Ex_getf rfl (by assumption) rfl ?_; refine Ex_mv rfl rfl ?_; refine Ex_mv rfl rfl ?_; refine Ex_mv rfl rfl ?_; refine Ex_invV rfl (by rfl) (by rfl) (by assumption) (by rfl) (e1) ?_; refine Ex_mv rfl rfl ?_; refine Ex_getf rfl (by assumption) rfl ?_; refine Ex_mv rfl rfl ?_; refine Ex_invV rfl (by rfl) (by rfl) (by assumption) (by rfl) (c_RW_one hrow1 (by omega)) ?_; refine Ex_mv rfl rfl ?_; refine Ex_mv rfl rfl ?_; refine Ex_inv rfl (by rfl) (by rfl) (by rfl) (c_CP_isTag (by omega)) ?_
    rw [if_neg g1]
    refine Ex_mv rfl rfl ?_; refine Ex_ift (by decide) ?_; refine Ex_mv rfl rfl ?_; refine Ex_mv rfl rfl ?_; refine Ex_mv rfl rfl ?_; refine Ex_invV rfl (by rfl) (by rfl) (by assumption) (by rfl) (e2) ?_; refine Ex_mv rfl rfl ?_
    refine Ex_rt rfl rfl ?_
    exact ⟨rfl, R2, F1.tr F2⟩
end READER2
end
section
/-! Reader: all entries, attributes, members -/
def p_att (B : List Nat) (s : Rt) : Rt := match p_skip B 4 (p_tell B 1 s) with
  | .inl e => .inl e
  | .inr (a, x) => if 2 ^ 31 ≤ b4 B (a - 4) then .inl (5, a - 4) else p_skip B (b4 B (a - 4)) (.inr (a, x))
def p_atts (B : List Nat) : Nat → Rt → Rt
  | 0, s => s
  | d + 1, s => match s with
    | .inl e => .inl e
    | .inr (a, x) => p_atts B d (p_att B (.inr (a, x)))
def p_attrs (B : List Nat) (s : Rt) : Rt := p_atts B (p_many B 6 s).1 (p_many B 6 s).2
def p_above (B : List Nat) (s : Rt) : Rt := match s with
  | .inl e => .inl e
  | .inr (a, x) => if b2 B a = 0 then p_skip B 2 (.inr (a, x)) else p_tell B 7 (.inr (a, x))
section READER3
variable {nb sa : Nat} {c rd : Nat} {B : List Nat}
theorem CF.withPO {h h1 : Hp} {S S' : Nat → Nat} {n n' bh aa : Nat} {M0 M1 : List Nat} {TL : List (Nat × Nat)} (hC : CF h c B S n bh aa M0 M1 TL) (hP : PO h1 (c + 1) B S' n') (F : FrI (c + 1) (c + 5) h h1) : CF h1 c B S' n' bh aa M0 M1 TL := by
  obtain ⟨a1, a2, a3, a4, a5, a6, a7, a8, a9⟩ := hC
  exact ⟨F.at a1 (by omega), hP, F.at a3 (by omega), a4.fr F (by omega), a5.fr F (by omega), a6.fr F (by omega), a7.fr F (by omega), a8.fr F (by omega), a9⟩
theorem wst_b (t : Nat) : 1 ≤ wst t ∧ wst t ≤ 2 := by unfold wst; split <;> omega
theorem p_entry_n {B : List Nat} {l : Bool} {a a' : Nat} {x x' : Fs} (e : p_entry B l a x = .inr (a', x')) : x'.2.1 = x.2.1 := by
  have k1 : ∀ (k : Nat) (s : Rt) (a' : Nat) (x' : Fs), p_skip B k s = .inr (a', x') → ∃ a x, s = .inr (a, x) ∧ x'.2.1 = x.2.1 := by
    intro k s a' x' e
    unfold p_skip at e
    split at e
    · cases e
    · split at e
      · simp only [Sum.inr.injEq, Prod.mk.injEq] at e; exact ⟨_, _, rfl, by rw [e.2]⟩
      · cases e
  have k2 : ∀ (k : Nat) (s : Rt) (a' : Nat) (x' : Fs), p_tell B k s = .inr (a', x') → ∃ a x, s = .inr (a, x) ∧ x'.2.1 = x.2.1 := by
    intro k s a' x' e
    unfold p_tell at e
    split at e
    · cases e
    · split at e
      · simp only [Sum.inr.injEq, Prod.mk.injEq] at e; exact ⟨_, _, rfl, by rw [← e.2]; rfl⟩
      · cases e
  have k3 : ∀ (k w : Nat) (s : Rt), p_fail k w s = .inr (a', x') → False := by
    intro k w s e
    unfold p_fail at e
    split at e <;> cases e
  have k4 : ∀ (a1 : Nat) (x1 : Fs), p_skip B 1 (.inr (a, x)) = .inr (a1, x1) → x1.2.1 = x.2.1 := by
    intro a1 x1 e
    obtain ⟨a2, x2, e2, e3⟩ := k1 _ _ _ _ e
    simp only [Sum.inr.injEq, Prod.mk.injEq] at e2
    rw [e3, e2.2]
  unfold p_entry at e
  split at e
  · exact absurd e (fun z => k3 _ _ _ z)
  · split at e
    · obtain ⟨a1, x1, e1, g1⟩ := k1 _ _ _ _ e
      obtain ⟨a2, x2, e2, g2⟩ := k1 _ _ _ _ e1
      rw [g1, g2, k4 _ _ e2]
    · split at e
      · obtain ⟨a1, x1, e1, g1⟩ := k1 _ _ _ _ e
        rw [g1, k4 _ _ e1]
      · split at e
        · obtain ⟨a1, x1, e1, g1⟩ := k2 _ _ _ _ e
          rw [g1, k4 _ _ e1]
        · obtain ⟨a1, x1, e1, g1⟩ := k2 _ _ _ _ e
          obtain ⟨a2, x2, e2, g2⟩ := k2 _ _ _ _ e1
          rw [g1, g2, k4 _ _ e2]
theorem RD_entries_loop (hd : rd < c ∨ c + 11 ≤ rd) {m v1 : Nat} (hm61 : m ≤ 61) : ∀ (f i : Nat) (x4 : Option Value) (h : Hp) (s : Rt), m ≤ i + f → i ≤ 62 → (∀ a x, s = .inr (a, x) → x.2.1 = m) → RSt h c rd B s → Ex (prog nb sa) k_RD_entries 35 [some (.ref rd), some (.int (nI v1)), some (.int (nI m)), some (.int (nI i)), x4] [] h (fun v h' => v = none ∧ RSt h' c rd B (p_ents B m f i s) ∧ FR c rd h h')
  | 0, i, x4, h, s, hf, hi, hn, hs => by
    refine Ex_mv rfl rfl ?_; refine Ex_mv rfl rfl ?_; refine Ex_mv rfl rfl ?_; refine Ex_ift (nI_le (by omega) (by omega)) ?_
    refine Ex_rt rfl rfl ?_
    exact ⟨rfl, hs, FR.rf⟩
  | g + 1, i, x4, h, s, hf, hi, hn, hs => by
    by_cases him : i < m
    · obtain ⟨f, w0, a, x, hR, hC, ha, hf2, hm⟩ := id hs
      have hc := hC.1
      have hp := (CF.po hC).1
      have hl := hC.len
      unfold p_ents
      rw [if_pos him]
      by_cases hf0 : f = 0
      · subst hf0
        obtain ⟨rfl, rfl, hT⟩ := hm.ok
        have hxn : x.2.1 = m := hn a x rfl
        obtain ⟨_, h1, e1, rfl, P1, F1⟩ := c_PL_set (nb := nb) (sa := sa) (CF.po hC) (i := i) (a := a) (by omega) (by omega)
        have C1 : CFs h1 c B (setS x i a) := CF.withPO hC P1 (F1.wd (by omega) (by omega))
        have hR1 : RdO h1 rd c 0 (-1) a := F1.at hR (by omega)
        have R1 : RSt h1 c rd B (.inr (a, setS x i a)) := ⟨0, -1, a, setS x i a, hR1, C1, ha, by decide, rfl, rfl, rfl, rfl, hT⟩
        obtain ⟨_, h2, e2, rfl, R2, F2⟩ := c_RD_anEntry (nb := nb) (sa := sa) (l := decide (i + 1 = m)) hd R1
        have hn2 : ∀ a' x', p_entry B (decide (i + 1 = m)) a (setS x i a) = .inr (a', x') → x'.2.1 = m := fun a' x' q => (p_entry_n q).trans hxn
        have hw := wst_b (b1 B a)
        have ih := RD_entries_loop hd hm61 (v1 := v1) g (i + wst (b1 B a)) (some (.int (nI (b1 B a)))) h2 _ (by omega) (by omega) hn2 R2
        have hrow1 : RW h1 (c + 2) B := CF.row C1
        obtain ⟨fr, hr, hra, hB⟩ := id hrow1
        have hb := b1_lt hrow1.lt a
        obtain ⟨f2', w2, a2, x2, hR2, hC2, ha2, hf3, hm2⟩ := id R2
        have fin : ∀ (v : Option Value) h', (v = none ∧ RSt h' c rd B (p_ents B m g (i + wst (b1 B a)) (p_entry B (decide (i + 1 = m)) a (setS x i a))) ∧ FR c rd h2 h') → v = none ∧ RSt h' c rd B (p_ents B m g (i + wst (b1 B a)) (p_entry B (decide (i + 1 = m)) a (setS x i a))) ∧ FR c rd h h' := by
          rintro v h' ⟨rfl, q1, q2⟩
          exact ⟨rfl, q1, ((FR.of (F1.wd (by omega) (by omega))).tr F2).tr q2⟩
        refine Ex_mono (R := fun v h' => v = none ∧ RSt h' c rd B (p_ents B m g (i + wst (b1 B a)) (p_entry B (decide (i + 1 = m)) a (setS x i a))) ∧ FR c rd h2 h') ?_ fin
        have tail : Ex (prog nb sa) k_RD_entries 91 [some (.ref rd), some (.int (nI v1)), some (.int (nI m)), some (.int (nI i)), some (.int (nI (b1 B a)))] [] h2 (fun v h' => v = none ∧ RSt h' c rd B (p_ents B m g (i + wst (b1 B a)) (p_entry B (decide (i + 1 = m)) a (setS x i a))) ∧ FR c rd h2 h') := by
          by_cases hwd : b1 B a = 5 ∨ b1 B a = 6
          · have ew : wst (b1 B a) = 2 := if_pos hwd
            rw [ew] at ih ⊢
            refine Ex_mv rfl rfl ?_; refine Ex_inv rfl (by rfl) (by rfl) (by rfl) (c_CP_isWide (by omega)) ?_
            rw [if_pos hwd]
            refine Ex_mv rfl rfl ?_; refine Ex_iff (by decide) ?_; (first | refine Ex_incN rfl rfl ?_ | refine Ex_mv rfl rfl ?_); (first | refine Ex_incN rfl rfl ?_ | refine Ex_mv rfl rfl ?_); refine Ex_mv rfl rfl ?_
            exact ih
          · have ew : wst (b1 B a) = 1 := if_neg hwd
            rw [ew] at ih ⊢
            refine Ex_mv rfl rfl ?_; refine Ex_inv rfl (by rfl) (by rfl) (by rfl) (c_CP_isWide (by omega)) ?_
            rw [if_neg hwd]
            refine Ex_mv rfl rfl ?_; refine Ex_ift (by decide) ?_; (first | refine Ex_incN rfl rfl ?_ | refine Ex_mv rfl rfl ?_); refine Ex_mv rfl rfl ?_
            exact ih
        by_cases hla : i + 1 = m
        · rw [show (if decide (i + 1 = m) then (1 : Nat) else 0) = 1 by simp [hla]] at e2
          refine Ex_mv rfl rfl ?_; refine Ex_mv rfl rfl ?_; refine Ex_mv rfl rfl ?_; refine Ex_iff (nI_ge (by omega) (by omega)) ?_; refine Ex_mv rfl rfl ?_; refine Ex_getf rfl (by assumption) rfl ?_; refine Ex_mv rfl rfl ?_; refine Ex_iff (by decide) ?_; refine Ex_mv rfl rfl ?_; refine Ex_getf rfl (by assumption) rfl ?_; refine Ex_getf rfl (by assumption) rfl ?_; refine Ex_mv rfl rfl ?_; refine Ex_mv rfl rfl ?_; refine Ex_getf rfl (by assumption) rfl ?_; refine Ex_invV rfl (by rfl) (by rfl) (by assumption) (by rfl) (e1) ?_; refine Ex_mv rfl rfl ?_; refine Ex_getf rfl (by assumption) rfl ?_; refine Ex_mv rfl rfl ?_; refine Ex_getf rfl (by assumption) rfl ?_; refine Ex_invV rfl (by rfl) (by rfl) (by assumption) (by rfl) (c_RW_one hrow1 (by omega)) ?_; refine Ex_mv rfl rfl ?_; refine Ex_mv rfl rfl ?_; refine Ex_mv rfl rfl ?_; refine Ex_mv rfl rfl ?_; refine Ex_mv rfl rfl ?_; (first | refine Ex_subN rfl (by omega) ?_ | refine Ex_mv rfl rfl ?_); refine Ex_mv rfl rfl ?_; refine Ex_iff (by rw [show m - 1 = i by omega]; exact not_not_intro rfl) ?_; refine Ex_mv rfl rfl ?_; refine Ex_mv rfl rfl ?_; refine Ex_invV rfl (by rfl) (by rfl) (by assumption) (by rfl) (e2) ?_
          exact tail
        · rw [show (if decide (i + 1 = m) then (1 : Nat) else 0) = 0 by simp [hla]] at e2
          refine Ex_mv rfl rfl ?_; refine Ex_mv rfl rfl ?_; refine Ex_mv rfl rfl ?_; refine Ex_iff (nI_ge (by omega) (by omega)) ?_; refine Ex_mv rfl rfl ?_; refine Ex_getf rfl (by assumption) rfl ?_; refine Ex_mv rfl rfl ?_; refine Ex_iff (by decide) ?_; refine Ex_mv rfl rfl ?_; refine Ex_getf rfl (by assumption) rfl ?_; refine Ex_getf rfl (by assumption) rfl ?_; refine Ex_mv rfl rfl ?_; refine Ex_mv rfl rfl ?_; refine Ex_getf rfl (by assumption) rfl ?_; refine Ex_invV rfl (by rfl) (by rfl) (by assumption) (by rfl) (e1) ?_; refine Ex_mv rfl rfl ?_; refine Ex_getf rfl (by assumption) rfl ?_; refine Ex_mv rfl rfl ?_; refine Ex_getf rfl (by assumption) rfl ?_; refine Ex_invV rfl (by rfl) (by rfl) (by assumption) (by rfl) (c_RW_one hrow1 (by omega)) ?_; refine Ex_mv rfl rfl ?_; refine Ex_mv rfl rfl ?_; refine Ex_mv rfl rfl ?_; refine Ex_mv rfl rfl ?_; refine Ex_mv rfl rfl ?_; (first | refine Ex_subN rfl (by omega) ?_ | refine Ex_mv rfl rfl ?_); refine Ex_mv rfl rfl ?_; refine Ex_ift (fun z => absurd ((nI_eq (by omega) (by omega)).mp z) (by omega)) ?_; refine Ex_mv rfl rfl ?_; refine Ex_invV rfl (by rfl) (by rfl) (by assumption) (by rfl) (e2) ?_
          exact tail
      · obtain ⟨w', rfl, rfl⟩ := hm.bad hf0
        refine Ex_mv rfl rfl ?_; refine Ex_mv rfl rfl ?_; refine Ex_mv rfl rfl ?_; refine Ex_iff (nI_ge (by omega) (by omega)) ?_; refine Ex_mv rfl rfl ?_; refine Ex_getf rfl (by assumption) rfl ?_; refine Ex_mv rfl rfl ?_; refine Ex_ift (nI_nz hf0 (by omega)) ?_
        refine Ex_rt rfl rfl ?_
        exact ⟨rfl, hs, FR.rf⟩
    · unfold p_ents
      rw [if_neg him]
      refine Ex_mv rfl rfl ?_; refine Ex_mv rfl rfl ?_; refine Ex_mv rfl rfl ?_; refine Ex_ift (nI_le (by omega) (by omega)) ?_
      refine Ex_rt rfl rfl ?_
      exact ⟨rfl, hs, FR.rf⟩
theorem p_many_le (m : Nat) (s : Rt) : (p_many B m s).1 ≤ m := by
  unfold p_many
  split
  · exact Nat.zero_le _
  · split
    · split
      · assumption
      · exact Nat.zero_le _
    · exact Nat.zero_le _
theorem RSt.begin {h h1 : Hp} {s : Rt} {m f a : Nat} {w : Int32} {x : Fs} (hd : rd < c ∨ c + 11 ≤ rd) (hR : RdO h rd c f w a) (hC : CFs h c B x) (ha : a ≤ B.length) (hf : f ≤ 10) (hm : RtM s f w a x) (P1 : PO h1 (c + 1) B (fun _ => 0) m) (F1 : FrI (c + 1) (c + 1 + 4) h h1) : RSt h1 c rd B (p_begin m s) := by
  refine ⟨f, w, a, (fun _ => 0, m, x.2.2), F1.at hR (by omega), CF.withPO hC P1 F1, ha, hf, ?_⟩
  cases s with
  | inl e => exact hm
  | inr e => obtain ⟨h1, h2, h3, h4, h5⟩ := hm; subst h4; exact ⟨h1, h2, h3, rfl, h5⟩
theorem p_ents_bad (m : Nat) (e : Nat × Nat) : ∀ f i, p_ents B m f i (.inl e) = .inl e
  | 0, i => rfl
  | f + 1, i => by
    unfold p_ents
    split <;> rfl
theorem c_RD_entries {h : Hp} {s : Rt} (hd : rd < c ∨ c + 11 ≤ rd) (hs : RSt h c rd B s) : EvQ (prog nb sa) m_RD_entries [.ref rd] h (fun v h' => v = none ∧ RSt h' c rd B (p_entries B s) ∧ FR c rd h h') := by
  obtain ⟨_, h1, e1, rfl, R1, F1⟩ := c_RD_many (nb := nb) (sa := sa) hd hs (m := 61) (by decide)
  obtain ⟨f, w0, a, x, hR, hC, ha, hf, hm⟩ := id hs
  obtain ⟨f1, w1, a1, x1, hR1, hC1, ha1, hf1, hm1⟩ := id R1
  have hc1 := hC1.1
  have hp1 := (CF.po hC1).1
  obtain ⟨_, h2, e2, rfl, R2, F2⟩ := c_RD_fail (nb := nb) (sa := sa) hd R1 (k := 3) (w := a) (by decide) (by decide)
  obtain ⟨f2, w2, a2, x2, hR2, hC2, ha2, hf2, hm2⟩ := id R2
  have hc2 := hC2.1
  have hp2 := (CF.po hC2).1
  have hm61 := p_many_le (B := B) 61 s
  have hes : p_entries B s = p_ents B (p_many B 61 s).1 (p_many B 61 s).1 1 (p_begin (p_many B 61 s).1 (if (p_many B 61 s).1 = 0 then p_fail 3 a (p_many B 61 s).2 else (p_many B 61 s).2)) := by
    cases s with
    | inl e => rfl
    | inr e => obtain ⟨-, -, q, -, -⟩ := hm; subst q; rfl
  rw [hes]
  generalize (p_many B 61 s).1 = m at *
  generalize (p_many B 61 s).2 = s1 at *
  have hbn : ∀ (s : Rt) a x, p_begin m s = .inr (a, x) → x.2.1 = m := by
    intro s a x q
    cases s with
    | inl e => cases q
    | inr e => unfold p_begin at q; simp only [Sum.inr.injEq, Prod.mk.injEq] at q; rw [← q.2]
  refine EvQ_of k_RD_entries 5 [some (.ref rd), none, none, none, none] rfl (Nat.le_of_ble_eq_true rfl) rfl ?_
  by_cases hz : m = 0
  · rw [if_pos hz]
    obtain ⟨_, h3, e3, rfl, P3, F3⟩ := c_PL_begin (nb := nb) (sa := sa) (CF.po hC2) (m := m) hm61
    have R3 := RSt.begin hd hR2 hC2 ha2 hf2 hm2 P3 F3
    have ih := RD_entries_loop (nb := nb) (sa := sa) (B := B) hd hm61 (v1 := a) m 1 none h3 _ (by omega) (by omega) (hbn _) R3
    refine Ex_mv rfl rfl ?_; refine Ex_getf rfl (by assumption) rfl ?_; refine Ex_mv rfl rfl ?_; refine Ex_mv rfl rfl ?_; refine Ex_mv rfl rfl ?_; refine Ex_invV rfl (by rfl) (by rfl) (by assumption) (by rfl) (e1) ?_; refine Ex_mv rfl rfl ?_; refine Ex_mv rfl rfl ?_; refine Ex_mv rfl rfl ?_; refine Ex_iff (by rw [hz]; decide) ?_; refine Ex_mv rfl rfl ?_; refine Ex_mv rfl rfl ?_; refine Ex_mv rfl rfl ?_; refine Ex_invV rfl (by rfl) (by rfl) (by assumption) (by rfl) (e2) ?_; refine Ex_mv rfl rfl ?_; refine Ex_getf rfl (by assumption) rfl ?_; refine Ex_getf rfl (by assumption) rfl ?_; refine Ex_mv rfl rfl ?_; refine Ex_invV rfl (by rfl) (by rfl) (by assumption) (by rfl) (e3) ?_; refine Ex_mv rfl rfl ?_; refine Ex_mv rfl rfl ?_
    refine Ex_mono ih ?_
    rintro v h' ⟨rfl, q1, q2⟩
    exact ⟨rfl, q1, ((F1.tr F2).tr (FR.of (F3.wd (by omega) (by omega)))).tr q2⟩
  · rw [if_neg hz]
    obtain ⟨_, h3, e3, rfl, P3, F3⟩ := c_PL_begin (nb := nb) (sa := sa) (CF.po hC1) (m := m) hm61
    have R3 := RSt.begin hd hR1 hC1 ha1 hf1 hm1 P3 F3
    have ih := RD_entries_loop (nb := nb) (sa := sa) (B := B) hd hm61 (v1 := a) m 1 none h3 _ (by omega) (by omega) (hbn _) R3
    refine Ex_mv rfl rfl ?_; refine Ex_getf rfl (by assumption) rfl ?_; refine Ex_mv rfl rfl ?_; refine Ex_mv rfl rfl ?_; refine Ex_mv rfl rfl ?_; refine Ex_invV rfl (by rfl) (by rfl) (by assumption) (by rfl) (e1) ?_; refine Ex_mv rfl rfl ?_; refine Ex_mv rfl rfl ?_; refine Ex_mv rfl rfl ?_; refine Ex_ift (nI_nz hz (by omega)) ?_; refine Ex_mv rfl rfl ?_; refine Ex_getf rfl (by assumption) rfl ?_; refine Ex_getf rfl (by assumption) rfl ?_; refine Ex_mv rfl rfl ?_; refine Ex_invV rfl (by rfl) (by rfl) (by assumption) (by rfl) (e3) ?_; refine Ex_mv rfl rfl ?_; refine Ex_mv rfl rfl ?_
    refine Ex_mono ih ?_
    rintro v h' ⟨rfl, q1, q2⟩
    exact ⟨rfl, q1, (F1.tr (FR.of (F3.wd (by omega) (by omega)))).tr q2⟩
theorem c_RD_classAbove {h : Hp} {s : Rt} (hd : rd < c ∨ c + 11 ≤ rd) (hs : RSt h c rd B s) : EvQ (prog nb sa) m_RD_classAbove [.ref rd] h (fun v h' => v = none ∧ RSt h' c rd B (p_above B s) ∧ FR c rd h h') := by
  obtain ⟨_, h1, e1, rfl, R1, F1⟩ := c_RD_skip (nb := nb) (sa := sa) hd hs (k := 2) (by decide)
  obtain ⟨_, h2, e2, rfl, R2, F2⟩ := c_RD_tell (nb := nb) (sa := sa) hd hs (k := 7) (by decide)
  obtain ⟨f, w0, a, x, hR, hC, ha, hf, hm⟩ := id hs
  have hrow : RW h (c + 2) B := CF.row hC
  obtain ⟨fr, hr, hra, hB⟩ := id hrow
  have hb := b2_lt hrow.lt a
  have hl := hC.len
  refine EvQ_of k_RD_classAbove 1 [some (.ref rd)] rfl (Nat.le_of_ble_eq_true rfl) rfl ?_
  by_cases hz : b2 B a = 0
  · have es : p_above B s = p_skip B 2 s := by
      cases s with
      | inl e => rfl
      | inr e => obtain ⟨-, -, q, -, -⟩ := hm; subst q; exact if_pos hz
    rw [es]
    refine Ex_mv rfl rfl ?_; refine Ex_getf rfl (by assumption) rfl ?_; refine Ex_mv rfl rfl ?_; refine Ex_getf rfl (by assumption) rfl ?_; refine Ex_invV rfl (by rfl) (by rfl) (by assumption) (by rfl) (c_RW_two hrow (by omega)) ?_; refine Ex_mv rfl rfl ?_; refine Ex_iff (by rw [hz]; decide) ?_; refine Ex_mv rfl rfl ?_; refine Ex_mv rfl rfl ?_; refine Ex_invV rfl (by rfl) (by rfl) (by assumption) (by rfl) (e1) ?_; refine Ex_mv rfl rfl ?_
    refine Ex_rt rfl rfl ?_
    exact ⟨rfl, R1, F1⟩
  · have es : p_above B s = p_tell B 7 s := by
      cases s with
      | inl e => rfl
      | inr e => obtain ⟨-, -, q, -, -⟩ := hm; subst q; exact if_neg hz
    rw [es]
    refine Ex_mv rfl rfl ?_; refine Ex_getf rfl (by assumption) rfl ?_; refine Ex_mv rfl rfl ?_; refine Ex_getf rfl (by assumption) rfl ?_; refine Ex_invV rfl (by rfl) (by rfl) (by assumption) (by rfl) (c_RW_two hrow (by omega)) ?_; refine Ex_mv rfl rfl ?_; refine Ex_ift (nI_nz hz (by omega)) ?_; refine Ex_mv rfl rfl ?_; refine Ex_mv rfl rfl ?_; refine Ex_invV rfl (by rfl) (by rfl) (by assumption) (by rfl) (e2) ?_
    refine Ex_rt rfl rfl ?_
    exact ⟨rfl, R2, F2⟩
end READER3
end
section
/-! Reader: attributes, members, the whole file -/
/-- one more member -/
def addM (x : Fs) (k a : Nat) : Fs := (x.1, x.2.1, x.2.2.1, x.2.2.2.1, (if k = 0 then x.2.2.2.2.1 ++ [a] else x.2.2.2.2.1), (if k = 0 then x.2.2.2.2.2.1 else x.2.2.2.2.2.1 ++ [a]), x.2.2.2.2.2.2)
def p_mem (B : List Nat) (k a : Nat) (x : Fs) : Rt := p_attrs B (p_tell B 1 (p_tell B 1 (p_skip B 2 (.inr (a, addM x k a)))))
def p_mems (B : List Nat) (k : Nat) : Nat → Rt → Rt
  | 0, s => s
  | d + 1, s => match s with
    | .inl e => .inl e
    | .inr (a, x) => p_mems B k d (p_mem B k a x)
def p_members (B : List Nat) (k : Nat) (s : Rt) : Rt := p_mems B k (p_many B 12 s).1 (p_many B 12 s).2
def p_tells (B : List Nat) : Nat → Rt → Rt
  | 0, s => s
  | d + 1, s => match s with
    | .inl e => .inl e
    | .inr (a, x) => p_tells B d (p_tell B 7 (.inr (a, x)))
def p_bh (s : Rt) : Rt := match s with
  | .inl e => .inl e
  | .inr (a, x) => .inr (a, (x.1, x.2.1, a, x.2.2.2))
def p_aa (s : Rt) : Rt := match s with
  | .inl e => .inl e
  | .inr (a, x) => .inr (a, (x.1, x.2.1, x.2.2.1, a, x.2.2.2.2))
def p_end (B : List Nat) (s : Rt) : Rt := match s with
  | .inl e => .inl e
  | .inr (a, x) => if a < B.length then .inl (6, a) else .inr (a, x)
/-- members, attributes behind them, the end -/
def p_rest (B : List Nat) (s : Rt) : Rt := p_end B (p_attrs B (p_aa (p_members B 1 (p_members B 0 s))))
def p_heads (B : List Nat) (s : Rt) : Rt := p_above B (p_tell B 7 (p_skip B 2 (p_bh s)))
def p_scan (B : List Nat) (s : Rt) : Rt := p_rest B (p_tells B (p_many B 8 (p_heads B (p_entries B (p_skip B 4 (p_mags B 4 0 s))))).1 (p_many B 8 (p_heads B (p_entries B (p_skip B 4 (p_mags B 4 0 s))))).2)
/-- what stays: members' lists and the rest but tells -/
def SmM (s s' : Rt) : Prop := ∀ a' x', s' = .inr (a', x') → ∃ a x, s = .inr (a, x) ∧ a ≤ a' ∧ x'.1 = x.1 ∧ x'.2.1 = x.2.1 ∧ x'.2.2.1 = x.2.2.1 ∧ x'.2.2.2.1 = x.2.2.2.1 ∧ x'.2.2.2.2.1 = x.2.2.2.2.1 ∧ x'.2.2.2.2.2.1 = x.2.2.2.2.2.1
theorem SmM.rf (s : Rt) : SmM s s := fun a x e => ⟨a, x, e, Nat.le_refl _, rfl, rfl, rfl, rfl, rfl, rfl⟩
theorem SmM.tr {s s1 s2 : Rt} (h1 : SmM s s1) (h2 : SmM s1 s2) : SmM s s2 := by
  intro a' x' e
  obtain ⟨a, x, e1, g0, g1, g2, g3, g4, g5, g6⟩ := h2 a' x' e
  obtain ⟨b, y, e2, k0, k1, k2, k3, k4, k5, k6⟩ := h1 a x e1
  exact ⟨b, y, e2, by omega, g1.trans k1, g2.trans k2, g3.trans k3, g4.trans k4, g5.trans k5, g6.trans k6⟩
theorem SmM.bad (s : Rt) (e : Nat × Nat) : SmM s (.inl e) := fun a x q => by cases q
theorem Sm_skip (B : List Nat) (k : Nat) (s : Rt) : SmM s (p_skip B k s) := by
  intro a' x' e
  unfold p_skip at e
  split at e
  · cases e
  · split at e
    · simp only [Sum.inr.injEq, Prod.mk.injEq] at e
      obtain ⟨rfl, rfl⟩ := e
      exact ⟨_, _, rfl, by omega, rfl, rfl, rfl, rfl, rfl, rfl⟩
    · cases e
theorem Sm_tell (B : List Nat) (k : Nat) (s : Rt) : SmM s (p_tell B k s) := by
  intro a' x' e
  unfold p_tell at e
  split at e
  · cases e
  · split at e
    · simp only [Sum.inr.injEq, Prod.mk.injEq] at e
      obtain ⟨rfl, rfl⟩ := e
      exact ⟨_, _, rfl, by omega, rfl, rfl, rfl, rfl, rfl, rfl⟩
    · cases e
theorem Sm_many (B : List Nat) (k : Nat) (s : Rt) : SmM s (p_many B k s).2 := by
  intro a' x' e
  unfold p_many at e
  split at e
  · cases e
  · split at e
    · split at e
      · simp only [Sum.inr.injEq, Prod.mk.injEq] at e
        obtain ⟨rfl, rfl⟩ := e
        exact ⟨_, _, rfl, by omega, rfl, rfl, rfl, rfl, rfl, rfl⟩
      · cases e
    · cases e
theorem Sm_att (B : List Nat) (s : Rt) : SmM s (p_att B s) := by
  unfold p_att
  have h1 := (Sm_tell B 1 s).tr (Sm_skip B 4 (p_tell B 1 s))
  split
  · exact SmM.bad _ _
  · next a x e =>
    rw [e] at h1
    split
    · exact SmM.bad _ _
    · exact h1.tr (Sm_skip B _ _)
theorem Sm_atts (B : List Nat) : ∀ (d : Nat) (s : Rt), SmM s (p_atts B d s)
  | 0, s => SmM.rf s
  | d + 1, s => by
    unfold p_atts
    split
    · exact SmM.rf _
    · exact (Sm_att B _).tr (Sm_atts B d _)
theorem Sm_attrs (B : List Nat) (s : Rt) : SmM s (p_attrs B s) := (Sm_many B 6 s).tr (Sm_atts B _ _)
theorem nI_neg32 {n : Nat} (h1 : 2 ^ 31 ≤ n) (h2 : n < 2 ^ 32) : ¬ (0 : Int32) ≤ nI n := by
  rw [Int32.le_iff_toInt_le]
  have e : (nI n).toInt = (BitVec.ofNat 32 n).toInt := rfl
  have e0 : (0 : Int32).toInt = 0 := by decide
  rw [e, e0, BitVec.toInt_eq_toNat_cond, BitVec.toNat_ofNat]
  have : n % 2 ^ 32 = n := Nat.mod_eq_of_lt h2
  rw [this, if_neg (by omega)]
  omega
section READER4
variable {nb sa : Nat} {c rd : Nat} {B : List Nat}
theorem RD_attributes_loop (hd : rd < c ∨ c + 11 ≤ rd) {m : Nat} (hm6 : m ≤ 6) : ∀ (d i : Nat) (x3 x4 : Option Value) (h : Hp) (s : Rt), i + d = m → RSt h c rd B s → Ex (prog nb sa) k_RD_attributes 9 [some (.ref rd), some (.int (nI m)), some (.int (nI i)), x3, x4] [] h (fun v h' => v = none ∧ RSt h' c rd B (p_atts B d s) ∧ FR c rd h h')
  | 0, i, x3, x4, h, s, hi, hs => by
    refine Ex_mv rfl rfl ?_; refine Ex_mv rfl rfl ?_; refine Ex_mv rfl rfl ?_; refine Ex_ift (nI_le (by omega) (by omega)) ?_
    refine Ex_rt rfl rfl ?_
    exact ⟨rfl, hs, FR.rf⟩
  | d + 1, i, x3, x4, h, s, hi, hs => by
    obtain ⟨f, w0, a, x, hR, hC, ha, hf2, hm⟩ := id hs
    have hl := hC.len
    by_cases hf0 : f = 0
    · subst hf0
      obtain ⟨rfl, rfl, hT⟩ := hm.ok
      rw [show p_atts B (d + 1) (.inr (a, x)) = p_atts B d (p_att B (.inr (a, x))) from rfl]
      obtain ⟨_, h1, e1, rfl, R1, F1⟩ := c_RD_tell (nb := nb) (sa := sa) hd hs (k := 1) (by decide)
      obtain ⟨_, h2, e2, rfl, R2, F2⟩ := c_RD_skip (nb := nb) (sa := sa) hd R1 (k := 4) (by decide)
      obtain ⟨f1, w1, a1, x1, hR1, hC1, ha1, hf1, hm1⟩ := id R1
      obtain ⟨f2, w2, a2, x2, hR2, hC2, ha2, hf2', hm2⟩ := id R2
      have hrow2 : RW h2 (c + 2) B := CF.row hC2
      obtain ⟨fr, hr, hra, hB⟩ := id hrow2
      have hb := b4_lt hrow2.lt a1
      by_cases hz : f2 = 0
      · subst hz
        obtain ⟨es, rfl, hT2⟩ := hm2.ok
        have e21 : a2 = a1 + 4 := by
          cases hq : p_tell B 1 (.inr (a, x)) with
          | inl e => rw [hq] at es; cases es
          | inr e =>
            rw [hq] at es hm1
            obtain ⟨-, -, q, -, -⟩ := hm1
            simp only [p_skip] at es
            split at es
            · simp only [Sum.inr.injEq, Prod.mk.injEq] at es; omega
            · cases es
        by_cases hneg : 2 ^ 31 ≤ b4 B a1
        · have ep : p_att B (.inr (a, x)) = .inl (5, a1) := by
            unfold p_att
            rw [es]
            simp only [e21, Nat.add_sub_cancel]
            rw [if_pos hneg]
          rw [ep]
          obtain ⟨_, h3, e3, rfl, R3, F3⟩ := c_RD_fail (nb := nb) (sa := sa) hd R2 (k := 5) (w := a1) (by decide) (by decide)
          rw [es] at R3
          have e4 : Ev (prog nb sa) m_RD_skip [.ref rd, .int (nI (b4 B a1))] h3 none h3 := c_RD_skipB R3 (e := (5, a1)) rfl
          obtain ⟨f3, w3, a3, x3', hR3, hC3, ha3, hf3, hm3⟩ := id R3
          have ih := RD_attributes_loop hd hm6 d (i + 1) (some (.int (nI a1))) (some (.int (nI (b4 B a1)))) h3 (.inl (5, a1)) (by omega) R3
          have hng : ¬ (0 : Int32) ≤ nI (b4 B a1) := nI_neg32 hneg hb
          refine Ex_mv rfl rfl ?_; refine Ex_mv rfl rfl ?_; refine Ex_mv rfl rfl ?_; refine Ex_iff (nI_ge (by omega) (by omega)) ?_; refine Ex_mv rfl rfl ?_; refine Ex_getf rfl (by assumption) rfl ?_; refine Ex_mv rfl rfl ?_; refine Ex_iff (by decide) ?_; refine Ex_mv rfl rfl ?_; refine Ex_mv rfl rfl ?_; refine Ex_invV rfl (by rfl) (by rfl) (by assumption) (by rfl) (e1) ?_; refine Ex_mv rfl rfl ?_; refine Ex_getf rfl (by assumption) rfl ?_; refine Ex_mv rfl rfl ?_; refine Ex_mv rfl rfl ?_; refine Ex_mv rfl rfl ?_; refine Ex_invV rfl (by rfl) (by rfl) (by assumption) (by rfl) (e2) ?_; refine Ex_mv rfl rfl ?_; refine Ex_getf rfl (by assumption) rfl ?_; refine Ex_mv rfl rfl ?_; refine Ex_iff (by decide) ?_; refine Ex_mv rfl rfl ?_; refine Ex_getf rfl (by assumption) rfl ?_; refine Ex_mv rfl rfl ?_; refine Ex_invV rfl (by rfl) (by rfl) (by assumption) (by rfl) (c_RW_four hrow2 (by omega)) ?_; refine Ex_mv rfl rfl ?_; refine Ex_mv rfl rfl ?_; refine Ex_mv rfl rfl ?_; refine Ex_mv rfl rfl ?_; refine Ex_iff hng ?_; refine Ex_mv rfl rfl ?_; refine Ex_mv rfl rfl ?_; refine Ex_mv rfl rfl ?_; refine Ex_invV rfl (by rfl) (by rfl) (by assumption) (by rfl) (e3) ?_; refine Ex_mv rfl rfl ?_; refine Ex_mv rfl rfl ?_; refine Ex_invV rfl (by rfl) (by rfl) (by assumption) (by rfl) (e4) ?_; (first | refine Ex_incN rfl rfl ?_ | refine Ex_mv rfl rfl ?_); refine Ex_mv rfl rfl ?_
          refine Ex_mono ih ?_
          rintro v h' ⟨rfl, q1, q2⟩
          exact ⟨rfl, q1, ((F1.tr F2).tr F3).tr q2⟩
        · have ep : p_att B (.inr (a, x)) = p_skip B (b4 B a1) (.inr (a2, x2)) := by
            unfold p_att
            rw [es]
            simp only [e21, Nat.add_sub_cancel]
            rw [if_neg hneg]
          rw [ep]
          rw [es] at R2
          obtain ⟨_, h3, e3, rfl, R3, F3⟩ := c_RD_skip (nb := nb) (sa := sa) hd R2 (k := b4 B a1) (by omega)
          obtain ⟨f3, w3, a3, x3', hR3, hC3, ha3, hf3, hm3⟩ := id R3
          have ih := RD_attributes_loop hd hm6 d (i + 1) (some (.int (nI a1))) (some (.int (nI (b4 B a1)))) h3 _ (by omega) R3
          refine Ex_mv rfl rfl ?_; refine Ex_mv rfl rfl ?_; refine Ex_mv rfl rfl ?_; refine Ex_iff (nI_ge (by omega) (by omega)) ?_; refine Ex_mv rfl rfl ?_; refine Ex_getf rfl (by assumption) rfl ?_; refine Ex_mv rfl rfl ?_; refine Ex_iff (by decide) ?_; refine Ex_mv rfl rfl ?_; refine Ex_mv rfl rfl ?_; refine Ex_invV rfl (by rfl) (by rfl) (by assumption) (by rfl) (e1) ?_; refine Ex_mv rfl rfl ?_; refine Ex_getf rfl (by assumption) rfl ?_; refine Ex_mv rfl rfl ?_; refine Ex_mv rfl rfl ?_; refine Ex_mv rfl rfl ?_; refine Ex_invV rfl (by rfl) (by rfl) (by assumption) (by rfl) (e2) ?_; refine Ex_mv rfl rfl ?_; refine Ex_getf rfl (by assumption) rfl ?_; refine Ex_mv rfl rfl ?_; refine Ex_iff (by decide) ?_; refine Ex_mv rfl rfl ?_; refine Ex_getf rfl (by assumption) rfl ?_; refine Ex_mv rfl rfl ?_; refine Ex_invV rfl (by rfl) (by rfl) (by assumption) (by rfl) (c_RW_four hrow2 (by omega)) ?_; refine Ex_mv rfl rfl ?_; refine Ex_mv rfl rfl ?_; refine Ex_mv rfl rfl ?_; refine Ex_mv rfl rfl ?_; refine Ex_ift (nI_pos' (by omega)) ?_; refine Ex_mv rfl rfl ?_; refine Ex_mv rfl rfl ?_; refine Ex_invV rfl (by rfl) (by rfl) (by assumption) (by rfl) (e3) ?_; (first | refine Ex_incN rfl rfl ?_ | refine Ex_mv rfl rfl ?_); refine Ex_mv rfl rfl ?_
          refine Ex_mono ih ?_
          rintro v h' ⟨rfl, q1, q2⟩
          exact ⟨rfl, q1, ((F1.tr F2).tr F3).tr q2⟩
      · obtain ⟨w', es, rfl⟩ := hm2.bad hz
        have ep : p_att B (.inr (a, x)) = .inl (f2, w') := by
          unfold p_att
          rw [es]
        rw [ep]
        rw [es] at R2
        have e4 : Ev (prog nb sa) m_RD_skip [.ref rd, .int (nI 0)] h2 none h2 := c_RD_skipB R2 (e := (f2, w')) rfl
        have ih := RD_attributes_loop hd hm6 d (i + 1) (some (.int (nI a1))) (some (.int (nI 0))) h2 (.inl (f2, w')) (by omega) R2
        refine Ex_mv rfl rfl ?_; refine Ex_mv rfl rfl ?_; refine Ex_mv rfl rfl ?_; refine Ex_iff (nI_ge (by omega) (by omega)) ?_; refine Ex_mv rfl rfl ?_; refine Ex_getf rfl (by assumption) rfl ?_; refine Ex_mv rfl rfl ?_; refine Ex_iff (by decide) ?_; refine Ex_mv rfl rfl ?_; refine Ex_mv rfl rfl ?_; refine Ex_invV rfl (by rfl) (by rfl) (by assumption) (by rfl) (e1) ?_; refine Ex_mv rfl rfl ?_; refine Ex_getf rfl (by assumption) rfl ?_; refine Ex_mv rfl rfl ?_; refine Ex_mv rfl rfl ?_; refine Ex_mv rfl rfl ?_; refine Ex_invV rfl (by rfl) (by rfl) (by assumption) (by rfl) (e2) ?_; refine Ex_mv rfl rfl ?_; refine Ex_getf rfl (by assumption) rfl ?_; refine Ex_mv rfl rfl ?_; refine Ex_ift (nI_nz hz (by omega)) ?_; refine Ex_mv rfl rfl ?_; refine Ex_mv rfl rfl ?_; refine Ex_mv rfl rfl ?_; refine Ex_mv rfl rfl ?_; refine Ex_ift (by decide) ?_; refine Ex_mv rfl rfl ?_; refine Ex_mv rfl rfl ?_; refine Ex_invV rfl (by rfl) (by rfl) (by assumption) (by rfl) (e4) ?_; (first | refine Ex_incN rfl rfl ?_ | refine Ex_mv rfl rfl ?_); refine Ex_mv rfl rfl ?_
        refine Ex_mono ih ?_
        rintro v h' ⟨rfl, q1, q2⟩
        exact ⟨rfl, q1, (F1.tr F2).tr q2⟩
    · obtain ⟨w', rfl, rfl⟩ := hm.bad hf0
      refine Ex_mv rfl rfl ?_; refine Ex_mv rfl rfl ?_; refine Ex_mv rfl rfl ?_; refine Ex_iff (nI_ge (by omega) (by omega)) ?_; refine Ex_mv rfl rfl ?_; refine Ex_getf rfl (by assumption) rfl ?_; refine Ex_mv rfl rfl ?_; refine Ex_ift (nI_nz hf0 (by omega)) ?_
      refine Ex_rt rfl rfl ?_
      exact ⟨rfl, hs, FR.rf⟩
theorem c_RD_attributes {h : Hp} {s : Rt} (hd : rd < c ∨ c + 11 ≤ rd) (hs : RSt h c rd B s) : EvQ (prog nb sa) m_RD_attributes [.ref rd] h (fun v h' => v = none ∧ RSt h' c rd B (p_attrs B s) ∧ FR c rd h h') := by
  obtain ⟨_, h1, e1, rfl, R1, F1⟩ := c_RD_many (nb := nb) (sa := sa) hd hs (m := 6) (by decide)
  obtain ⟨f, w0, a, x, hR, hC, ha, hf, hm⟩ := id hs
  have ih := RD_attributes_loop (nb := nb) (sa := sa) (B := B) hd (p_many_le (B := B) 6 s) (p_many B 6 s).1 0 none none h1 (p_many B 6 s).2 (by omega) R1
  refine EvQ_of k_RD_attributes 5 [some (.ref rd), none, none, none, none] rfl (Nat.le_of_ble_eq_true rfl) rfl ?_
  refine Ex_mv rfl rfl ?_; refine Ex_mv rfl rfl ?_; refine Ex_invV rfl (by rfl) (by rfl) (by assumption) (by rfl) (e1) ?_; refine Ex_mv rfl rfl ?_; refine Ex_mv rfl rfl ?_; refine Ex_mv rfl rfl ?_
  refine Ex_mono ih ?_
  rintro v h' ⟨rfl, q1, q2⟩
  exact ⟨rfl, q1, F1.tr q2⟩
theorem Sm_mem {k a : Nat} {x : Fs} (a' : Nat) (x' : Fs) (e : p_mem B k a x = .inr (a', x')) : (mK x'.2.2.2.2.1 x'.2.2.2.2.2.1 k).length = (mK x.2.2.2.2.1 x.2.2.2.2.2.1 k).length + 1 := by
  have h1 := ((Sm_skip B 2 (.inr (a, addM x k a))).tr (Sm_tell B 1 _)).tr (Sm_tell B 1 _)
  have h2 := h1.tr (Sm_attrs B _)
  obtain ⟨b, y, e1, -, -, -, -, -, g5, g6⟩ := h2 a' x' e
  simp only [Sum.inr.injEq, Prod.mk.injEq] at e1
  rw [g5, g6, ← e1.2]
  unfold mK addM
  by_cases hk : k = 0
  · simp [hk]
  · simp [hk]
theorem RD_members_loop (hd : rd < c ∨ c + 11 ≤ rd) {m k : Nat} (hk : k < 2) (hm12 : m ≤ 12) : ∀ (d i : Nat) (h : Hp) (s : Rt), i + d = m → (∀ a x, s = .inr (a, x) → (mK x.2.2.2.2.1 x.2.2.2.2.2.1 k).length + d ≤ 12) → RSt h c rd B s → Ex (prog nb sa) k_RD_members 9 [some (.ref rd), some (.int (nI k)), some (.int (nI m)), some (.int (nI i))] [] h (fun v h' => v = none ∧ RSt h' c rd B (p_mems B k d s) ∧ FR c rd h h')
  | 0, i, h, s, hi, hn, hs => by
    refine Ex_mv rfl rfl ?_; refine Ex_mv rfl rfl ?_; refine Ex_mv rfl rfl ?_; refine Ex_ift (nI_le (by omega) (by omega)) ?_
    refine Ex_rt rfl rfl ?_
    exact ⟨rfl, hs, FR.rf⟩
  | d + 1, i, h, s, hi, hn, hs => by
    obtain ⟨f, w0, a, x, hR, hC, ha, hf2, hm⟩ := id hs
    have hl := hC.len
    have hc := hC.1
    unfold p_mems
    by_cases hf0 : f = 0
    · subst hf0
      obtain ⟨rfl, rfl, hT⟩ := hm.ok
      have hn0 := hn a x rfl
      obtain ⟨_, h0, e0, rfl, C0, F0⟩ := c_CF_addMember (nb := nb) (sa := sa) hC hk (a := a) (by omega) (by omega)
      have hR0 : RdO h0 rd c 0 (-1) a := F0.at hR (by omega)
      have R0 : RSt h0 c rd B (.inr (a, addM x k a)) := ⟨0, -1, a, addM x k a, hR0, C0, ha, by decide, rfl, rfl, rfl, rfl, hT⟩
      obtain ⟨_, h1, e1, rfl, R1, F1⟩ := c_RD_skip (nb := nb) (sa := sa) hd R0 (k := 2) (by decide)
      obtain ⟨_, h2, e2, rfl, R2, F2⟩ := c_RD_tell (nb := nb) (sa := sa) hd R1 (k := 1) (by decide)
      obtain ⟨_, h3, e3, rfl, R3, F3⟩ := c_RD_tell (nb := nb) (sa := sa) hd R2 (k := 1) (by decide)
      obtain ⟨_, h4, e4, rfl, R4, F4⟩ := c_RD_attributes (nb := nb) (sa := sa) hd R3
      obtain ⟨f1, w1, a1, x1, hR1, -⟩ := id R1
      obtain ⟨f2, w2, a2, x2, hR2, -⟩ := id R2
      obtain ⟨f3, w3, a3, x3, hR3, -⟩ := id R3
      have ih := RD_members_loop hd hk hm12 d (i + 1) h4 (p_mem B k a x) (by omega) (fun a' x' e => by have := Sm_mem a' x' e; omega) R4
      refine Ex_mv rfl rfl ?_; refine Ex_mv rfl rfl ?_; refine Ex_mv rfl rfl ?_; refine Ex_iff (nI_ge (by omega) (by omega)) ?_; refine Ex_mv rfl rfl ?_; refine Ex_getf rfl (by assumption) rfl ?_; refine Ex_mv rfl rfl ?_; refine Ex_iff (by decide) ?_; refine Ex_mv rfl rfl ?_; refine Ex_getf rfl (by assumption) rfl ?_; refine Ex_mv rfl rfl ?_; refine Ex_mv rfl rfl ?_; refine Ex_getf rfl (by assumption) rfl ?_; refine Ex_invV rfl (by rfl) (by rfl) (by assumption) (by rfl) (e0) ?_; refine Ex_mv rfl rfl ?_; refine Ex_mv rfl rfl ?_; refine Ex_invV rfl (by rfl) (by rfl) (by assumption) (by rfl) (e1) ?_; refine Ex_mv rfl rfl ?_; refine Ex_mv rfl rfl ?_; refine Ex_invV rfl (by rfl) (by rfl) (by assumption) (by rfl) (e2) ?_; refine Ex_mv rfl rfl ?_; refine Ex_mv rfl rfl ?_; refine Ex_invV rfl (by rfl) (by rfl) (by assumption) (by rfl) (e3) ?_; refine Ex_mv rfl rfl ?_; refine Ex_invV rfl (by rfl) (by rfl) (by assumption) (by rfl) (e4) ?_; (first | refine Ex_incN rfl rfl ?_ | refine Ex_mv rfl rfl ?_); refine Ex_mv rfl rfl ?_
      refine Ex_mono ih ?_
      rintro v h' ⟨rfl, q1, q2⟩
      exact ⟨rfl, q1, (((((FR.of F0).tr F1).tr F2).tr F3).tr F4).tr q2⟩
    · obtain ⟨w', rfl, rfl⟩ := hm.bad hf0
      refine Ex_mv rfl rfl ?_; refine Ex_mv rfl rfl ?_; refine Ex_mv rfl rfl ?_; refine Ex_iff (nI_ge (by omega) (by omega)) ?_; refine Ex_mv rfl rfl ?_; refine Ex_getf rfl (by assumption) rfl ?_; refine Ex_mv rfl rfl ?_; refine Ex_ift (nI_nz hf0 (by omega)) ?_
      refine Ex_rt rfl rfl ?_
      exact ⟨rfl, hs, FR.rf⟩
theorem c_RD_members {h : Hp} {s : Rt} {k : Nat} (hd : rd < c ∨ c + 11 ≤ rd) (hk : k < 2) (hn : ∀ a x, s = .inr (a, x) → mK x.2.2.2.2.1 x.2.2.2.2.2.1 k = []) (hs : RSt h c rd B s) : EvQ (prog nb sa) m_RD_members [.ref rd, .int (nI k)] h (fun v h' => v = none ∧ RSt h' c rd B (p_members B k s) ∧ FR c rd h h') := by
  obtain ⟨_, h1, e1, rfl, R1, F1⟩ := c_RD_many (nb := nb) (sa := sa) hd hs (m := 12) (by decide)
  obtain ⟨f, w0, a, x, hR, hC, ha, hf, hm⟩ := id hs
  have hle := p_many_le (B := B) 12 s
  have ih := RD_members_loop (nb := nb) (sa := sa) (B := B) hd hk hle (p_many B 12 s).1 0 h1 (p_many B 12 s).2 (by omega) (fun a' x' e => by
    obtain ⟨b, y, e1, -, -, -, -, -, g5, g6⟩ := Sm_many B 12 s a' x' e
    rw [g5, g6, hn b y e1]
    simpa using hle) R1
  refine EvQ_of k_RD_members 4 [some (.ref rd), some (.int (nI k)), none, none] rfl (Nat.le_of_ble_eq_true rfl) rfl ?_
  refine Ex_mv rfl rfl ?_; refine Ex_mv rfl rfl ?_; refine Ex_invV rfl (by rfl) (by rfl) (by assumption) (by rfl) (e1) ?_; refine Ex_mv rfl rfl ?_; refine Ex_mv rfl rfl ?_; refine Ex_mv rfl rfl ?_
  refine Ex_mono ih ?_
  rintro v h' ⟨rfl, q1, q2⟩
  exact ⟨rfl, q1, F1.tr q2⟩
end READER4
end
section
/-! Reader: the whole file -/
/-- members' lists stay -/
def SmP (s s' : Rt) : Prop := ∀ a' x', s' = .inr (a', x') → ∃ a x, s = .inr (a, x) ∧ x'.2.2.2.2.1 = x.2.2.2.2.1 ∧ x'.2.2.2.2.2.1 = x.2.2.2.2.2.1
theorem SmP.tr {s s1 s2 : Rt} (h1 : SmP s s1) (h2 : SmP s1 s2) : SmP s s2 := by
  intro a' x' e
  obtain ⟨a, x, e1, g5, g6⟩ := h2 a' x' e
  obtain ⟨b, y, e2, k5, k6⟩ := h1 a x e1
  exact ⟨b, y, e2, g5.trans k5, g6.trans k6⟩
theorem SmM.p {s s' : Rt} (h : SmM s s') : SmP s s' := fun a x e => by
  obtain ⟨b, y, e1, -, -, -, -, -, g5, g6⟩ := h a x e
  exact ⟨b, y, e1, g5, g6⟩
theorem SmP.rf (s : Rt) : SmP s s := (SmM.rf s).p
theorem SmP.bad (s : Rt) (e : Nat × Nat) : SmP s (.inl e) := (SmM.bad s e).p
theorem Sp_fail (k w : Nat) (s : Rt) : SmP s (p_fail k w s) := by
  unfold p_fail
  split
  · exact SmP.rf _
  · exact SmP.bad _ _
theorem Sp_mags (B : List Nat) : ∀ (d i : Nat) (s : Rt), SmP s (p_mags B d i s)
  | 0, i, s => SmP.rf s
  | d + 1, i, s => by
    have h1 : SmP s (p_mag B i s) := by
      unfold p_mag
      split
      · exact (Sm_skip B 1 s).p
      · exact (Sm_skip B 1 s).p.tr (Sp_fail _ _ _)
    exact h1.tr (Sp_mags B d (i + 1) _)
theorem Sp_entry (B : List Nat) (l : Bool) (a : Nat) (x : Fs) : SmP (.inr (a, x)) (p_entry B l a x) := by
  have h1 := (Sm_skip B 1 (.inr (a, x))).p
  unfold p_entry
  split
  · exact h1.tr (Sp_fail _ _ _)
  · split
    · exact (h1.tr (Sm_skip B 2 _).p).tr (Sm_skip B _ _).p
    · split
      · exact h1.tr (Sm_skip B _ _).p
      · split
        · exact h1.tr (Sm_tell B _ _).p
        · exact (h1.tr (Sm_tell B _ _).p).tr (Sm_tell B _ _).p
theorem Sp_ents (B : List Nat) (m : Nat) : ∀ (f i : Nat) (s : Rt), SmP s (p_ents B m f i s)
  | 0, i, s => SmP.rf s
  | f + 1, i, s => by
    unfold p_ents
    split
    · split
      · exact SmP.rf _
      · next a x =>
        have h0 : SmP (.inr (a, x)) (.inr (a, setS x i a)) := fun a' x' e => by
          simp only [Sum.inr.injEq, Prod.mk.injEq] at e
          exact ⟨a, x, rfl, by rw [← e.2]; rfl, by rw [← e.2]; rfl⟩
        exact (h0.tr (Sp_entry B _ a (setS x i a))).tr (Sp_ents B m f _ _)
    · exact SmP.rf _
theorem Sp_begin (m : Nat) (s : Rt) : SmP s (p_begin m s) := by
  intro a' x' e
  cases s with
  | inl q => cases e
  | inr q => unfold p_begin at e; simp only [Sum.inr.injEq, Prod.mk.injEq] at e; exact ⟨q.1, q.2, rfl, by rw [← e.2], by rw [← e.2]⟩
theorem Sp_entries (B : List Nat) (s : Rt) : SmP s (p_entries B s) := by
  unfold p_entries
  split
  · exact SmP.rf _
  · next a x =>
    refine SmP.tr ?_ (Sp_ents B _ _ _ _)
    refine SmP.tr ?_ (Sp_begin _ _)
    split
    · exact (Sm_many B 61 _).p.tr (Sp_fail _ _ _)
    · exact (Sm_many B 61 _).p
theorem Sp_bh (s : Rt) : SmP s (p_bh s) := by
  intro a' x' e
  cases s with
  | inl q => cases e
  | inr q => unfold p_bh at e; simp only [Sum.inr.injEq, Prod.mk.injEq] at e; exact ⟨q.1, q.2, rfl, by rw [← e.2], by rw [← e.2]⟩
theorem Sm_above (B : List Nat) (s : Rt) : SmM s (p_above B s) := by
  unfold p_above
  split
  · exact SmM.rf _
  · split
    · exact Sm_skip B _ _
    · exact Sm_tell B _ _
theorem Sp_heads (B : List Nat) (s : Rt) : SmP s (p_heads B s) := (((Sp_bh s).tr (Sm_skip B 2 _).p).tr (Sm_tell B 7 _).p).tr (Sm_above B _).p
theorem Sm_tells (B : List Nat) : ∀ (d : Nat) (s : Rt), SmM s (p_tells B d s)
  | 0, s => SmM.rf s
  | d + 1, s => by
    unfold p_tells
    split
    · exact SmM.rf _
    · exact (Sm_tell B 7 _).tr (Sm_tells B d _)
theorem Sm1_mems (B : List Nat) : ∀ (d : Nat) (s : Rt) (a' : Nat) (x' : Fs), p_mems B 0 d s = .inr (a', x') → ∃ a x, s = .inr (a, x) ∧ x'.2.2.2.2.2.1 = x.2.2.2.2.2.1
  | 0, s, a', x', e => ⟨a', x', e, rfl⟩
  | d + 1, s, a', x', e => by
    unfold p_mems at e
    split at e
    · cases e
    · next a x =>
      obtain ⟨b, y, e1, g⟩ := Sm1_mems B d _ a' x' e
      have h1 := ((Sm_skip B 2 (.inr (a, addM x 0 a))).tr (Sm_tell B 1 _)).tr (Sm_tell B 1 _)
      have h2 := h1.tr (Sm_attrs B _)
      obtain ⟨b2, y2, e2, -, -, -, -, -, g5, g6⟩ := h2 b y e1
      simp only [Sum.inr.injEq, Prod.mk.injEq] at e2
      refine ⟨a, x, rfl, ?_⟩
      rw [g, g6, ← e2.2]
      rfl
section READER5
variable {nb sa : Nat} {c rd : Nat} {B : List Nat}
theorem RSt.bh {h : Hp} {s : Rt} {f a : Nat} {w : Int32} {x : Fs} (hd : rd < c ∨ c + 11 ≤ rd) (hR : RdO h rd c f w a) (hC : CFs h c B x) (ha : a ≤ B.length) (hf : f ≤ 10) (hm : RtM s f w a x) : RSt (hset h c (.inr (0, [.ref (c + 1), .ref (c + 2), .int (nI a), .int (nI x.2.2.2.1), .ref (c + 5), .ref (c + 8), .ref (c + 9), .ref (c + 10), .int (nI x.2.2.2.2.2.2.length)]))) c rd B (p_bh s) := by
  have hl := hC.len
  obtain ⟨a1, a2, a3, a4, a5, a6, a7, a8, b1, b2, b3, b4, b5⟩ := hC
  have F : ∀ z, FrI c (c + 1) h (hset h c z) := fun z => FrI.rf.set (by omega) (by omega)
  refine ⟨f, w, a, (x.1, x.2.1, a, x.2.2.2), hs_ne (by omega) hR, ⟨hs_at, a2.fr (F _) (by omega), hs_ne (by omega) a3, a4.fr (F _) (by omega), a5.fr (F _) (by omega), a6.fr (F _) (by omega), a7.fr (F _) (by omega), a8.fr (F _) (by omega), b1, b2, b3, (Nat.le_trans ha hl : a ≤ 400), b5⟩, ha, hf, ?_⟩
  cases s with
  | inl e => exact hm
  | inr e => obtain ⟨h1, h2, h3, h4, h5⟩ := hm; subst h4; subst h3; exact ⟨h1, h2, rfl, rfl, h5⟩
theorem RSt.aa {h : Hp} {s : Rt} {f a : Nat} {w : Int32} {x : Fs} (hd : rd < c ∨ c + 11 ≤ rd) (hR : RdO h rd c f w a) (hC : CFs h c B x) (ha : a ≤ B.length) (hf : f ≤ 10) (hm : RtM s f w a x) : RSt (hset h c (.inr (0, [.ref (c + 1), .ref (c + 2), .int (nI x.2.2.1), .int (nI a), .ref (c + 5), .ref (c + 8), .ref (c + 9), .ref (c + 10), .int (nI x.2.2.2.2.2.2.length)]))) c rd B (p_aa s) := by
  have hl := hC.len
  obtain ⟨a1, a2, a3, a4, a5, a6, a7, a8, b1, b2, b3, b4, b5, b6⟩ := hC
  have F : ∀ z, FrI c (c + 1) h (hset h c z) := fun z => FrI.rf.set (by omega) (by omega)
  refine ⟨f, w, a, (x.1, x.2.1, x.2.2.1, a, x.2.2.2.2), hs_ne (by omega) hR, ⟨hs_at, a2.fr (F _) (by omega), hs_ne (by omega) a3, a4.fr (F _) (by omega), a5.fr (F _) (by omega), a6.fr (F _) (by omega), a7.fr (F _) (by omega), a8.fr (F _) (by omega), b1, b2, b3, b4, (Nat.le_trans ha hl : a ≤ 400), b6⟩, ha, hf, ?_⟩
  cases s with
  | inl e => exact hm
  | inr e => obtain ⟨h1, h2, h3, h4, h5⟩ := hm; subst h4; subst h3; exact ⟨h1, h2, rfl, rfl, h5⟩
theorem FR.setc {h : Hp} {z : Ce} : FR c rd h (hset h c z) := FR.of (FrI.rf.set (by omega) (by omega))
/-- the part of scan from the members on -/
theorem RD_scan_rest (hd : rd < c ∨ c + 11 ≤ rd) {x1 x2 : Option Value} {h : Hp} {s : Rt} (hs : RSt h c rd B s) (hn : ∀ a x, s = .inr (a, x) → x.2.2.2.2.1 = [] ∧ x.2.2.2.2.2.1 = []) : Ex (prog nb sa) k_RD_scan 72 [some (.ref rd), x1, x2] [] h (fun v h' => v = none ∧ RSt h' c rd B (p_rest B s) ∧ FR c rd h h') := by
  obtain ⟨_, h1, e1, rfl, R1, F1⟩ := c_RD_members (nb := nb) (sa := sa) (k := 0) hd (by decide) (fun a x e => (hn a x e).1) hs
  have hn1 : ∀ a x, p_members B 0 s = .inr (a, x) → mK x.2.2.2.2.1 x.2.2.2.2.2.1 1 = [] := by
    intro a x e
    obtain ⟨b, y, e1, g⟩ := Sm1_mems B _ _ a x e
    obtain ⟨b2, y2, e2, -, g6⟩ := (Sm_many B 12 s).p b y e1
    show x.2.2.2.2.2.1 = []
    rw [g, g6]
    exact (hn b2 y2 e2).2
  obtain ⟨_, h2, e2, rfl, R2, F2⟩ := c_RD_members (nb := nb) (sa := sa) (k := 1) hd (by decide) hn1 R1
  obtain ⟨f, w, a, x, hR, hC, ha, hf, hm⟩ := id hs
  obtain ⟨f1, w1, a1, x1, hR1, -⟩ := id R1
  obtain ⟨f2, w2, a2, x2, hR2, hC2, ha2, hf2, hm2⟩ := id R2
  have hc2 := hC2.1
  have R3 := RSt.aa hd hR2 hC2 ha2 hf2 hm2
  obtain ⟨f3, w3, a3, x3, hR3, -⟩ := id R3
  obtain ⟨_, h4, e4, rfl, R4, F4⟩ := c_RD_attributes (nb := nb) (sa := sa) hd R3
  obtain ⟨f4, w4, a4, x4, hR4, hC4, ha4, hf4, hm4⟩ := id R4
  have hrow4 : RW h4 (c + 2) B := CF.row hC4
  obtain ⟨fr, hr, hra, hB⟩ := id hrow4
  have hl := hC.len
  obtain ⟨_, h5, e5, rfl, R5, F5⟩ := c_RD_fail (nb := nb) (sa := sa) hd R4 (k := 6) (w := a4) (by decide) (by decide)
  by_cases hlt : a4 < B.length
  · have es : p_rest B s = p_fail 6 a4 (p_attrs B (p_aa (p_members B 1 (p_members B 0 s)))) := by
      unfold p_rest
      cases hq : p_attrs B (p_aa (p_members B 1 (p_members B 0 s))) with
      | inl e => rfl
      | inr e => rw [hq] at hm4; obtain ⟨-, -, q, -, -⟩ := hm4; subst q; exact if_pos hlt
    rw [es]
    refine Ex_mv rfl rfl ?_; refine Ex_mv rfl rfl ?_; refine Ex_invV rfl (by rfl) (by rfl) (by assumption) (by rfl) (e1) ?_; refine Ex_mv rfl rfl ?_; refine Ex_mv rfl rfl ?_; refine Ex_invV rfl (by rfl) (by rfl) (by assumption) (by rfl) (e2) ?_; refine Ex_mv rfl rfl ?_; refine Ex_getf rfl (by assumption) rfl ?_; refine Ex_mv rfl rfl ?_; refine Ex_getf rfl (by assumption) rfl ?_; refine Ex_putf rfl (by assumption) rfl rfl ?_; refine Ex_mv rfl rfl ?_; refine Ex_invV rfl (by rfl) (by rfl) (by assumption) (by rfl) (e4) ?_; refine Ex_mv rfl rfl ?_; refine Ex_getf rfl (by assumption) rfl ?_; refine Ex_mv rfl rfl ?_; refine Ex_getf rfl (by assumption) rfl ?_; refine Ex_invV rfl (by rfl) (by rfl) (by assumption) (by rfl) (c_RW_size hrow4) ?_; refine Ex_mv rfl rfl ?_; refine Ex_iff (nI_ge (by omega) (by omega)) ?_; refine Ex_mv rfl rfl ?_; refine Ex_mv rfl rfl ?_; refine Ex_mv rfl rfl ?_; refine Ex_getf rfl (by assumption) rfl ?_; refine Ex_invV rfl (by rfl) (by rfl) (by assumption) (by rfl) (e5) ?_
    refine Ex_rt rfl rfl ?_
    exact ⟨rfl, R5, (((F1.tr F2).tr FR.setc).tr F4).tr F5⟩
  · have es : p_rest B s = p_attrs B (p_aa (p_members B 1 (p_members B 0 s))) := by
      unfold p_rest
      cases hq : p_attrs B (p_aa (p_members B 1 (p_members B 0 s))) with
      | inl e => rfl
      | inr e => rw [hq] at hm4; obtain ⟨-, -, q, -, -⟩ := hm4; subst q; exact if_neg hlt
    rw [es]
    refine Ex_mv rfl rfl ?_; refine Ex_mv rfl rfl ?_; refine Ex_invV rfl (by rfl) (by rfl) (by assumption) (by rfl) (e1) ?_; refine Ex_mv rfl rfl ?_; refine Ex_mv rfl rfl ?_; refine Ex_invV rfl (by rfl) (by rfl) (by assumption) (by rfl) (e2) ?_; refine Ex_mv rfl rfl ?_; refine Ex_getf rfl (by assumption) rfl ?_; refine Ex_mv rfl rfl ?_; refine Ex_getf rfl (by assumption) rfl ?_; refine Ex_putf rfl (by assumption) rfl rfl ?_; refine Ex_mv rfl rfl ?_; refine Ex_invV rfl (by rfl) (by rfl) (by assumption) (by rfl) (e4) ?_; refine Ex_mv rfl rfl ?_; refine Ex_getf rfl (by assumption) rfl ?_; refine Ex_mv rfl rfl ?_; refine Ex_getf rfl (by assumption) rfl ?_; refine Ex_invV rfl (by rfl) (by rfl) (by assumption) (by rfl) (c_RW_size hrow4) ?_; refine Ex_mv rfl rfl ?_; refine Ex_ift (nI_le (by omega) (by omega)) ?_
    refine Ex_rt rfl rfl ?_
    exact ⟨rfl, R4, ((F1.tr F2).tr FR.setc).tr F4⟩
theorem RD_scan_loop (hd : rd < c ∨ c + 11 ≤ rd) {m : Nat} (hm8 : m ≤ 8) : ∀ (d i : Nat) (h : Hp) (s : Rt), i + d = m → (∀ a x, s = .inr (a, x) → x.2.2.2.2.1 = [] ∧ x.2.2.2.2.2.1 = []) → RSt h c rd B s → Ex (prog nb sa) k_RD_scan 48 [some (.ref rd), some (.int (nI m)), some (.int (nI i))] [] h (fun v h' => v = none ∧ RSt h' c rd B (p_rest B (p_tells B d s)) ∧ FR c rd h h')
  | 0, i, h, s, hi, hn, hs => by
    refine Ex_mv rfl rfl ?_; refine Ex_mv rfl rfl ?_; refine Ex_mv rfl rfl ?_; refine Ex_ift (nI_le (by omega) (by omega)) ?_
    exact RD_scan_rest hd hs hn
  | d + 1, i, h, s, hi, hn, hs => by
    obtain ⟨f, w0, a, x, hR, hC, ha, hf2, hm⟩ := id hs
    by_cases hf0 : f = 0
    · subst hf0
      obtain ⟨rfl, rfl, hT⟩ := hm.ok
      rw [show p_tells B (d + 1) (.inr (a, x)) = p_tells B d (p_tell B 7 (.inr (a, x))) from rfl]
      obtain ⟨_, h1, e1, rfl, R1, F1⟩ := c_RD_tell (nb := nb) (sa := sa) hd hs (k := 7) (by decide)
      have ih := RD_scan_loop hd hm8 d (i + 1) h1 _ (by omega) (fun a' x' e => by
        obtain ⟨b, y, e1, g5, g6⟩ := (Sm_tell B 7 _).p a' x' e
        rw [g5, g6]
        exact hn b y e1) R1
      refine Ex_mv rfl rfl ?_; refine Ex_mv rfl rfl ?_; refine Ex_mv rfl rfl ?_; refine Ex_iff (nI_ge (by omega) (by omega)) ?_; refine Ex_mv rfl rfl ?_; refine Ex_getf rfl (by assumption) rfl ?_; refine Ex_mv rfl rfl ?_; refine Ex_iff (by decide) ?_; refine Ex_mv rfl rfl ?_; refine Ex_mv rfl rfl ?_; refine Ex_invV rfl (by rfl) (by rfl) (by assumption) (by rfl) (e1) ?_; (first | refine Ex_incN rfl rfl ?_ | refine Ex_mv rfl rfl ?_); refine Ex_mv rfl rfl ?_
      refine Ex_mono ih ?_
      rintro v h' ⟨rfl, q1, q2⟩
      exact ⟨rfl, q1, F1.tr q2⟩
    · obtain ⟨w', rfl, rfl⟩ := hm.bad hf0
      refine Ex_mv rfl rfl ?_; refine Ex_mv rfl rfl ?_; refine Ex_mv rfl rfl ?_; refine Ex_iff (nI_ge (by omega) (by omega)) ?_; refine Ex_mv rfl rfl ?_; refine Ex_getf rfl (by assumption) rfl ?_; refine Ex_mv rfl rfl ?_; refine Ex_ift (nI_nz hf0 (by omega)) ?_
      exact RD_scan_rest hd hs hn
theorem c_RD_scan {h : Hp} {s : Rt} (hd : rd < c ∨ c + 11 ≤ rd) (hs : RSt h c rd B s) (hn : ∀ a x, s = .inr (a, x) → x.2.2.2.2.1 = [] ∧ x.2.2.2.2.2.1 = []) : EvQ (prog nb sa) m_RD_scan [.ref rd] h (fun v h' => v = none ∧ RSt h' c rd B (p_scan B s) ∧ FR c rd h h') := by
  obtain ⟨_, h1, e1, rfl, R1, F1⟩ := c_RD_magic (nb := nb) (sa := sa) hd hs
  obtain ⟨_, h2, e2, rfl, R2, F2⟩ := c_RD_skip (nb := nb) (sa := sa) hd R1 (k := 4) (by decide)
  obtain ⟨_, h3, e3, rfl, R3, F3⟩ := c_RD_entries (nb := nb) (sa := sa) hd R2
  obtain ⟨f, w, a, x, hR, hC, ha, hf, hm⟩ := id hs
  obtain ⟨f1, w1, a1, x1, hR1, -⟩ := id R1
  obtain ⟨f2, w2, a2, x2, hR2, -⟩ := id R2
  obtain ⟨f3, w3, a3, x3, hR3, hC3, ha3, hf3, hm3⟩ := id R3
  have hc3 := hC3.1
  have R4 := RSt.bh hd hR3 hC3 ha3 hf3 hm3
  obtain ⟨f4, w4, a4, x4, hR4, -⟩ := id R4
  obtain ⟨_, h5, e5, rfl, R5, F5⟩ := c_RD_skip (nb := nb) (sa := sa) hd R4 (k := 2) (by decide)
  obtain ⟨_, h6, e6, rfl, R6, F6⟩ := c_RD_tell (nb := nb) (sa := sa) hd R5 (k := 7) (by decide)
  obtain ⟨_, h7, e7, rfl, R7, F7⟩ := c_RD_classAbove (nb := nb) (sa := sa) hd R6
  obtain ⟨_, h8, e8, rfl, R8, F8⟩ := c_RD_many (nb := nb) (sa := sa) hd R7 (m := 8) (by decide)
  obtain ⟨f5, w5, a5, x5, hR5, -⟩ := id R5
  obtain ⟨f6, w6, a6, x6, hR6, -⟩ := id R6
  obtain ⟨f7, w7, a7, x7, hR7, -⟩ := id R7
  have hsp : SmP s (p_many B 8 (p_above B (p_tell B 7 (p_skip B 2 (p_bh (p_entries B (p_skip B 4 (p_mags B 4 0 s)))))))).2 := ((((Sp_mags B 4 0 s).tr (Sm_skip B 4 _).p).tr (Sp_entries B _)).tr (Sp_heads B _)).tr (Sm_many B 8 _).p
  have ih := RD_scan_loop (nb := nb) (sa := sa) (B := B) hd (p_many_le (B := B) 8 (p_above B (p_tell B 7 (p_skip B 2 (p_bh (p_entries B (p_skip B 4 (p_mags B 4 0 s)))))))) _ 0 h8 _ (Nat.zero_add _) (fun a' x' e => by
    obtain ⟨b, y, e1, g5, g6⟩ := hsp a' x' e
    rw [g5, g6]
    exact hn b y e1) R8
  refine EvQ_of k_RD_scan 3 [some (.ref rd), none, none] rfl (Nat.le_of_ble_eq_true rfl) rfl ?_
  refine Ex_mv rfl rfl ?_; refine Ex_invV rfl (by rfl) (by rfl) (by assumption) (by rfl) (e1) ?_; refine Ex_mv rfl rfl ?_; refine Ex_mv rfl rfl ?_; refine Ex_invV rfl (by rfl) (by rfl) (by assumption) (by rfl) (e2) ?_; refine Ex_mv rfl rfl ?_; refine Ex_invV rfl (by rfl) (by rfl) (by assumption) (by rfl) (e3) ?_; refine Ex_mv rfl rfl ?_; refine Ex_getf rfl (by assumption) rfl ?_; refine Ex_mv rfl rfl ?_; refine Ex_getf rfl (by assumption) rfl ?_; refine Ex_putf rfl (by assumption) rfl rfl ?_; refine Ex_mv rfl rfl ?_; refine Ex_mv rfl rfl ?_; refine Ex_invV rfl (by rfl) (by rfl) (by assumption) (by rfl) (e5) ?_; refine Ex_mv rfl rfl ?_; refine Ex_mv rfl rfl ?_; refine Ex_invV rfl (by rfl) (by rfl) (by assumption) (by rfl) (e6) ?_; refine Ex_mv rfl rfl ?_; refine Ex_invV rfl (by rfl) (by rfl) (by assumption) (by rfl) (e7) ?_; refine Ex_mv rfl rfl ?_; refine Ex_mv rfl rfl ?_; refine Ex_invV rfl (by rfl) (by rfl) (by assumption) (by rfl) (e8) ?_; refine Ex_mv rfl rfl ?_; refine Ex_mv rfl rfl ?_; refine Ex_mv rfl rfl ?_
  refine Ex_mono ih ?_
  rintro v h' ⟨rfl, q1, q2⟩
  exact ⟨rfl, q1, (((((((F1.tr F2).tr F3).tr FR.setc).tr F5).tr F6).tr F7).tr F8).tr q2⟩
end READER5
end
section
/-! Reader: what is told, sorts -/
def ckT (B : List Nat) (S : Nat → Nat) (n : Nat) : List (Nat × Nat) → Option (Nat × Nat)
  | [] => none
  | (p, w) :: T => if wrg B S n (b2 B p) w = 0 then ckT B S n T else some (wrg B S n (b2 B p) w, p)
def p_chk (B : List Nat) (s : Rt) : Rt := match s with
  | .inl e => .inl e
  | .inr (a, x) => match ckT B x.1 x.2.1 x.2.2.2.2.2.2 with
    | none => .inr (a, x)
    | some e => .inl e
/-- whether a text is a sort of a kind -/
def okS (k : Nat) (T : List Nat) : Bool := if k = 0 then decide (tyE T 0 = some T.length) else mthT T
def ckS (B : List Nat) (S : Nat → Nat) (n k : Nat) : List Nat → Option Nat
  | [] => none
  | m :: M => if okS k (tx B S n (b2 B (m + 4))) then ckS B S n k M else some (m + 4)
def p_srt (B : List Nat) (k : Nat) (s : Rt) : Rt := match s with
  | .inl e => .inl e
  | .inr (a, x) => match ckS B x.1 x.2.1 k (mK x.2.2.2.2.1 x.2.2.2.2.2.1 k) with
    | none => .inr (a, x)
    | some p => .inl (10, p)
section READER6
variable {nb sa : Nat} {c rd : Nat} {B : List Nat}
theorem wrg_le {S : Nat → Nat} {n i t : Nat} : wrg B S n i t ≤ 9 := by
  unfold wrg
  split
  · omega
  · split
    · omega
    · split <;> omega
theorem drop_pair {TL : List (Nat × Nat)} {t : Nat} (ht : t < TL.length) : TL.drop t = (tA TL t, tW TL t) :: TL.drop (t + 1) := by
  rw [List.drop_eq_getElem_cons ht]
  congr 1
  unfold tA tW
  simp [List.getD_eq_getElem?_getD, ht]
theorem RD_checkTells_stop {h : Hp} {e : Nat × Nat} (hs : RSt h c rd B (.inl e)) {t : Nat} (ht : t ≤ 200) {x2 x3 : Option Value} : Ex (prog nb sa) k_RD_checkTells 2 [some (.ref rd), some (.int (nI t)), x2, x3] [] h (fun v h' => v = none ∧ h' = h) := by
  obtain ⟨f, w, a, x, hR, hC, ha, hf, hm⟩ := id hs
  have hc := hC.1
  have hTl : x.2.2.2.2.2.2.length ≤ 200 := hC.2.2.2.2.2.2.2.2.2.2.1
  have hq : f ≠ 0 := by obtain ⟨q, -, q2⟩ := hm; omega
  by_cases hlt : t < x.2.2.2.2.2.2.length
  · refine Ex_mv rfl rfl ?_; refine Ex_mv rfl rfl ?_; refine Ex_getf rfl (by assumption) rfl ?_; refine Ex_invV rfl (by rfl) (by rfl) (by assumption) (by rfl) (c_CF_tellCount hC) ?_; refine Ex_mv rfl rfl ?_; refine Ex_iff (nI_ge (by omega) (by omega)) ?_; refine Ex_mv rfl rfl ?_; refine Ex_getf rfl (by assumption) rfl ?_; refine Ex_mv rfl rfl ?_; refine Ex_ift (nI_nz hq (by omega)) ?_
    exact Ex_rt rfl rfl ⟨rfl, rfl⟩
  · refine Ex_mv rfl rfl ?_; refine Ex_mv rfl rfl ?_; refine Ex_getf rfl (by assumption) rfl ?_; refine Ex_invV rfl (by rfl) (by rfl) (by assumption) (by rfl) (c_CF_tellCount hC) ?_; refine Ex_mv rfl rfl ?_; refine Ex_ift (nI_le (by omega) (by omega)) ?_
    exact Ex_rt rfl rfl ⟨rfl, rfl⟩
theorem RD_checkTells_loop (hd : rd < c ∨ c + 11 ≤ rd) {h : Hp} {a : Nat} {x : Fs} (hs : RSt h c rd B (.inr (a, x))) : ∀ (d t : Nat) (x2 x3 : Option Value), t + d = x.2.2.2.2.2.2.length → Ex (prog nb sa) k_RD_checkTells 2 [some (.ref rd), some (.int (nI t)), x2, x3] [] h (fun v h' => v = none ∧ RSt h' c rd B (match ckT B x.1 x.2.1 (x.2.2.2.2.2.2.drop t) with | none => .inr (a, x) | some e => .inl e) ∧ FR c rd h h')
  | 0, t, x2, x3, hd' => by
    obtain ⟨f, w, a', x', hR, hC, ha, hf, hm⟩ := id hs
    obtain ⟨rfl, rfl, rfl, rfl, hT⟩ := hm
    have hc := hC.1
    have hTl : x'.2.2.2.2.2.2.length ≤ 200 := hC.2.2.2.2.2.2.2.2.2.2.1
    rw [List.drop_eq_nil_of_le (by omega)]
    refine Ex_mv rfl rfl ?_; refine Ex_mv rfl rfl ?_; refine Ex_getf rfl (by assumption) rfl ?_; refine Ex_invV rfl (by rfl) (by rfl) (by assumption) (by rfl) (c_CF_tellCount hC) ?_; refine Ex_mv rfl rfl ?_; refine Ex_ift (nI_le (by omega) (by omega)) ?_
    refine Ex_rt rfl rfl ?_
    exact ⟨rfl, hs, FR.rf⟩
  | d + 1, t, x2, x3, hd' => by
    obtain ⟨f, w, a', x', hR, hC, ha, hf, hm⟩ := id hs
    obtain ⟨rfl, rfl, rfl, rfl, hT⟩ := hm
    have hc := hC.1
    have hp := (CF.po hC).1
    have hrow : RW h (c + 2) B := CF.row hC
    obtain ⟨fr, hr, hra, hB⟩ := id hrow
    have hTl : x'.2.2.2.2.2.2.length ≤ 200 := hC.2.2.2.2.2.2.2.2.2.2.1
    have g1 := tA_le hC t
    have g2 := tW_le hC t
    have g3 := b2_lt hrow.lt (tA x'.2.2.2.2.2.2 t)
    have g4 := wrg_le (B := B) (S := x'.1) (n := x'.2.1) (i := b2 B (tA x'.2.2.2.2.2.2 t)) (t := tW x'.2.2.2.2.2.2 t)
    rw [drop_pair (by omega), ckT]
    by_cases e : wrg B x'.1 x'.2.1 (b2 B (tA x'.2.2.2.2.2.2 t)) (tW x'.2.2.2.2.2.2 t) = 0
    · rw [if_pos e]
      refine Ex_mv rfl rfl ?_; refine Ex_mv rfl rfl ?_; refine Ex_getf rfl (by assumption) rfl ?_; refine Ex_invV rfl (by rfl) (by rfl) (by assumption) (by rfl) (c_CF_tellCount hC) ?_; refine Ex_mv rfl rfl ?_; refine Ex_iff (nI_ge (by omega) (by omega)) ?_; refine Ex_mv rfl rfl ?_; refine Ex_getf rfl (by assumption) rfl ?_; refine Ex_mv rfl rfl ?_; refine Ex_iff (by decide) ?_; refine Ex_mv rfl rfl ?_; refine Ex_getf rfl (by assumption) rfl ?_; refine Ex_mv rfl rfl ?_; refine Ex_invV rfl (by rfl) (by rfl) (by assumption) (by rfl) (c_CF_tellAt hC (by omega)) ?_; refine Ex_mv rfl rfl ?_; refine Ex_mv rfl rfl ?_; refine Ex_getf rfl (by assumption) rfl ?_; refine Ex_getf rfl (by assumption) rfl ?_; refine Ex_mv rfl rfl ?_; refine Ex_getf rfl (by assumption) rfl ?_; refine Ex_mv rfl rfl ?_; refine Ex_invV rfl (by rfl) (by rfl) (by assumption) (by rfl) (c_RW_two hrow (by omega)) ?_; refine Ex_mv rfl rfl ?_; refine Ex_getf rfl (by assumption) rfl ?_; refine Ex_mv rfl rfl ?_; refine Ex_invV rfl (by rfl) (by rfl) (by assumption) (by rfl) (c_CF_wanted hC (by omega)) ?_; refine Ex_invV rfl (by rfl) (by rfl) (by assumption) (by rfl) (c_PL_wrong (CF.po hC) (by omega) (by omega)) ?_; refine Ex_mv rfl rfl ?_; refine Ex_mv rfl rfl ?_; refine Ex_mv rfl rfl ?_; refine Ex_ift (by rw [e]; rfl) ?_; (first | refine Ex_incN rfl rfl ?_ | refine Ex_mv rfl rfl ?_); refine Ex_mv rfl rfl ?_
      exact RD_checkTells_loop hd hs d (t + 1) _ _ (by omega)
    · rw [if_neg e]
      obtain ⟨_, h1, e1, rfl, R1, F1⟩ := c_RD_fail (nb := nb) (sa := sa) hd hs (k := wrg B x'.1 x'.2.1 (b2 B (tA x'.2.2.2.2.2.2 t)) (tW x'.2.2.2.2.2.2 t)) (w := tA x'.2.2.2.2.2.2 t) e (by omega)
      refine Ex_mv rfl rfl ?_; refine Ex_mv rfl rfl ?_; refine Ex_getf rfl (by assumption) rfl ?_; refine Ex_invV rfl (by rfl) (by rfl) (by assumption) (by rfl) (c_CF_tellCount hC) ?_; refine Ex_mv rfl rfl ?_; refine Ex_iff (nI_ge (by omega) (by omega)) ?_; refine Ex_mv rfl rfl ?_; refine Ex_getf rfl (by assumption) rfl ?_; refine Ex_mv rfl rfl ?_; refine Ex_iff (by decide) ?_; refine Ex_mv rfl rfl ?_; refine Ex_getf rfl (by assumption) rfl ?_; refine Ex_mv rfl rfl ?_; refine Ex_invV rfl (by rfl) (by rfl) (by assumption) (by rfl) (c_CF_tellAt hC (by omega)) ?_; refine Ex_mv rfl rfl ?_; refine Ex_mv rfl rfl ?_; refine Ex_getf rfl (by assumption) rfl ?_; refine Ex_getf rfl (by assumption) rfl ?_; refine Ex_mv rfl rfl ?_; refine Ex_getf rfl (by assumption) rfl ?_; refine Ex_mv rfl rfl ?_; refine Ex_invV rfl (by rfl) (by rfl) (by assumption) (by rfl) (c_RW_two hrow (by omega)) ?_; refine Ex_mv rfl rfl ?_; refine Ex_getf rfl (by assumption) rfl ?_; refine Ex_mv rfl rfl ?_; refine Ex_invV rfl (by rfl) (by rfl) (by assumption) (by rfl) (c_CF_wanted hC (by omega)) ?_; refine Ex_invV rfl (by rfl) (by rfl) (by assumption) (by rfl) (c_PL_wrong (CF.po hC) (by omega) (by omega)) ?_; refine Ex_mv rfl rfl ?_; refine Ex_mv rfl rfl ?_; refine Ex_mv rfl rfl ?_; refine Ex_iff (nI_nz e (by omega)) ?_; refine Ex_mv rfl rfl ?_; refine Ex_mv rfl rfl ?_; refine Ex_mv rfl rfl ?_; refine Ex_invV rfl (by rfl) (by rfl) (by assumption) (by rfl) (e1) ?_; (first | refine Ex_incN rfl rfl ?_ | refine Ex_mv rfl rfl ?_); refine Ex_mv rfl rfl ?_
      refine Ex_mono (RD_checkTells_stop R1 (by omega)) ?_
      rintro v h' ⟨rfl, rfl⟩
      exact ⟨rfl, R1, F1⟩
theorem c_RD_checkTells {h : Hp} {s : Rt} (hd : rd < c ∨ c + 11 ≤ rd) (hs : RSt h c rd B s) : EvQ (prog nb sa) m_RD_checkTells [.ref rd] h (fun v h' => v = none ∧ RSt h' c rd B (p_chk B s) ∧ FR c rd h h') := by
  refine EvQ_of k_RD_checkTells 4 [some (.ref rd), none, none, none] rfl (Nat.le_of_ble_eq_true rfl) rfl ?_
  cases s with
  | inl e =>
    refine Ex_mv rfl rfl ?_; refine Ex_mv rfl rfl ?_
    refine Ex_mono (RD_checkTells_stop hs (by decide)) ?_
    rintro v h' ⟨rfl, rfl⟩
    exact ⟨rfl, hs, FR.rf⟩
  | inr e =>
    refine Ex_mv rfl rfl ?_; refine Ex_mv rfl rfl ?_
    exact RD_checkTells_loop hd hs e.2.2.2.2.2.2.2.length 0 _ _ (by omega)
theorem RD_checkSorts_stop {h : Hp} {e : Nat × Nat} (hs : RSt h c rd B (.inl e)) {k : Nat} (hk : k < 2) {t : Nat} (ht : t ≤ 200) {x3 x4 x5 x6 x7 : Option Value} : Ex (prog nb sa) k_RD_checkSorts 2 [some (.ref rd), some (.int (nI k)), some (.int (nI t)), x3, x4, x5, x6, x7] [] h (fun v h' => v = none ∧ h' = h) := by
  obtain ⟨f, w, a, x, hR, hC, ha, hf, hm⟩ := id hs
  have hc := hC.1
  have hTl := mK_len hC k
  have hq : f ≠ 0 := by obtain ⟨q, -, q2⟩ := hm; omega
  by_cases hlt : t < (mK x.2.2.2.2.1 x.2.2.2.2.2.1 k).length
  · refine Ex_mv rfl rfl ?_; refine Ex_mv rfl rfl ?_; refine Ex_getf rfl (by assumption) rfl ?_; refine Ex_mv rfl rfl ?_; refine Ex_invV rfl (by rfl) (by rfl) (by assumption) (by rfl) (c_CF_members hC hk) ?_; refine Ex_mv rfl rfl ?_; refine Ex_iff (nI_ge (by omega) (by omega)) ?_; refine Ex_mv rfl rfl ?_; refine Ex_getf rfl (by assumption) rfl ?_; refine Ex_mv rfl rfl ?_; refine Ex_ift (nI_nz hq (by omega)) ?_
    exact Ex_rt rfl rfl ⟨rfl, rfl⟩
  · refine Ex_mv rfl rfl ?_; refine Ex_mv rfl rfl ?_; refine Ex_getf rfl (by assumption) rfl ?_; refine Ex_mv rfl rfl ?_; refine Ex_invV rfl (by rfl) (by rfl) (by assumption) (by rfl) (c_CF_members hC hk) ?_; refine Ex_mv rfl rfl ?_; refine Ex_ift (nI_le (by omega) (by omega)) ?_
    exact Ex_rt rfl rfl ⟨rfl, rfl⟩
theorem drop_mem {M : List Nat} {t : Nat} (ht : t < M.length) : M.drop t = M.getD t 0 :: M.drop (t + 1) := by
  rw [List.drop_eq_getElem_cons ht]
  congr 1
  simp [List.getD_eq_getElem?_getD, ht]
theorem TI.of {h : Hp} {r : Nat} {S : Nat → Nat} {n i : Nat} (hR : RW h r B) (hV : TV B S n) (h1 : tg B S n i = 1) : TI h r B (tx B S n i) (st S n i + 3) ∧ (tx B S n i).length = tz B S n i := by
  have hb := hV i h1
  have hl : (tx B S n i).length = tz B S n i := sl_len hb
  exact ⟨⟨hR, by rw [hl]; rfl, by rw [hl]; exact hb⟩, hl⟩
theorem RD_checkSorts_loop (hd : rd < c ∨ c + 11 ≤ rd) {h : Hp} {a k : Nat} {x : Fs} (hk : k < 2) (hs : RSt h c rd B (.inr (a, x))) (hV : TV B x.1 x.2.1) (hM : ∀ m ∈ mK x.2.2.2.2.1 x.2.2.2.2.2.1 k, tg B x.1 x.2.1 (b2 B (m + 4)) = 1) : ∀ (d t : Nat) (x3 x4 x5 x6 x7 : Option Value), t + d = (mK x.2.2.2.2.1 x.2.2.2.2.2.1 k).length → Ex (prog nb sa) k_RD_checkSorts 2 [some (.ref rd), some (.int (nI k)), some (.int (nI t)), x3, x4, x5, x6, x7] [] h (fun v h' => v = none ∧ RSt h' c rd B (match ckS B x.1 x.2.1 k ((mK x.2.2.2.2.1 x.2.2.2.2.2.1 k).drop t) with | none => .inr (a, x) | some p => .inl (10, p)) ∧ FR c rd h h')
  | 0, t, x3, x4, x5, x6, x7, hd' => by
    obtain ⟨f, w, a', x', hR, hC, ha, hf, hm⟩ := id hs
    obtain ⟨rfl, rfl, rfl, rfl, hT⟩ := hm
    have hc := hC.1
    have hTl := mK_len hC k
    rw [List.drop_eq_nil_of_le (by omega)]
    refine Ex_mv rfl rfl ?_; refine Ex_mv rfl rfl ?_; refine Ex_getf rfl (by assumption) rfl ?_; refine Ex_mv rfl rfl ?_; refine Ex_invV rfl (by rfl) (by rfl) (by assumption) (by rfl) (c_CF_members hC hk) ?_; refine Ex_mv rfl rfl ?_; refine Ex_ift (nI_le (by omega) (by omega)) ?_
    refine Ex_rt rfl rfl ?_
    exact ⟨rfl, hs, FR.rf⟩
  | d + 1, t, x3, x4, x5, x6, x7, hd' => by
    obtain ⟨f, w, a', x', hR, hC, ha, hf, hm⟩ := id hs
    obtain ⟨rfl, rfl, rfl, rfl, hT⟩ := hm
    have hc := hC.1
    have hp := (CF.po hC).1
    have hrow : RW h (c + 2) B := CF.row hC
    obtain ⟨fr, hr, hra, hB⟩ := id hrow
    have hTl := mK_len hC k
    have g1 := mK_le hC k t
    have hmm := hM ((mK x'.2.2.2.2.1 x'.2.2.2.2.2.1 k).getD t 0) (by rw [List.getD_eq_getElem?_getD, List.getElem?_eq_getElem (by omega)]; exact List.getElem_mem (by omega))
    have hmO : mO (mK x'.2.2.2.2.1 x'.2.2.2.2.2.1 k) t = some ((mK x'.2.2.2.2.1 x'.2.2.2.2.2.1 k).getD t 0) := if_pos (by omega)
    rw [drop_mem (by omega), ckS]
    generalize (mK x'.2.2.2.2.1 x'.2.2.2.2.2.1 k).getD t 0 = m at *
    have g3 := b2_lt hrow.lt (m + 4)
    obtain ⟨tI, tl⟩ := TI.of hrow hV hmm
    have hend : st x'.1 x'.2.1 (b2 B (m + 4)) + 3 + tz B x'.1 x'.2.1 (b2 B (m + 4)) = st x'.1 x'.2.1 (b2 B (m + 4)) + 3 + (tx B x'.1 x'.2.1 (b2 B (m + 4))).length := by rw [tl]
    have e0 : Ev (prog nb sa) m_SO_isType [.ref (c + 2), .int (nI (st x'.1 x'.2.1 (b2 B (m + 4)) + 3)), .int (nI (st x'.1 x'.2.1 (b2 B (m + 4)) + 3 + tz B x'.1 x'.2.1 (b2 B (m + 4))))] h (some (.int (nI (if tyE (tx B x'.1 x'.2.1 (b2 B (m + 4))) 0 = some (tx B x'.1 x'.2.1 (b2 B (m + 4))).length then 1 else 0)))) h := by
      rw [hend]; exact c_SO_isType (nb := nb) (sa := sa) tI (p := 0) (Nat.zero_le _)
    have e1 : Ev (prog nb sa) m_SO_isMethod [.ref (c + 2), .int (nI (st x'.1 x'.2.1 (b2 B (m + 4)) + 3)), .int (nI (st x'.1 x'.2.1 (b2 B (m + 4)) + 3 + tz B x'.1 x'.2.1 (b2 B (m + 4))))] h (some (.int (nI (if mthT (tx B x'.1 x'.2.1 (b2 B (m + 4))) then 1 else 0)))) h := by
      rw [hend]; exact c_SO_isMethod (nb := nb) (sa := sa) tI
    have tail : ∀ (x4 x5 x6 : Option Value) (q : Bool), q = okS k (tx B x'.1 x'.2.1 (b2 B (m + 4))) → Ex (prog nb sa) k_RD_checkSorts 103 [some (.ref rd), some (.int (nI k)), some (.int (nI t)), some (.int (nI (m + 4))), x4, x5, x6, x7] [.int (nI (if q then 1 else 0))] h (fun v h' => v = none ∧ RSt h' c rd B (match (if okS k (tx B x'.1 x'.2.1 (b2 B (m + 4))) then ckS B x'.1 x'.2.1 k ((mK x'.2.2.2.2.1 x'.2.2.2.2.2.1 k).drop (t + 1)) else some (m + 4)) with | none => .inr (a', x') | some p => .inl (10, p)) ∧ FR c rd h h') := by
      intro x4 x5 x6 q hq
      cases q with
      | true =>
        rw [← hq]
        rw [if_pos rfl]
        refine Ex_mv rfl rfl ?_; refine Ex_mv rfl rfl ?_; refine Ex_mv rfl rfl ?_; refine Ex_ift (by decide) ?_; (first | refine Ex_incN rfl rfl ?_ | refine Ex_mv rfl rfl ?_); refine Ex_mv rfl rfl ?_
        rw [if_pos rfl]
        exact RD_checkSorts_loop hd hk hs hV hM d (t + 1) _ _ _ _ _ (by omega)
      | false =>
        rw [← hq]
        obtain ⟨_, h1, e1, rfl, R1, F1⟩ := c_RD_fail (nb := nb) (sa := sa) hd hs (k := 10) (w := m + 4) (by decide) (by decide)
        rw [if_neg Bool.false_ne_true]
        refine Ex_mv rfl rfl ?_; refine Ex_mv rfl rfl ?_; refine Ex_mv rfl rfl ?_; refine Ex_iff (by decide) ?_; refine Ex_mv rfl rfl ?_; refine Ex_mv rfl rfl ?_; refine Ex_mv rfl rfl ?_; refine Ex_invV rfl (by rfl) (by rfl) (by assumption) (by rfl) (e1) ?_; (first | refine Ex_incN rfl rfl ?_ | refine Ex_mv rfl rfl ?_); refine Ex_mv rfl rfl ?_
        rw [if_neg Bool.false_ne_true]
        refine Ex_mono (RD_checkSorts_stop R1 hk (by omega)) ?_
        rintro v h' ⟨rfl, rfl⟩
        exact ⟨rfl, R1, F1⟩
    have hk01 : k = 0 ∨ k = 1 := by omega
    rcases hk01 with rfl | rfl
    · refine Ex_mv rfl rfl ?_; refine Ex_mv rfl rfl ?_; refine Ex_getf rfl (by assumption) rfl ?_; refine Ex_mv rfl rfl ?_; refine Ex_invV rfl (by rfl) (by rfl) (by assumption) (by rfl) (c_CF_members hC hk) ?_; refine Ex_mv rfl rfl ?_; refine Ex_iff (nI_ge (by omega) (by omega)) ?_; refine Ex_mv rfl rfl ?_; refine Ex_getf rfl (by assumption) rfl ?_; refine Ex_mv rfl rfl ?_; refine Ex_iff (by decide) ?_; refine Ex_mv rfl rfl ?_; refine Ex_getf rfl (by assumption) rfl ?_; refine Ex_mv rfl rfl ?_; refine Ex_mv rfl rfl ?_; refine Ex_invV rfl (by rfl) (by rfl) (by assumption) (by rfl) (c_CF_memberAt hC hk (by omega)) ?_
      rw [hmO]
      simp only [oI, Nat.zero_add]
      refine Ex_mv rfl rfl ?_; (first | refine Ex_addN rfl ?_ | refine Ex_mv rfl rfl ?_); refine Ex_mv rfl rfl ?_; refine Ex_mv rfl rfl ?_; refine Ex_getf rfl (by assumption) rfl ?_; refine Ex_mv rfl rfl ?_; refine Ex_invV rfl (by rfl) (by rfl) (by assumption) (by rfl) (c_RW_two hrow (by omega)) ?_; refine Ex_mv rfl rfl ?_; refine Ex_mv rfl rfl ?_; refine Ex_getf rfl (by assumption) rfl ?_; refine Ex_getf rfl (by assumption) rfl ?_; refine Ex_mv rfl rfl ?_; refine Ex_invV rfl (by rfl) (by rfl) (by assumption) (by rfl) (c_PL_textAt (CF.po hC) (by omega)) ?_; refine Ex_mv rfl rfl ?_; refine Ex_mv rfl rfl ?_; refine Ex_mv rfl rfl ?_; refine Ex_getf rfl (by assumption) rfl ?_; refine Ex_getf rfl (by assumption) rfl ?_; refine Ex_mv rfl rfl ?_; refine Ex_invV rfl (by rfl) (by rfl) (by assumption) (by rfl) (c_PL_textSize (CF.po hC) (by omega)) ?_; (first | refine Ex_addN rfl ?_ | refine Ex_mv rfl rfl ?_); refine Ex_mv rfl rfl ?_; refine Ex_mv rfl rfl ?_; refine Ex_mv rfl rfl ?_; refine Ex_iff (by decide) ?_; refine Ex_mv rfl rfl ?_; refine Ex_getf rfl (by assumption) rfl ?_; refine Ex_mv rfl rfl ?_; refine Ex_mv rfl rfl ?_; refine Ex_inv rfl (by rfl) (by rfl) (by rfl) (e0) ?_; refine Ex_mv rfl rfl ?_
      have := tail (some (.int (nI (b2 B (m + 4))))) (some (.int (nI (st x'.1 x'.2.1 (b2 B (m + 4)) + 3)))) (some (.int (nI (st x'.1 x'.2.1 (b2 B (m + 4)) + 3 + tz B x'.1 x'.2.1 (b2 B (m + 4)))))) (decide (tyE (tx B x'.1 x'.2.1 (b2 B (m + 4))) 0 = some (tx B x'.1 x'.2.1 (b2 B (m + 4))).length)) rfl
      simp only [decide_eq_true_eq] at this
      exact this
    · refine Ex_mv rfl rfl ?_; refine Ex_mv rfl rfl ?_; refine Ex_getf rfl (by assumption) rfl ?_; refine Ex_mv rfl rfl ?_; refine Ex_invV rfl (by rfl) (by rfl) (by assumption) (by rfl) (c_CF_members hC hk) ?_; refine Ex_mv rfl rfl ?_; refine Ex_iff (nI_ge (by omega) (by omega)) ?_; refine Ex_mv rfl rfl ?_; refine Ex_getf rfl (by assumption) rfl ?_; refine Ex_mv rfl rfl ?_; refine Ex_iff (by decide) ?_; refine Ex_mv rfl rfl ?_; refine Ex_getf rfl (by assumption) rfl ?_; refine Ex_mv rfl rfl ?_; refine Ex_mv rfl rfl ?_; refine Ex_invV rfl (by rfl) (by rfl) (by assumption) (by rfl) (c_CF_memberAt hC hk (by omega)) ?_
      rw [hmO]
      simp only [oI, Nat.zero_add]
      refine Ex_mv rfl rfl ?_; (first | refine Ex_addN rfl ?_ | refine Ex_mv rfl rfl ?_); refine Ex_mv rfl rfl ?_; refine Ex_mv rfl rfl ?_; refine Ex_getf rfl (by assumption) rfl ?_; refine Ex_mv rfl rfl ?_; refine Ex_invV rfl (by rfl) (by rfl) (by assumption) (by rfl) (c_RW_two hrow (by omega)) ?_; refine Ex_mv rfl rfl ?_; refine Ex_mv rfl rfl ?_; refine Ex_getf rfl (by assumption) rfl ?_; refine Ex_getf rfl (by assumption) rfl ?_; refine Ex_mv rfl rfl ?_; refine Ex_invV rfl (by rfl) (by rfl) (by assumption) (by rfl) (c_PL_textAt (CF.po hC) (by omega)) ?_; refine Ex_mv rfl rfl ?_; refine Ex_mv rfl rfl ?_; refine Ex_mv rfl rfl ?_; refine Ex_getf rfl (by assumption) rfl ?_; refine Ex_getf rfl (by assumption) rfl ?_; refine Ex_mv rfl rfl ?_; refine Ex_invV rfl (by rfl) (by rfl) (by assumption) (by rfl) (c_PL_textSize (CF.po hC) (by omega)) ?_; (first | refine Ex_addN rfl ?_ | refine Ex_mv rfl rfl ?_); refine Ex_mv rfl rfl ?_; refine Ex_mv rfl rfl ?_; refine Ex_mv rfl rfl ?_; refine Ex_ift (by decide) ?_; refine Ex_mv rfl rfl ?_; refine Ex_getf rfl (by assumption) rfl ?_; refine Ex_mv rfl rfl ?_; refine Ex_mv rfl rfl ?_; refine Ex_inv rfl (by rfl) (by rfl) (by rfl) (e1) ?_
      exact tail (some (.int (nI (b2 B (m + 4))))) (some (.int (nI (st x'.1 x'.2.1 (b2 B (m + 4)) + 3)))) (some (.int (nI (st x'.1 x'.2.1 (b2 B (m + 4)) + 3 + tz B x'.1 x'.2.1 (b2 B (m + 4)))))) (mthT (tx B x'.1 x'.2.1 (b2 B (m + 4)))) rfl
theorem c_RD_checkSorts {h : Hp} {s : Rt} {k : Nat} (hd : rd < c ∨ c + 11 ≤ rd) (hk : k < 2) (hs : RSt h c rd B s) (hV : ∀ a x, s = .inr (a, x) → TV B x.1 x.2.1 ∧ ∀ m ∈ mK x.2.2.2.2.1 x.2.2.2.2.2.1 k, tg B x.1 x.2.1 (b2 B (m + 4)) = 1) : EvQ (prog nb sa) m_RD_checkSorts [.ref rd, .int (nI k)] h (fun v h' => v = none ∧ RSt h' c rd B (p_srt B k s) ∧ FR c rd h h') := by
  refine EvQ_of k_RD_checkSorts 8 [some (.ref rd), some (.int (nI k)), none, none, none, none, none, none] rfl (Nat.le_of_ble_eq_true rfl) rfl ?_
  cases s with
  | inl e =>
    refine Ex_mv rfl rfl ?_; refine Ex_mv rfl rfl ?_
    refine Ex_mono (RD_checkSorts_stop hs hk (by decide)) ?_
    rintro v h' ⟨rfl, rfl⟩
    exact ⟨rfl, hs, FR.rf⟩
  | inr e =>
    obtain ⟨v1, v2⟩ := hV e.1 e.2 rfl
    refine Ex_mv rfl rfl ?_; refine Ex_mv rfl rfl ?_
    exact RD_checkSorts_loop hd hk hs v1 v2 _ 0 _ _ _ _ _ (Nat.zero_add _)
theorem c_RD_init {h : Hp} {x : Fs} (hd : rd < c ∨ c + 11 ≤ rd) {z : List Value} (hz : z.length = 5) (hR : h.2.2 rd = some (true, .inr (3, z))) (hC : CFs h c B x) (hT : x.2.2.2.2.2.2 = []) : EvQ (prog nb sa) m_RD_init [.ref rd, .ref c] h (fun v h' => v = none ∧ RSt h' c rd B (.inr (0, x)) ∧ FR c rd h h') := by
  have hc := hC.1
  match z, hz with
  | [z0, z1, z2, z3, z4], _ =>
    have hcs : ∀ q1 q2 q3 q4, (hset (hset (hset (hset h rd q1) rd q2) rd q3) rd q4).2.2 c = _ := fun q1 q2 q3 q4 => hs_ne (by omega) (hs_ne (by omega) (hs_ne (by omega) (hs_ne (by omega) hc)))
    refine EvQ_of k_RD_init 2 [some (.ref rd), some (.ref c)] rfl (Nat.le_of_ble_eq_true rfl) rfl ?_
    refine Ex_mv rfl rfl ?_; refine Ex_mv rfl rfl ?_; refine Ex_mv rfl rfl ?_; refine Ex_mv rfl rfl ?_; refine Ex_putf rfl hR rfl rfl ?_; refine Ex_mv rfl rfl ?_; refine Ex_mv rfl rfl ?_; refine Ex_putf rfl hs_at rfl rfl ?_; refine Ex_mv rfl rfl ?_; refine Ex_mv rfl rfl ?_; refine Ex_putf rfl hs_at rfl rfl ?_; refine Ex_mv rfl rfl ?_; refine Ex_mv rfl rfl ?_; refine Ex_putf rfl hs_at rfl rfl ?_; refine Ex_mv rfl rfl ?_; refine Ex_mv rfl rfl ?_; refine Ex_getf rfl (hcs _ _ _ _) rfl ?_; refine Ex_putf rfl hs_at rfl rfl ?_
    refine Ex_rt rfl rfl ?_
    exact ⟨rfl, ⟨0, -1, 0, x, hs_at, ((((hC.set hd).set hd).set hd).set hd).set hd, Nat.zero_le _, by decide, rfl, rfl, rfl, rfl, by rw [hT]; exact Nat.le_refl _⟩, FR.ofR (((((FrI.rf.set (by omega) (by omega)).set (by omega) (by omega)).set (by omega) (by omega)).set (by omega) (by omega)).set (by omega) (by omega))⟩
end READER6
end
section
/-! what a file without a fault is -/
/-- attributes: their end, their tells, that they are there -/
def attE (B : List Nat) (q : Nat) : Nat := atP B (b2 B q) (q + 2)
def attT (B : List Nat) : Nat → Nat → List (Nat × Nat)
  | 0, _ => []
  | d + 1, p => (p, 1) :: attT B d (p + 6 + b4 B (p + 2))
def AttG (B : List Nat) : Nat → Nat → Prop
  | 0, p => p ≤ B.length
  | d + 1, p => p + 6 + b4 B (p + 2) ≤ B.length ∧ b4 B (p + 2) < 2 ^ 31 ∧ AttG B d (p + 6 + b4 B (p + 2))
/-- members -/
def memL (B : List Nat) : Nat → Nat → List Nat
  | 0, _ => []
  | d + 1, p => p :: memL B d (attE B (p + 6))
def memE (B : List Nat) : Nat → Nat → Nat
  | 0, p => p
  | d + 1, p => memE B d (attE B (p + 6))
def memT (B : List Nat) : Nat → Nat → List (Nat × Nat)
  | 0, _ => []
  | d + 1, p => (p + 2, 1) :: (p + 4, 1) :: (attT B (b2 B (p + 6)) (p + 8) ++ memT B d (attE B (p + 6)))
def MemG (B : List Nat) : Nat → Nat → Prop
  | 0, p => p ≤ B.length
  | d + 1, p => p + 8 ≤ B.length ∧ b2 B (p + 6) ≤ 6 ∧ AttG B (b2 B (p + 6)) (p + 8) ∧ MemG B d (attE B (p + 6))
def facT : Nat → Nat → List (Nat × Nat)
  | 0, _ => []
  | d + 1, p => (p, 7) :: facT d (p + 2)
/-- entries -/
def eSz (B : List Nat) (p : Nat) : Nat := if b1 B p = 1 then 3 + b2 B (p + 1) else if b1 B p = 5 ∨ b1 B p = 6 then 9 else if b1 B p = 7 ∨ b1 B p = 8 then 3 else 5
def eTl (B : List Nat) (p : Nat) : List (Nat × Nat) := if b1 B p = 7 ∨ b1 B p = 8 then [(p + 1, 1)] else if b1 B p = 12 then [(p + 1, 1), (p + 3, 1)] else if 9 ≤ b1 B p ∧ b1 B p ≤ 11 then [(p + 1, 7), (p + 3, 12)] else []
/-- sums, tells over places 1 to i -/
def zS (B : List Nat) (S : Nat → Nat) : Nat → Nat
  | 0 => 0
  | i + 1 => zS B S i + (if S (i + 1) = 0 then 0 else eSz B (S (i + 1)))
def zW (B : List Nat) (S : Nat → Nat) : Nat → Nat
  | 0 => 0
  | i + 1 => zW B S i + (if S (i + 1) = 0 then 0 else wst (b1 B (S (i + 1))))
def zT (B : List Nat) (S : Nat → Nat) : Nat → List (Nat × Nat)
  | 0 => []
  | i + 1 => zT B S i ++ (if S (i + 1) = 0 then [] else eTl B (S (i + 1)))
theorem zS_congr {B : List Nat} {S S' : Nat → Nat} : ∀ i, (∀ j, j ≤ i → S j = S' j) → zS B S i = zS B S' i
  | 0, _ => rfl
  | i + 1, h => by rw [zS, zS, zS_congr i (fun j hj => h j (by omega)), h (i + 1) (Nat.le_refl _)]
theorem zW_congr {B : List Nat} {S S' : Nat → Nat} : ∀ i, (∀ j, j ≤ i → S j = S' j) → zW B S i = zW B S' i
  | 0, _ => rfl
  | i + 1, h => by rw [zW, zW, zW_congr i (fun j hj => h j (by omega)), h (i + 1) (Nat.le_refl _)]
theorem zT_congr {B : List Nat} {S S' : Nat → Nat} : ∀ i, (∀ j, j ≤ i → S j = S' j) → zT B S i = zT B S' i
  | 0, _ => rfl
  | i + 1, h => by rw [zT, zT, zT_congr i (fun j hj => h j (by omega)), h (i + 1) (Nat.le_refl _)]
/-- entries up to place i (without it), ending at a -/
def EnG (B : List Nat) (S : Nat → Nat) (i a : Nat) : Prop := S 0 = 0 ∧ 10 ≤ a ∧ a ≤ B.length ∧ (∀ j, i ≤ j → S j = 0) ∧ (∀ j, S j ≠ 0 → 10 ≤ S j ∧ (b1 B (S j) = 1 ∨ 3 ≤ b1 B (S j) ∧ b1 B (S j) ≤ 12) ∧ S j + eSz B (S j) ≤ a) ∧ 10 + zS B S (i - 1) = a ∧ zW B S (i - 1) = i - 1 ∧ 1 ≤ i
/-- where fields, methods are counted -/
def fP (B : List Nat) (bh : Nat) : Nat := bh + 8 + 2 * b2 B (bh + 6)
def mP (B : List Nat) (bh : Nat) : Nat := memE B (b2 B (fP B bh)) (fP B bh + 2)
def aP (B : List Nat) (bh : Nat) : Nat := memE B (b2 B (mP B bh)) (mP B bh + 2)
/-- the tells behind the pool -/
def bT (B : List Nat) (bh : Nat) : List (Nat × Nat) := (bh + 2, 7) :: ((if b2 B (bh + 4) = 0 then [] else [(bh + 4, 7)]) ++ (facT (b2 B (bh + 6)) (bh + 8) ++ (memT B (b2 B (fP B bh)) (fP B bh + 2) ++ (memT B (b2 B (mP B bh)) (mP B bh + 2) ++ attT B (b2 B (aP B bh)) (aP B bh + 2)))))
/-- what a scan without a fault has found -/
def GF (B : List Nat) (x : Fs) : Prop :=
  EnG B x.1 x.2.1 x.2.2.1 ∧ x.2.1 = b2 B 8 ∧ x.2.1 ≤ 61 ∧ x.2.2.1 + 8 ≤ B.length ∧ b2 B (x.2.2.1 + 6) ≤ 8 ∧ fP B x.2.2.1 + 2 ≤ B.length ∧ b2 B (fP B x.2.2.1) ≤ 12 ∧ MemG B (b2 B (fP B x.2.2.1)) (fP B x.2.2.1 + 2) ∧ mP B x.2.2.1 + 2 ≤ B.length ∧ b2 B (mP B x.2.2.1) ≤ 12 ∧ MemG B (b2 B (mP B x.2.2.1)) (mP B x.2.2.1 + 2) ∧ aP B x.2.2.1 + 2 ≤ B.length ∧ b2 B (aP B x.2.2.1) ≤ 6 ∧ AttG B (b2 B (aP B x.2.2.1)) (aP B x.2.2.1 + 2) ∧ attE B (aP B x.2.2.1) = B.length ∧ x.2.2.2.1 = aP B x.2.2.1 ∧ x.2.2.2.2.1 = memL B (b2 B (fP B x.2.2.1)) (fP B x.2.2.1 + 2) ∧ x.2.2.2.2.2.1 = memL B (b2 B (mP B x.2.2.1)) (mP B x.2.2.1 + 2) ∧ x.2.2.2.2.2.2 = zT B x.1 (x.2.1 - 1) ++ bT B x.2.2.1
/-- tells put behind -/
def apT (x : Fs) (L : List (Nat × Nat)) : Fs := (x.1, x.2.1, x.2.2.1, x.2.2.2.1, x.2.2.2.2.1, x.2.2.2.2.2.1, x.2.2.2.2.2.2 ++ L)
theorem apT_nil (x : Fs) : apT x [] = x := by unfold apT; rw [List.append_nil]
theorem apT_apT (x : Fs) (L M : List (Nat × Nat)) : apT (apT x L) M = apT x (L ++ M) := by unfold apT; simp only [List.append_assoc]
theorem k_skip {B : List Nat} {k : Nat} {s : Rt} {a' : Nat} {x' : Fs} (e : p_skip B k s = .inr (a', x')) : ∃ a, s = .inr (a, x') ∧ a' = a + k ∧ a' ≤ B.length := by
  unfold p_skip at e
  split at e
  · cases e
  · split at e
    · simp only [Sum.inr.injEq, Prod.mk.injEq] at e
      obtain ⟨rfl, rfl⟩ := e
      exact ⟨_, rfl, rfl, by assumption⟩
    · cases e
theorem k_tell {B : List Nat} {k : Nat} {s : Rt} {a' : Nat} {x' : Fs} (e : p_tell B k s = .inr (a', x')) : ∃ a x, s = .inr (a, x) ∧ a' = a + 2 ∧ a' ≤ B.length ∧ x' = apT x [(a, k)] := by
  unfold p_tell at e
  split at e
  · cases e
  · split at e
    · simp only [Sum.inr.injEq, Prod.mk.injEq] at e
      obtain ⟨rfl, rfl⟩ := e
      exact ⟨_, _, rfl, rfl, by assumption, rfl⟩
    · cases e
theorem k_many {B : List Nat} {m : Nat} {s : Rt} {a' : Nat} {x' : Fs} (e : (p_many B m s).2 = .inr (a', x')) : ∃ a, s = .inr (a, x') ∧ a' = a + 2 ∧ a' ≤ B.length ∧ b2 B a ≤ m ∧ (p_many B m s).1 = b2 B a := by
  cases s with
  | inl q => cases e
  | inr q =>
    obtain ⟨a, x⟩ := q
    unfold p_many at e ⊢
    simp only at e ⊢
    split at e
    · next h1 =>
      split at e
      · next h2 =>
        simp only [Sum.inr.injEq, Prod.mk.injEq] at e
        obtain ⟨rfl, rfl⟩ := e
        refine ⟨a, rfl, rfl, h1, h2, ?_⟩
        rw [if_pos h1, if_pos h2]
      · cases e
    · cases e
theorem k_fail {k w : Nat} {s : Rt} {a' : Nat} {x' : Fs} (e : p_fail k w s = .inr (a', x')) : False := by
  unfold p_fail at e
  split at e <;> cases e
theorem b2_out {B : List Nat} {k : Nat} (h : B.length ≤ k + 1) : b2 B k = 0 := by unfold b2; rw [if_neg (by omega)]
/-- an entry -/
theorem k_entry {B : List Nat} {l : Bool} {a a' : Nat} {x x' : Fs} (e : p_entry B l a x = .inr (a', x')) : (b1 B a = 1 ∨ 3 ≤ b1 B a ∧ b1 B a ≤ 12) ∧ ¬ (l = true ∧ (b1 B a = 5 ∨ b1 B a = 6)) ∧ a' = a + eSz B a ∧ a' ≤ B.length ∧ x' = apT x (eTl B a) := by
  unfold p_entry at e
  split at e
  · exact absurd e (fun z => k_fail z)
  · next h0 =>
    have g1 : b1 B a = 1 ∨ 3 ≤ b1 B a ∧ b1 B a ≤ 12 := Decidable.not_not.mp fun z => h0 (Or.inl z)
    have g2 : ¬ (l = true ∧ (b1 B a = 5 ∨ b1 B a = 6)) := fun z => h0 (Or.inr z)
    refine ⟨g1, g2, ?_⟩
    unfold eSz eTl
    split at e
    · next t1 =>
      obtain ⟨a1, e1, r1, r2⟩ := k_skip e
      obtain ⟨a2, e2, r3, r4⟩ := k_skip e1
      obtain ⟨a3, e3, r5, r6⟩ := k_skip e2
      simp only [Sum.inr.injEq, Prod.mk.injEq] at e3
      obtain ⟨rfl, rfl⟩ := e3
      have hp : p_two B (p_skip B 1 (.inr (a, x))) = b2 B (a + 1) := by
        rw [e2]
        simp only [p_two]
        rw [if_pos (by omega), r5]
      rw [hp] at r1
      rw [if_pos t1, if_neg (by omega), if_neg (by omega), if_neg (by omega), apT_nil]
      exact ⟨by omega, r2, rfl⟩
    · next t1 =>
      rw [if_neg t1]
      split at e
      · next t2 =>
        obtain ⟨a1, e1, r1, r2⟩ := k_skip e
        obtain ⟨a2, e2, r3, r4⟩ := k_skip e1
        simp only [Sum.inr.injEq, Prod.mk.injEq] at e2
        obtain ⟨rfl, rfl⟩ := e2
        rw [if_neg (c := b1 B a = 7 ∨ b1 B a = 8) (by omega), if_neg (c := b1 B a = 7 ∨ b1 B a = 8) (by omega), if_neg (c := b1 B a = 12) (by omega), if_neg (c := 9 ≤ b1 B a ∧ b1 B a ≤ 11) (by omega), apT_nil]
        refine ⟨?_, r2, rfl⟩
        by_cases t3 : b1 B a = 5 ∨ b1 B a = 6
        · rw [if_pos t3] at r1; rw [if_pos t3]; omega
        · rw [if_neg t3] at r1; rw [if_neg t3]; omega
      · next t2 =>
        rw [if_neg (c := b1 B a = 5 ∨ b1 B a = 6) (by omega)]
        split at e
        · next t3 =>
          obtain ⟨a1, x1, e1, r1, r2, r3⟩ := k_tell e
          obtain ⟨a2, e2, r4, r5⟩ := k_skip e1
          simp only [Sum.inr.injEq, Prod.mk.injEq] at e2
          obtain ⟨rfl, rfl⟩ := e2
          rw [if_pos t3, if_pos t3, r3, r4]
          exact ⟨by omega, r2, rfl⟩
        · next t3 =>
          rw [if_neg t3, if_neg t3]
          obtain ⟨a1, x1, e1, r1, r2, r3⟩ := k_tell e
          obtain ⟨a2, x2, e2, r4, r5, r6⟩ := k_tell e1
          obtain ⟨a3, e3, r7, r8⟩ := k_skip e2
          simp only [Sum.inr.injEq, Prod.mk.injEq] at e3
          obtain ⟨rfl, rfl⟩ := e3
          by_cases t4 : b1 B a = 12
          · rw [if_pos t4] at r3 r6
            rw [if_pos t4, r3, r6, apT_apT, r4, r7]
            exact ⟨by omega, r2, rfl⟩
          · rw [if_neg t4] at r3 r6
            rw [if_neg t4, if_pos (by omega), r3, r6, apT_apT, r4, r7]
            exact ⟨by omega, r2, rfl⟩
end
section
/-! a scan without a fault -/
theorem eSz_pos (B : List Nat) (p : Nat) : 3 ≤ eSz B p := by
  unfold eSz
  split
  · omega
  · split
    · omega
    · split <;> omega
theorem k_ents {B : List Nat} {m : Nat} : ∀ (f i : Nat) (a a' : Nat) (x x' : Fs), p_ents B m f i (.inr (a, x)) = .inr (a', x') → m ≤ i + f → i ≤ m → x.2.1 = m → EnG B x.1 i a → EnG B x'.1 m a' ∧ x'.2.1 = m ∧ x'.2.2.1 = x.2.2.1 ∧ x'.2.2.2.1 = x.2.2.2.1 ∧ x'.2.2.2.2.1 = x.2.2.2.2.1 ∧ x'.2.2.2.2.2.1 = x.2.2.2.2.2.1 ∧ (x.2.2.2.2.2.2 = zT B x.1 (i - 1) → x'.2.2.2.2.2.2 = zT B x'.1 (m - 1))
  | 0, i, a, a', x, x', e, hf, hi, hn, hG => by
    simp only [p_ents, Sum.inr.injEq, Prod.mk.injEq] at e
    obtain ⟨rfl, rfl⟩ := e
    have : i = m := by omega
    subst this
    exact ⟨hG, hn, rfl, rfl, rfl, rfl, fun q => q⟩
  | f + 1, i, a, a', x, x', e, hf, hi, hn, hG => by
    unfold p_ents at e
    by_cases him : i < m
    · rw [if_pos him] at e
      simp only at e
      cases hq : p_entry B (decide (i + 1 = m)) a (setS x i a) with
      | inl q =>
        rw [hq, p_ents_bad] at e
        cases e
      | inr q =>
        obtain ⟨b, y⟩ := q
        rw [hq] at e
        obtain ⟨t1, t2, t3, t4, t5⟩ := k_entry hq
        obtain ⟨g0, g1, g2, g3, g4, g5, g6, g7⟩ := hG
        have hz := eSz_pos B a
        have hw := wst_b (b1 B a)
        have hi2 : i + wst (b1 B a) ≤ m := by
          unfold wst at hw ⊢
          split
          · next hwd =>
            have : ¬ (i + 1 = m) := fun z => t2 ⟨by simp [z], hwd⟩
            omega
          · omega
        have hy1 : y.1 = upS x.1 i a := by rw [t5]; rfl
        have hy2 : y.2.1 = m := by rw [t5]; exact hn
        have hup : ∀ j, j ≤ i - 1 → x.1 j = upS x.1 i a j := fun j hj => by unfold upS; rw [if_neg (by omega)]
        have hui : upS x.1 i a i = a := by unfold upS; rw [if_pos rfl]
        have hun : ∀ j, i < j → upS x.1 i a j = 0 := fun j hj => by unfold upS; rw [if_neg (by omega)]; exact g3 j (by omega)
        have sw : ∀ (Z : Nat → Nat) (c : Nat), (∀ j, Z (j + 1) = Z j + (if upS x.1 i a (j + 1) = 0 then 0 else c)) → True := fun _ _ _ => trivial
        have hS1 : zS B (upS x.1 i a) (i + wst (b1 B a) - 1) = zS B x.1 (i - 1) + eSz B a := by
          have hi1 : i = (i - 1) + 1 := by omega
          have base : zS B (upS x.1 i a) i = zS B x.1 (i - 1) + eSz B a := by
            conv => lhs; rw [hi1]
            rw [zS, ← hi1, hui, if_neg (by omega), ← zS_congr (i - 1) hup]
          unfold wst
          split
          · rw [show i + 2 - 1 = i + 1 by omega, zS, base, hun (i + 1) (by omega)]; rfl
          · rw [show i + 1 - 1 = i by omega, base]
        have hW1 : zW B (upS x.1 i a) (i + wst (b1 B a) - 1) = zW B x.1 (i - 1) + wst (b1 B a) := by
          have hi1 : i = (i - 1) + 1 := by omega
          have base : zW B (upS x.1 i a) i = zW B x.1 (i - 1) + wst (b1 B a) := by
            conv => lhs; rw [hi1]
            rw [zW, ← hi1, hui, if_neg (by omega), ← zW_congr (i - 1) hup]
          by_cases hwd : b1 B a = 5 ∨ b1 B a = 6
          · have ew : wst (b1 B a) = 2 := if_pos hwd
            rw [ew] at base ⊢
            rw [show i + 2 - 1 = i + 1 by omega, zW, base, hun (i + 1) (by omega)]; rfl
          · have ew : wst (b1 B a) = 1 := if_neg hwd
            rw [ew] at base ⊢
            rw [show i + 1 - 1 = i by omega, base]
        have hT1 : zT B (upS x.1 i a) (i + wst (b1 B a) - 1) = zT B x.1 (i - 1) ++ eTl B a := by
          have hi1 : i = (i - 1) + 1 := by omega
          have base : zT B (upS x.1 i a) i = zT B x.1 (i - 1) ++ eTl B a := by
            conv => lhs; rw [hi1]
            rw [zT, ← hi1, hui, if_neg (by omega), ← zT_congr (i - 1) hup]
          unfold wst
          split
          · rw [show i + 2 - 1 = i + 1 by omega, zT, base, hun (i + 1) (by omega)]; simp
          · rw [show i + 1 - 1 = i by omega, base]
        have hG2 : EnG B y.1 (i + wst (b1 B a)) b := by
          rw [hy1]
          refine ⟨?_, by omega, t4, fun j hj => hun j (by omega), fun j hj => ?_, by rw [hS1]; omega, by rw [hW1]; omega, by omega⟩
          · unfold upS; rw [if_neg (by omega)]; exact g0
          · by_cases hji : j = i
            · subst hji
              rw [hui]
              exact ⟨g1, t1, by omega⟩
            · have hq : upS x.1 i a j = x.1 j := by unfold upS; rw [if_neg hji]
              rw [hq] at hj ⊢
              obtain ⟨r1, r2, r3⟩ := g4 j hj
              exact ⟨r1, r2, by omega⟩
        obtain ⟨r1, r2, r3, r4, r5, r6, r7⟩ := k_ents f _ b a' y x' e (by omega) hi2 hy2 hG2
        refine ⟨r1, r2, ?_, ?_, ?_, ?_, fun hq => r7 ?_⟩
        · rw [r3, t5]; rfl
        · rw [r4, t5]; rfl
        · rw [r5, t5]; rfl
        · rw [r6, t5]; rfl
        · rw [hy1, hT1, t5, ← hq]; rfl
    · rw [if_neg him] at e
      simp only [Sum.inr.injEq, Prod.mk.injEq] at e
      obtain ⟨rfl, rfl⟩ := e
      have : i = m := by omega
      subst this
      exact ⟨hG, hn, rfl, rfl, rfl, rfl, fun q => q⟩
theorem k_att {B : List Nat} {s : Rt} {a' : Nat} {x' : Fs} (e : p_att B s = .inr (a', x')) : ∃ a x, s = .inr (a, x) ∧ a' = a + 6 + b4 B (a + 2) ∧ a' ≤ B.length ∧ b4 B (a + 2) < 2 ^ 31 ∧ x' = apT x [(a, 1)] := by
  unfold p_att at e
  split at e
  · cases e
  · next a1 x1 e1 =>
    obtain ⟨a2, e2, r1, r2⟩ := k_skip e1
    obtain ⟨a3, x3, e3, r3, r4, r5⟩ := k_tell e2
    split at e
    · cases e
    · next hn =>
      obtain ⟨a4, e4, r6, r7⟩ := k_skip e
      simp only [Sum.inr.injEq, Prod.mk.injEq] at e4
      obtain ⟨rfl, rfl⟩ := e4
      have : a1 - 4 = a3 + 2 := by omega
      rw [this] at r6 hn
      exact ⟨a3, x3, e3, by omega, r7, by omega, r5⟩
theorem k_atts {B : List Nat} : ∀ (d : Nat) (a a' : Nat) (x x' : Fs), a ≤ B.length → p_atts B d (.inr (a, x)) = .inr (a', x') → a' = atP B d a ∧ AttG B d a ∧ x' = apT x (attT B d a)
  | 0, a, a', x, x', ha, e => by
    simp only [p_atts, Sum.inr.injEq, Prod.mk.injEq] at e
    obtain ⟨rfl, rfl⟩ := e
    exact ⟨rfl, ha, (apT_nil _).symm⟩
  | d + 1, a, a', x, x', ha, e => by
    rw [show p_atts B (d + 1) (.inr (a, x)) = p_atts B d (p_att B (.inr (a, x))) from rfl] at e
    cases hq : p_att B (.inr (a, x)) with
    | inl q =>
      rw [hq] at e
      cases d <;> cases e
    | inr q =>
      obtain ⟨b, y⟩ := q
      rw [hq] at e
      obtain ⟨a1, x1, e1, r1, r2, r3, r4⟩ := k_att hq
      simp only [Sum.inr.injEq, Prod.mk.injEq] at e1
      obtain ⟨rfl, rfl⟩ := e1
      obtain ⟨q1, q2, q3⟩ := k_atts d b a' y x' r2 e
      rw [r1] at q1 q2 q3 r2
      exact ⟨q1, ⟨r2, r3, q2⟩, by rw [q3, r4, apT_apT]; rfl⟩
theorem p_atts_bad (B : List Nat) (e : Nat × Nat) : ∀ d, p_atts B d (.inl e) = .inl e
  | 0 => rfl
  | _ + 1 => rfl
theorem k_attrs {B : List Nat} {s : Rt} {a' : Nat} {x' : Fs} (e : p_attrs B s = .inr (a', x')) : ∃ a x, s = .inr (a, x) ∧ a + 2 ≤ B.length ∧ b2 B a ≤ 6 ∧ AttG B (b2 B a) (a + 2) ∧ a' = attE B a ∧ x' = apT x (attT B (b2 B a) (a + 2)) := by
  unfold p_attrs at e
  cases hq : (p_many B 6 s).2 with
  | inl q => rw [hq, p_atts_bad] at e; cases e
  | inr q =>
    obtain ⟨b, y⟩ := q
    rw [hq] at e
    obtain ⟨a, e1, r1, r2, r3, r4⟩ := k_many hq
    rw [r4] at e
    subst r1
    obtain ⟨q1, q2, q3⟩ := k_atts _ _ _ _ _ r2 e
    exact ⟨a, y, e1, r2, r3, q2, q1, q3⟩
/-- members put behind -/
def apM (x : Fs) (k : Nat) (L : List Nat) : Fs := (x.1, x.2.1, x.2.2.1, x.2.2.2.1, (if k = 0 then x.2.2.2.2.1 ++ L else x.2.2.2.2.1), (if k = 0 then x.2.2.2.2.2.1 else x.2.2.2.2.2.1 ++ L), x.2.2.2.2.2.2)
theorem apM_nil (x : Fs) (k : Nat) : apM x k [] = x := by
  unfold apM
  simp only [List.append_nil, ite_self]
theorem AttG_le {B : List Nat} : ∀ d p, AttG B d p → atP B d p ≤ B.length ∧ p ≤ B.length
  | 0, p, h => ⟨h, h⟩
  | d + 1, p, h => by
    obtain ⟨h1, h2, h3⟩ := h
    have := AttG_le d _ h3
    exact ⟨this.1, by omega⟩
theorem k_mems {B : List Nat} {k : Nat} : ∀ (d : Nat) (a a' : Nat) (x x' : Fs), a ≤ B.length → p_mems B k d (.inr (a, x)) = .inr (a', x') → a' = memE B d a ∧ MemG B d a ∧ x' = apT (apM x k (memL B d a)) (memT B d a)
  | 0, a, a', x, x', ha, e => by
    simp only [p_mems, Sum.inr.injEq, Prod.mk.injEq] at e
    obtain ⟨rfl, rfl⟩ := e
    exact ⟨rfl, ha, by rw [memL, memT, apM_nil, apT_nil]⟩
  | d + 1, a, a', x, x', ha, e => by
    rw [show p_mems B k (d + 1) (.inr (a, x)) = p_mems B k d (p_mem B k a x) from rfl] at e
    cases hq : p_mem B k a x with
    | inl q =>
      rw [hq] at e
      cases d <;> cases e
    | inr q =>
      obtain ⟨b, y⟩ := q
      rw [hq] at e
      obtain ⟨a1, x1, e1, r1, r2, r3, r4, r5⟩ := k_attrs hq
      obtain ⟨a2, x2, e2, t1, t2, t3⟩ := k_tell e1
      obtain ⟨a3, x3, e3, t4, t5, t6⟩ := k_tell e2
      obtain ⟨a4, e4, t7, t8⟩ := k_skip e3
      simp only [Sum.inr.injEq, Prod.mk.injEq] at e4
      obtain ⟨rfl, rfl⟩ := e4
      have ea : a1 = a + 6 := by omega
      subst ea
      have hb : b ≤ B.length := by rw [r4]; exact (AttG_le _ _ r3).1
      obtain ⟨q1, q2, q3⟩ := k_mems d b a' y x' hb e
      rw [r4] at q1 q2 q3
      refine ⟨q1, ⟨r1, r2, r3, q2⟩, ?_⟩
      rw [q3, r5, t3, t6, show a2 = a + 4 by omega, show a3 = a + 2 by omega]
      rw [memL, memT]
      unfold apT apM addM
      by_cases hk : k = 0
      · simp [hk]
      · simp [hk]
theorem p_mems_bad (B : List Nat) (k : Nat) (e : Nat × Nat) : ∀ d, p_mems B k d (.inl e) = .inl e
  | 0 => rfl
  | _ + 1 => rfl
theorem k_members {B : List Nat} {k : Nat} {s : Rt} {a' : Nat} {x' : Fs} (e : p_members B k s = .inr (a', x')) : ∃ a x, s = .inr (a, x) ∧ a + 2 ≤ B.length ∧ b2 B a ≤ 12 ∧ MemG B (b2 B a) (a + 2) ∧ a' = memE B (b2 B a) (a + 2) ∧ x' = apT (apM x k (memL B (b2 B a) (a + 2))) (memT B (b2 B a) (a + 2)) := by
  unfold p_members at e
  cases hq : (p_many B 12 s).2 with
  | inl q => rw [hq, p_mems_bad] at e; cases e
  | inr q =>
    obtain ⟨b, y⟩ := q
    rw [hq] at e
    obtain ⟨a, e1, r1, r2, r3, r4⟩ := k_many hq
    rw [r4] at e
    subst r1
    obtain ⟨q1, q2, q3⟩ := k_mems _ _ _ _ _ r2 e
    exact ⟨a, y, e1, r2, r3, q2, q1, q3⟩
theorem p_tells_bad (B : List Nat) (e : Nat × Nat) : ∀ d, p_tells B d (.inl e) = .inl e
  | 0 => rfl
  | _ + 1 => rfl
theorem k_tells {B : List Nat} : ∀ (d : Nat) (a a' : Nat) (x x' : Fs), a ≤ B.length → p_tells B d (.inr (a, x)) = .inr (a', x') → a' = a + 2 * d ∧ a' ≤ B.length ∧ x' = apT x (facT d a)
  | 0, a, a', x, x', ha, e => by
    simp only [p_tells, Sum.inr.injEq, Prod.mk.injEq] at e
    obtain ⟨rfl, rfl⟩ := e
    exact ⟨rfl, ha, (apT_nil _).symm⟩
  | d + 1, a, a', x, x', ha, e => by
    rw [show p_tells B (d + 1) (.inr (a, x)) = p_tells B d (p_tell B 7 (.inr (a, x))) from rfl] at e
    cases hq : p_tell B 7 (.inr (a, x)) with
    | inl q =>
      rw [hq, p_tells_bad] at e; cases e
    | inr q =>
      obtain ⟨b, y⟩ := q
      rw [hq] at e
      obtain ⟨a1, x1, e1, r1, r2, r3⟩ := k_tell hq
      simp only [Sum.inr.injEq, Prod.mk.injEq] at e1
      obtain ⟨rfl, rfl⟩ := e1
      obtain ⟨q1, q2, q3⟩ := k_tells d b a' y x' r2 e
      exact ⟨by omega, q2, by rw [q3, r3, apT_apT, r1]; rfl⟩
theorem k_above {B : List Nat} {s : Rt} {a' : Nat} {x' : Fs} (e : p_above B s = .inr (a', x')) : ∃ a x, s = .inr (a, x) ∧ a' = a + 2 ∧ a' ≤ B.length ∧ x' = apT x (if b2 B a = 0 then [] else [(a, 7)]) := by
  unfold p_above at e
  split at e
  · cases e
  · next a x =>
    split at e
    · next h0 =>
      obtain ⟨a1, e1, r1, r2⟩ := k_skip e
      simp only [Sum.inr.injEq, Prod.mk.injEq] at e1
      obtain ⟨rfl, rfl⟩ := e1
      exact ⟨a, x, rfl, r1, r2, by rw [if_pos h0, apT_nil]⟩
    · next h0 =>
      obtain ⟨a1, x1, e1, r1, r2, r3⟩ := k_tell e
      simp only [Sum.inr.injEq, Prod.mk.injEq] at e1
      obtain ⟨rfl, rfl⟩ := e1
      exact ⟨a, x, rfl, r1, r2, by rw [if_neg h0, r3]⟩
/-- how a reader begins -/
def x00 : Fs := (fun _ => 0, 0, 0, 0, [], [], [])
theorem k_mags {B : List Nat} : ∀ (d i : Nat) (s : Rt) (a' : Nat) (x' : Fs), p_mags B d i s = .inr (a', x') → ∃ a, s = .inr (a, x') ∧ a' = a + d ∧ (a ≤ B.length → a' ≤ B.length)
  | 0, i, s, a', x', e => ⟨a', e, rfl, fun q => q⟩
  | d + 1, i, s, a', x', e => by
    obtain ⟨a, e1, r1, r2⟩ := k_mags d (i + 1) _ a' x' e
    unfold p_mag at e1
    split at e1
    · obtain ⟨a1, e2, r3, r4⟩ := k_skip e1
      exact ⟨a1, e2, by omega, fun _ => r2 (by omega)⟩
    · exact absurd e1 (fun z => k_fail z)
theorem k_entries {B : List Nat} {s : Rt} {a' : Nat} {x' : Fs} (e : p_entries B s = .inr (a', x')) : ∃ a x, s = .inr (a, x) ∧ a + 2 ≤ B.length ∧ b2 B a ≤ 61 ∧ (a = 8 → EnG B x'.1 (b2 B a) a') ∧ x'.2.1 = b2 B a ∧ x'.2.2.1 = x.2.2.1 ∧ x'.2.2.2.1 = x.2.2.2.1 ∧ x'.2.2.2.2.1 = x.2.2.2.2.1 ∧ x'.2.2.2.2.2.1 = x.2.2.2.2.2.1 ∧ (x.2.2.2.2.2.2 = [] → a = 8 → x'.2.2.2.2.2.2 = zT B x'.1 (b2 B a - 1)) := by
  unfold p_entries at e
  split at e
  · cases e
  · next a x =>
    cases hq : (p_many B 61 (.inr (a, x))).2 with
    | inl q =>
      rw [hq] at e
      split at e
      · simp only [p_fail, p_begin, p_ents_bad] at e; cases e
      · simp only [p_begin, p_ents_bad] at e; cases e
    | inr q =>
      obtain ⟨b, y⟩ := q
      obtain ⟨a1, e1, r1, r2, r3, r4⟩ := k_many hq
      simp only [Sum.inr.injEq, Prod.mk.injEq] at e1
      obtain ⟨rfl, rfl⟩ := e1
      rw [hq, r4] at e
      by_cases hz : b2 B a = 0
      · rw [if_pos hz] at e
        simp only [p_fail, p_begin, p_ents_bad] at e; cases e
      · rw [if_neg hz] at e
        simp only [p_begin] at e
        refine ⟨a, x, rfl, by omega, r3, ?_⟩
        by_cases ha : a = 8
        · have hG : EnG B (fun _ => 0) 1 b := ⟨rfl, by omega, r2, fun _ _ => rfl, fun j hj => absurd rfl hj, by show 10 + 0 = b; omega, rfl, Nat.le_refl _⟩
          obtain ⟨g1, g2, g3, g4, g5, g6, g7⟩ := k_ents (b2 B a) 1 b a' (fun _ => 0, b2 B a, x.2.2) x' e (by omega) (by omega) rfl hG
          exact ⟨fun _ => g1, g2, g3, g4, g5, g6, fun q _ => g7 q⟩
        · have hn : ∀ (f i : Nat) (c : Nat) (y x' : Fs) (a' : Nat), p_ents B (b2 B a) f i (.inr (c, y)) = .inr (a', x') → x'.2.1 = y.2.1 ∧ x'.2.2.1 = y.2.2.1 ∧ x'.2.2.2.1 = y.2.2.2.1 ∧ x'.2.2.2.2.1 = y.2.2.2.2.1 ∧ x'.2.2.2.2.2.1 = y.2.2.2.2.2.1 := by
            intro f
            induction f with
            | zero => intro i c y x' a' e; simp only [p_ents, Sum.inr.injEq, Prod.mk.injEq] at e; obtain ⟨rfl, rfl⟩ := e; exact ⟨rfl, rfl, rfl, rfl, rfl⟩
            | succ f ih =>
              intro i c y x' a' e
              unfold p_ents at e
              split at e
              · simp only at e
                cases hq : p_entry B (decide (i + 1 = b2 B a)) c (setS y i c) with
                | inl q => rw [hq, p_ents_bad] at e; cases e
                | inr q =>
                  obtain ⟨b', y'⟩ := q
                  rw [hq] at e
                  obtain ⟨-, -, -, -, t5⟩ := k_entry hq
                  obtain ⟨g2, g3, g4, g5, g6⟩ := ih _ _ _ _ _ e
                  rw [t5] at g2 g3 g4 g5 g6
                  exact ⟨g2, g3, g4, g5, g6⟩
              · simp only [Sum.inr.injEq, Prod.mk.injEq] at e; obtain ⟨rfl, rfl⟩ := e; exact ⟨rfl, rfl, rfl, rfl, rfl⟩
          obtain ⟨g2, g3, g4, g5, g6⟩ := hn _ _ _ _ _ _ e
          exact ⟨fun q => absurd q ha, g2, g3, g4, g5, g6, fun _ q => absurd q ha⟩
theorem scan_ok {B : List Nat} {a' : Nat} {x' : Fs} (e : p_scan B (.inr (0, x00)) = .inr (a', x')) : GF B x' ∧ a' = B.length := by
  unfold p_scan p_rest at e
  unfold p_end at e
  split at e
  · cases e
  · next a1 x1 e1 =>
    split at e
    · cases e
    · next hend =>
      simp only [Sum.inr.injEq, Prod.mk.injEq] at e
      obtain ⟨rfl, rfl⟩ := e
      obtain ⟨a2, x2, e2, r1, r2, r3, r4, r5⟩ := k_attrs e1
      unfold p_aa at e2
      split at e2
      · cases e2
      · next a3 x3 e3 =>
        simp only [Sum.inr.injEq, Prod.mk.injEq] at e2
        obtain ⟨rfl, rfl⟩ := e2
        obtain ⟨a4, x4, e4, t1, t2, t3, t4, t5⟩ := k_members e3
        obtain ⟨a5, x5, e5, u1, u2, u3, u4, u5⟩ := k_members e4
        generalize hS7 : p_heads B (p_entries B (p_skip B 4 (p_mags B 4 0 (.inr (0, x00))))) = s7 at e5
        cases hq : (p_many B 8 s7).2 with
        | inl q => rw [hq, p_tells_bad] at e5; cases e5
        | inr q =>
          obtain ⟨b, y⟩ := q
          rw [hq] at e5
          obtain ⟨a6, e6, v1, v2, v3, v4⟩ := k_many hq
          rw [v4] at e5
          obtain ⟨w1, w2, w3⟩ := k_tells _ _ _ _ _ v2 e5
          rw [← hS7] at e6
          unfold p_heads at e6
          obtain ⟨a7, x7, e7, y1, y2, y3⟩ := k_above e6
          obtain ⟨a8, x8, e8, y4, y5, y6⟩ := k_tell e7
          obtain ⟨a9, e9, y7, y8⟩ := k_skip e8
          unfold p_bh at e9
          split at e9
          · cases e9
          · next a10 x10 e10 =>
            simp only [Sum.inr.injEq, Prod.mk.injEq] at e9
            obtain ⟨rfl, rfl⟩ := e9
            obtain ⟨a11, x11, e11, z1, z2, z3, z4, z5, z6, z7, z8, z9⟩ := k_entries e10
            obtain ⟨a12, e12, o1, o2⟩ := k_skip e11
            obtain ⟨a13, e13, o3, o4⟩ := k_mags _ _ _ _ _ e12
            simp only [Sum.inr.injEq, Prod.mk.injEq] at e13
            obtain ⟨rfl, rfl⟩ := e13
            have ha8 : a11 = 8 := by omega
            subst ha8
            have hG := z3 rfl
            have hTl := z9 rfl rfl
            have q6 : a6 = a10 + 6 := by omega
            have q7 : a7 = a10 + 4 := by omega
            have q8 : a8 = a10 + 2 := by omega
            subst q6
            rw [q7] at y3
            rw [q8] at y6
            subst v1
            have e5p : a5 = fP B a10 := by unfold fP; omega
            subst e5p
            have e4p : a4 = mP B a10 := u4
            subst e4p
            have e3p : a3 = aP B a10 := t4
            have k1 : x10.2.2.2.2.1 = [] := z7
            have k2 : x10.2.2.2.2.2.1 = [] := z8
            have hx1 : x1 = (x10.1, x10.2.1, a10, aP B a10, memL B (b2 B (fP B a10)) (fP B a10 + 2), memL B (b2 B (mP B a10)) (mP B a10 + 2), zT B x10.1 (x10.2.1 - 1) ++ bT B a10) := by
              rw [r5, t5, u5, w3, y3, y6, e3p]
              simp only [apT, apM, if_true, Nat.one_ne_zero, if_false, k1, k2, List.nil_append, hTl, z4, bT, List.append_assoc, List.cons_append]
            rw [hx1]
            rw [e3p] at r1 r2 r3 r4
            have hbb : b2 B 8 = x10.2.1 := z4.symm
            refine ⟨⟨?_, z4, by rw [z4]; exact z2, by show a10 + 8 ≤ B.length; omega, v3, u1, u2, u3, t1, t2, t3, r1, r2, r3, ?_, rfl, rfl, rfl, rfl⟩, ?_⟩
            · rw [hbb] at hG; exact hG
            · have := (AttG_le _ _ r3).1
              show attE B (aP B a10) = B.length
              rw [r4] at hend
              have h2 : attE B (aP B a10) ≤ B.length := this
              omega
            · have := (AttG_le _ _ r3).1
              have h2 : attE B (aP B a10) ≤ B.length := this
              omega
end
section
/-! orders -/
def Gd3 {α : Type} (f : α → α → Int32) : Prop := (∀ x y, f x y = -1 ∨ f x y = nI 0 ∨ f x y = nI 1) ∧ (∀ x y, f x y = nI 0 ↔ x = y) ∧ (∀ x y, f x y = -1 ↔ f y x = nI 1) ∧ ∀ x y z, f x y = -1 → f y z = -1 → f x z = -1
def lx3 {α β : Type} (f : α → α → Int32) (g : β → β → Int32) (p q : α × β) : Int32 := if f p.1 q.1 ≠ nI 0 then f p.1 q.1 else g p.2 q.2
theorem lx3_good {α β : Type} {f : α → α → Int32} {g : β → β → Int32} (hf : Gd3 f) (hg : Gd3 g) : Gd3 (lx3 f g) := by
  obtain ⟨f1, f2, f3, f4⟩ := hf
  obtain ⟨g1, g2, g3, g4⟩ := hg
  have m0 : (-1 : Int32) ≠ nI 0 := by decide
  have p0 : nI 1 ≠ nI 0 := by decide
  refine ⟨fun x y => ?_, fun x y => ?_, fun x y => ?_, fun x y z h1 h2 => ?_⟩
  · unfold lx3
    split
    · exact f1 _ _
    · exact g1 _ _
  · unfold lx3
    constructor
    · intro h
      split at h
      · next q => exact absurd h q
      · next q =>
        have e1 := (f2 _ _).mp (Decidable.not_not.mp q)
        have e2 := (g2 _ _).mp h
        exact Prod.ext e1 e2
    · intro h
      subst h
      rw [if_neg (by simp [f2]), (g2 _ _).mpr rfl]
  · unfold lx3
    by_cases q : f x.1 y.1 = nI 0
    · have e := (f2 _ _).mp q
      rw [if_neg (by simpa using q), if_neg (by rw [e]; simp [f2])]
      exact g3 _ _
    · have q' : f y.1 x.1 ≠ nI 0 := fun z => q ((f2 _ _).mpr ((f2 _ _).mp z).symm)
      rw [if_pos q, if_pos q']
      exact f3 _ _
  · unfold lx3 at *
    by_cases q : f x.1 y.1 = nI 0
    · have e := (f2 _ _).mp q
      rw [if_neg (by simpa using q)] at h1
      rw [e]
      by_cases q2 : f y.1 z.1 = nI 0
      · rw [if_neg (by simpa using q2)] at h2 ⊢
        exact g4 _ _ _ h1 h2
      · rw [if_pos q2] at h2 ⊢
        exact h2
    · rw [if_pos q] at h1
      by_cases q2 : f y.1 z.1 = nI 0
      · have e := (f2 _ _).mp q2
        rw [← e, if_pos q]
        exact h1
      · rw [if_pos q2] at h2
        have h3 := f4 _ _ _ h1 h2
        rw [if_pos (by rw [h3]; exact m0)]
        exact h3
theorem c3_good : Gd3 c3 := by
  have m0 : (-1 : Int32) ≠ nI 0 := by decide
  have p0 : nI 1 ≠ nI 0 := by decide
  have m1 : (-1 : Int32) ≠ nI 1 := by decide
  have k : ∀ x y, (x < y ∧ c3 x y = -1) ∨ (x = y ∧ c3 x y = nI 0) ∨ (y < x ∧ c3 x y = nI 1) := by
    intro x y
    unfold c3
    by_cases h : x < y
    · rw [if_pos h]; exact Or.inl ⟨h, rfl⟩
    · rw [if_neg h]
      by_cases h2 : x = y
      · rw [if_pos h2]; exact Or.inr (Or.inl ⟨h2, rfl⟩)
      · rw [if_neg h2]; exact Or.inr (Or.inr ⟨by omega, rfl⟩)
  refine ⟨fun x y => ?_, fun x y => ?_, fun x y => ?_, fun x y z h1 h2 => ?_⟩
  · rcases k x y with h | h | h
    · exact Or.inl h.2
    · exact Or.inr (Or.inl h.2)
    · exact Or.inr (Or.inr h.2)
  · rcases k x y with h | h | h
    · rw [h.2]; exact ⟨fun z => absurd z m0, fun z => by omega⟩
    · exact ⟨fun _ => h.1, fun _ => h.2⟩
    · rw [h.2]; exact ⟨fun z => absurd z p0, fun z => by omega⟩
  · rcases k x y with h | h | h <;> rcases k y x with g | g | g <;> first | (exfalso; omega) | (rw [h.2, g.2]; simp; done) | (rw [h.2, g.2]; exact ⟨fun z => absurd z (by decide), fun z => absurd z (by decide)⟩)
  · rcases k x y with h | h | h
    · rcases k y z with g | g | g
      · rcases k x z with w | w | w
        · exact w.2
        · omega
        · omega
      · rw [g.2] at h2; exact absurd h2.symm m0
      · rw [g.2] at h2; exact absurd h2.symm m1
    · rw [h.2] at h1; exact absurd h1.symm m0
    · rw [h.2] at h1; exact absurd h1.symm m1
theorem c3L_good : Gd3 c3L := by
  have m0 : (-1 : Int32) ≠ nI 0 := by decide
  have p0 : nI 1 ≠ nI 0 := by decide
  have m1 : (-1 : Int32) ≠ nI 1 := by decide
  have k : ∀ x y, (x.toInt < y.toInt ∧ c3L x y = -1) ∨ (x.toInt = y.toInt ∧ c3L x y = nI 0) ∨ (y.toInt < x.toInt ∧ c3L x y = nI 1) := by
    intro x y
    unfold c3L
    by_cases h : x < y
    · rw [if_pos h]; exact Or.inl ⟨Int64.lt_iff_toInt_lt.mp h, rfl⟩
    · rw [if_neg h]
      by_cases h2 : x = y
      · rw [if_pos h2]; exact Or.inr (Or.inl ⟨by rw [h2], rfl⟩)
      · rw [if_neg h2]
        refine Or.inr (Or.inr ⟨?_, rfl⟩)
        have h3 : ¬ x.toInt < y.toInt := fun z => h (Int64.lt_iff_toInt_lt.mpr z)
        have h4 : x.toInt ≠ y.toInt := fun z => h2 (Int64.toInt_inj.mp z)
        omega
  refine ⟨fun x y => ?_, fun x y => ?_, fun x y => ?_, fun x y z h1 h2 => ?_⟩
  · rcases k x y with h | h | h
    · exact Or.inl h.2
    · exact Or.inr (Or.inl h.2)
    · exact Or.inr (Or.inr h.2)
  · rcases k x y with h | h | h
    · rw [h.2]; exact ⟨fun z => absurd z m0, fun z => by rw [z] at h; omega⟩
    · exact ⟨fun _ => Int64.toInt_inj.mp h.1, fun _ => h.2⟩
    · rw [h.2]; exact ⟨fun z => absurd z p0, fun z => by rw [z] at h; omega⟩
  · rcases k x y with h | h | h <;> rcases k y x with g | g | g <;> first | (exfalso; omega) | (rw [h.2, g.2]; simp; done) | (rw [h.2, g.2]; exact ⟨fun z => absurd z (by decide), fun z => absurd z (by decide)⟩)
  · rcases k x y with h | h | h
    · rcases k y z with g | g | g
      · rcases k x z with w | w | w
        · exact w.2
        · omega
        · omega
      · rw [g.2] at h2; exact absurd h2.symm m0
      · rw [g.2] at h2; exact absurd h2.symm m1
    · rw [h.2] at h1; exact absurd h1.symm m0
    · rw [h.2] at h1; exact absurd h1.symm m1
theorem cmpL_good : Gd3 cmpL := by
  obtain ⟨f1, f2, f3, f4⟩ := c3_good
  have m0 : (-1 : Int32) ≠ nI 0 := by decide
  have p0 : nI 1 ≠ nI 0 := by decide
  have m1 : (-1 : Int32) ≠ nI 1 := by decide
  have a1 : ∀ x y, cmpL x y = -1 ∨ cmpL x y = nI 0 ∨ cmpL x y = nI 1 := by
    intro x
    induction x with
    | nil => intro y; cases y <;> simp [cmpL]
    | cons a x ih =>
      intro y
      cases y with
      | nil => simp [cmpL]
      | cons b y =>
        rw [cmpL]
        split
        · exact ih y
        · exact f1 a b
  have a2 : ∀ x y, cmpL x y = nI 0 ↔ x = y := by
    intro x
    induction x with
    | nil => intro y; cases y with
      | nil => simp [cmpL]
      | cons b y => rw [cmpL]; exact ⟨fun z => absurd z m0, fun z => by cases z⟩
    | cons a x ih =>
      intro y
      cases y with
      | nil => rw [cmpL]; exact ⟨fun z => absurd z p0, fun z => by cases z⟩
      | cons b y =>
        rw [cmpL]
        by_cases h : a = b
        · rw [if_pos h, ih y, h]; simp
        · rw [if_neg h, f2]; simp [h]
  have a3 : ∀ x y, cmpL x y = -1 ↔ cmpL y x = nI 1 := by
    intro x
    induction x with
    | nil => intro y; cases y with
      | nil => simp only [cmpL]; exact ⟨fun z => absurd z.symm m0, fun z => absurd z.symm p0⟩
      | cons b y => simp [cmpL]
    | cons a x ih =>
      intro y
      cases y with
      | nil => simp only [cmpL]; exact ⟨fun z => absurd z.symm m1, fun z => absurd z m1⟩
      | cons b y =>
        rw [cmpL, cmpL]
        by_cases h : a = b
        · rw [if_pos h, if_pos h.symm]; exact ih y
        · rw [if_neg h, if_neg (fun z => h z.symm)]; exact f3 a b
  refine ⟨a1, a2, a3, ?_⟩
  intro x
  induction x with
  | nil => intro y z h1 h2; cases y with
    | nil => exact h2
    | cons b y => cases z with
      | nil => rw [cmpL] at h2; exact absurd h2.symm m1
      | cons c z => rfl
  | cons a x ih =>
    intro y z h1 h2
    cases y with
    | nil => rw [cmpL] at h1; exact absurd h1.symm m1
    | cons b y => cases z with
      | nil => rw [cmpL] at h2; exact absurd h2.symm m1
      | cons c z =>
        rw [cmpL] at h1 h2 ⊢
        by_cases h : a = b
        · subst h
          rw [if_pos rfl] at h1
          by_cases g : a = c
          · rw [if_pos g] at h2 ⊢; exact ih y z h1 h2
          · rw [if_neg g] at h2 ⊢; exact h2
        · rw [if_neg h] at h1
          by_cases g : b = c
          · subst g
            rw [if_neg h]; exact h1
          · rw [if_neg g] at h2
            have h3 := f4 _ _ _ h1 h2
            have : a ≠ c := fun q => by rw [(f2 a c).mpr q] at h3; exact absurd h3.symm m0
            rw [if_neg this]; exact h3
theorem cmpM_lx (x y : Mng) : cmpM x y = lx3 c3 (lx3 c3L (lx3 cmpL (lx3 cmpL cmpL))) x y := by
  unfold cmpM lx3
  by_cases h : x.1 = y.1
  · rw [if_neg (c := x.1 ≠ y.1) (by simpa using h), if_neg (c := c3 x.1 y.1 ≠ nI 0) (by simp [(c3_good.2.1 _ _).mpr h])]
  · rw [if_pos h, if_pos (fun z => h ((c3_good.2.1 _ _).mp z))]
theorem cmpM_good : Gd3 cmpM := by
  have e : cmpM = lx3 c3 (lx3 c3L (lx3 cmpL (lx3 cmpL cmpL))) := by funext x y; exact cmpM_lx x y
  rw [e]
  exact lx3_good c3_good (lx3_good c3L_good (lx3_good cmpL_good (lx3_good cmpL_good cmpL_good)))
theorem cmpM_eq {x y : Mng} : cmpM x y = nI 0 ↔ x = y := cmpM_good.2.1 x y
theorem lt0_iff {x : Int32} (h : x = -1 ∨ x = nI 0 ∨ x = nI 1) : x < 0 ↔ x = -1 := by
  rcases h with h | h | h
  · rw [h]; exact ⟨fun _ => rfl, fun _ => by decide⟩
  · rw [h]; exact ⟨fun z => absurd z (by decide), fun z => absurd z (by decide)⟩
  · rw [h]; exact ⟨fun z => absurd z (by decide), fun z => absurd z (by decide)⟩
/-- ahead of, in the order of meanings -/
def ltM (x y : Mng) : Prop := cmpM x y = -1
theorem ltM_tr {x y z : Mng} (h1 : ltM x y) (h2 : ltM y z) : ltM x z := cmpM_good.2.2.2 x y z h1 h2
theorem ltM_ne {x y : Mng} (h : ltM x y) : x ≠ y := fun e => by
  have := cmpM_eq.mpr e
  rw [ltM, this] at h
  exact absurd h (by decide)
theorem ltM_as {x y : Mng} (h : ltM x y) : ¬ ltM y x := fun g => ltM_ne (ltM_tr h g) rfl
theorem ltM_tri (x y : Mng) : ltM x y ∨ x = y ∨ ltM y x := by
  rcases cmpM_good.1 x y with h | h | h
  · exact Or.inl h
  · exact Or.inr (Or.inl (cmpM_eq.mp h))
  · exact Or.inr (Or.inr ((cmpM_good.2.2.1 y x).mpr h))
theorem cmpM_lt0 {x y : Mng} : cmpM x y < 0 ↔ ltM x y := lt0_iff (cmpM_good.1 x y)
/-- meanings in order, each once -/
def SoM : List Mng → Prop
  | [] => True
  | x :: r => (∀ y ∈ r, ltM x y) ∧ SoM r
noncomputable def insM : List Mng → Mng → List Mng
  | [], m => [m]
  | x :: r, m => if cmpM x m = -1 then x :: insM r m else if cmpM x m = nI 0 then x :: r else m :: x :: r
noncomputable def lowM : List Mng → Mng → Nat
  | [], _ => 0
  | x :: r, m => if cmpM x m = -1 then lowM r m + 1 else 0
theorem lowM_le : ∀ (L : List Mng) (m : Mng), lowM L m ≤ L.length
  | [], m => Nat.le_refl _
  | x :: r, m => by
    unfold lowM
    have := lowM_le r m
    split
    · simp only [List.length_cons]; omega
    · omega
theorem insM_mem {m y : Mng} : ∀ (L : List Mng), y ∈ insM L m ↔ y = m ∨ y ∈ L
  | [] => by simp [insM]
  | x :: r => by
    unfold insM
    split
    · simp only [List.mem_cons, insM_mem r]; exact ⟨fun h => h.elim (fun q => Or.inr (Or.inl q)) (fun q => q.elim Or.inl (fun z => Or.inr (Or.inr z))), fun h => h.elim (fun q => Or.inr (Or.inl q)) (fun q => q.elim Or.inl (fun z => Or.inr (Or.inr z)))⟩
    · split
      · next h2 =>
        have := cmpM_eq.mp h2
        subst this
        simp
      · simp
theorem insM_so {m : Mng} : ∀ (L : List Mng), SoM L → SoM (insM L m)
  | [], _ => ⟨fun y hy => by simp at hy, trivial⟩
  | x :: r, h => by
    obtain ⟨h1, h2⟩ := h
    unfold insM
    split
    · next e =>
      refine ⟨fun y hy => ?_, insM_so r h2⟩
      rcases (insM_mem r).mp hy with q | q
      · rw [q]; exact e
      · exact h1 y q
    · next e1 =>
      split
      · exact ⟨h1, h2⟩
      · next e2 =>
        have hmx : ltM m x := by
          rcases ltM_tri m x with q | q | q
          · exact q
          · exact absurd (cmpM_eq.mpr q.symm) e2
          · exact absurd q e1
        refine ⟨fun y hy => ?_, h1, h2⟩
        rcases List.mem_cons.mp hy with q | q
        · rw [q]; exact hmx
        · exact ltM_tr hmx (h1 y q)
theorem insM_has {m : Mng} : ∀ (L : List Mng), SoM L → m ∈ L → insM L m = L
  | [], _, h => by cases h
  | x :: r, hs, h => by
    unfold insM
    rcases List.mem_cons.mp h with q | q
    · subst q
      rw [if_neg (show ¬ cmpM m m = -1 from fun z => ltM_ne z rfl), if_pos (cmpM_eq.mpr rfl)]
    · rw [if_pos (show cmpM x m = -1 from hs.1 m q), insM_has r hs.2 q]
theorem insM_new {m : Mng} : ∀ (L : List Mng), m ∉ L → insM L m = L.take (lowM L m) ++ m :: L.drop (lowM L m)
  | [], _ => rfl
  | x :: r, h => by
    unfold insM lowM
    split
    · rw [insM_new r (fun z => h (List.mem_cons_of_mem _ z))]; rfl
    · rw [if_neg (fun z => h (by rw [cmpM_eq.mp z]; exact List.mem_cons_self))]; rfl
theorem lowM_lt {m : Mng} : ∀ (L : List Mng) (j : Nat) (hj : j < L.length), j < lowM L m → cmpM L[j] m = -1
  | [], j, hj, _ => by simp at hj
  | x :: r, j, hj, h => by
    unfold lowM at h
    split at h
    · next e =>
      cases j with
      | zero => exact e
      | succ j => exact lowM_lt r j (by simpa using hj) (by omega)
    · omega
theorem lowM_ge {m : Mng} : ∀ (L : List Mng) (j : Nat) (hj : j < L.length), SoM L → lowM L m ≤ j → ¬ cmpM L[j] m = -1
  | [], j, hj, _, _ => by simp at hj
  | x :: r, j, hj, hs, h => by
    unfold lowM at h
    split at h
    · cases j with
      | zero => omega
      | succ j => exact lowM_ge r j (by simpa using hj) hs.2 (by omega)
    · next e =>
      cases j with
      | zero => exact e
      | succ j =>
        intro z
        exact e (ltM_tr (hs.1 _ (List.getElem_mem _)) z)
theorem lowM_has {m : Mng} : ∀ (L : List Mng), SoM L → m ∈ L → L[lowM L m]? = some m
  | [], _, h => by cases h
  | x :: r, hs, h => by
    unfold lowM
    rcases List.mem_cons.mp h with q | q
    · subst q
      rw [if_neg (show ¬ cmpM m m = -1 from fun z => ltM_ne z rfl)]; rfl
    · rw [if_pos (show cmpM x m = -1 from hs.1 m q)]
      exact lowM_has r hs.2 q
end
section
/-! Ranking -/
abbrev Fp : Type := List Nat × (Nat → Nat) × Nat
def mg (Q : Nat → Fp) (o : Nat × Nat) : Mng := mng (Q o.1).1 (Q o.1).2.1 (Q o.1).2.2 o.2
def RK (h : Hp) (k : Nat) (Q : Nat → Fp) (pc : Nat) (L : List (Nat × Nat)) : Prop :=
  h.2.2 k = some (true, .inr (2, [.ref (k + 1), .int (nI pc), .ref (k + 2), .ref (k + 3), .int (nI L.length)])) ∧ (∃ g, h.2.2 (k + 1) = some (true, .inl (6, 6, .inr (.inr (.inr (.inr g))))) ∧ ∀ i, i < 6 → g i = some (k + 4 + 4 * i)) ∧ AI h (k + 2) 150 (L.map (·.1)) ∧ AI h (k + 3) 150 (L.map (·.2)) ∧ (∀ i, i < 6 → PO h (k + 4 + 4 * i) (Q i).1 (Q i).2.1 (Q i).2.2) ∧ pc ≤ 6 ∧ L.length ≤ 150 ∧ (∀ o ∈ L, o.1 < pc ∧ o.2 < 61) ∧ ∀ i, i < pc → TV (Q i).1 (Q i).2.1 (Q i).2.2
section RANK
variable {nb sa : Nat} {h : Hp} {k pc : Nat} {Q : Nat → Fp} {L : List (Nat × Nat)}
theorem RK.fr {h' : Hp} {lo hi : Nat} (h1 : RK h k Q pc L) (f : FrI lo hi h h') (hq : k + 28 ≤ lo ∨ hi ≤ k) : RK h' k Q pc L := by
  obtain ⟨a1, ⟨g, a2, a3⟩, a4, a5, a6, a7⟩ := h1
  exact ⟨f.at a1 (by omega), ⟨g, f.at a2 (by omega), a3⟩, a4.fr f (by omega), a5.fr f (by omega), fun i hi => (a6 i hi).fr f (by omega), a7⟩
theorem pr1 {L : List (Nat × Nat)} {r : Nat} : (L.map (·.1)).getD r 0 = (L.getD r (0, 0)).1 := by
  simp only [List.getD_eq_getElem?_getD, List.getElem?_map]
  cases L[r]? <;> rfl
theorem pr2 {L : List (Nat × Nat)} {r : Nat} : (L.map (·.2)).getD r 0 = (L.getD r (0, 0)).2 := by
  simp only [List.getD_eq_getElem?_getD, List.getElem?_map]
  cases L[r]? <;> rfl
theorem RK.el (hK : RK h k Q pc L) {r : Nat} (hr : r < L.length) : (L.getD r (0, 0)).1 < pc ∧ (L.getD r (0, 0)).2 < 61 := by
  obtain ⟨a1, a2, a4, a5, a6, a7, a8, a9, a10⟩ := hK
  refine a9 _ ?_
  rw [List.getD_eq_getElem?_getD, List.getElem?_eq_getElem hr]
  exact List.getElem_mem hr
theorem c_RK_size (hK : RK h k Q pc L) : Ev (prog nb sa) m_RK_size [.ref k] h (some (.int (nI L.length))) h := by
  have hc := hK.1
  refine Ev_ofL k_RK_size 1 [some (.ref k)] rfl (Nat.le_of_ble_eq_true rfl) rfl ?_
  refine Ex_mv rfl rfl ?_; refine Ex_getf rfl (by assumption) rfl ?_
  exact Ex_rt rfl rfl ⟨rfl, rfl⟩
theorem c_RK_clear (hK : RK h k Q pc L) : EvQ (prog nb sa) m_RK_clear [.ref k] h (fun v h' => v = none ∧ RK h' k Q 0 [] ∧ FrI k (k + 28) h h') := by
  obtain ⟨a1, ⟨g, a2, a3⟩, ⟨g2, b1, b2⟩, ⟨g3, b3, b4⟩, a6, a7, a8, a9, a10⟩ := id hK
  refine EvQ_of k_RK_clear 1 [some (.ref k)] rfl (Nat.le_of_ble_eq_true rfl) rfl ?_
  refine Ex_mv rfl rfl ?_; refine Ex_mv rfl rfl ?_; refine Ex_putf rfl (by assumption) rfl rfl ?_; refine Ex_mv rfl rfl ?_; refine Ex_mv rfl rfl ?_; refine Ex_putf rfl hs_at rfl rfl ?_
  refine Ex_rt rfl rfl ?_
  refine ⟨rfl, ⟨hs_at, ⟨g, hs_ne (by omega) (hs_ne (by omega) a2), a3⟩, ⟨g2, hs_ne (by omega) (hs_ne (by omega) b1), by simp⟩, ⟨g3, hs_ne (by omega) (hs_ne (by omega) b3), by simp⟩, fun i hi => (a6 i hi).fr ((FrI.set (lo := k) (hi := k + 1) FrI.rf (by omega) (by omega)).set (by omega) (by omega)) (by omega), by omega, by simp, by simp, fun i hi => by omega⟩, (FrI.rf.set (by omega) (by omega)).set (by omega) (by omega)⟩
theorem c_RK_poolOf (hK : RK h k Q pc L) {r : Nat} (hr : r < L.length) : Ev (prog nb sa) m_RK_poolOf [.ref k, .int (nI r)] h (some (.ref (k + 4 + 4 * (L.getD r (0, 0)).1))) h := by
  have he := hK.el hr
  obtain ⟨a1, ⟨g, a2, a3⟩, ⟨g2, b1, b2⟩, ⟨g3, b3, b4⟩, a6, a7, a8, a9, a10⟩ := id hK
  have e1 : g2 (nI r).toNatClampNeg = nI (L.getD r (0, 0)).1 := by
    rw [AI.get (h := h) (a := k) (n := k) b2 (by simpa using hr) (by omega), pr1]
  have e2 : g (nI (L.getD r (0, 0)).1).toNatClampNeg = some (k + 4 + 4 * (L.getD r (0, 0)).1) := by
    rw [nI_clamp (by omega)]; exact a3 _ (by omega)
  refine Ev_ofL k_RK_poolOf 3 [some (.ref k), some (.int (nI r)), none] rfl (Nat.le_of_ble_eq_true rfl) rfl ?_
  refine Ex_mv rfl rfl ?_; refine Ex_mv rfl rfl ?_; refine Ex_lt0 (by omega) ?_; refine Ex_mv rfl rfl ?_; refine Ex_mv rfl rfl ?_; refine Ex_getf rfl (by assumption) rfl ?_; refine Ex_mv rfl rfl ?_; refine Ex_iff (nI_ge (by omega) (by omega)) ?_; refine Ex_mv rfl rfl ?_; refine Ex_mv rfl rfl ?_; refine Ex_mv rfl rfl ?_; refine Ex_ift (nI_lt (by omega) (by omega)) ?_; refine Ex_mv rfl rfl ?_; refine Ex_getf rfl (by assumption) rfl ?_; refine Ex_mv rfl rfl ?_; refine Ex_iald rfl (by assumption) (vp_in_nI (by omega) (by decide)) ?_
  rw [e1]
  refine Ex_mv rfl rfl ?_; refine Ex_mv rfl rfl ?_; refine Ex_mv rfl rfl ?_; refine Ex_lt0 (by omega) ?_; refine Ex_mv rfl rfl ?_; refine Ex_mv rfl rfl ?_; refine Ex_getf rfl (by assumption) rfl ?_; refine Ex_alen rfl (by assumption) rfl ?_; refine Ex_mv rfl rfl ?_; refine Ex_iff (nI_ge (by omega) (by omega)) ?_; refine Ex_mv rfl rfl ?_; refine Ex_getf rfl (by assumption) rfl ?_; refine Ex_mv rfl rfl ?_; refine Ex_aald rfl (by assumption) rfl (vp_in_nI (by omega) (by decide)) e2 ?_; refine Ex_mv rfl rfl ?_
  exact Ex_rt rfl rfl ⟨rfl, rfl⟩
theorem c_RK_poolOfN (hK : RK h k Q pc L) {r : Nat} (hr : L.length ≤ r) (hr2 : r < 2 ^ 31) : Ev (prog nb sa) m_RK_poolOf [.ref k, .int (nI r)] h (some .null) h := by
  have hc := hK.1
  obtain ⟨a1, ⟨g, a2, a3⟩, ⟨g2, b1, b2⟩, ⟨g3, b3, b4⟩, a6, a7, a8, a9, a10⟩ := id hK
  refine Ev_ofL k_RK_poolOf 3 [some (.ref k), some (.int (nI r)), none] rfl (Nat.le_of_ble_eq_true rfl) rfl ?_
  refine Ex_mv rfl rfl ?_; refine Ex_mv rfl rfl ?_; refine Ex_lt0 (by omega) ?_; refine Ex_mv rfl rfl ?_; refine Ex_mv rfl rfl ?_; refine Ex_getf rfl (by assumption) rfl ?_; refine Ex_mv rfl rfl ?_; refine Ex_ift (nI_le (by omega) (by omega)) ?_; refine Ex_mv rfl rfl ?_
  exact Ex_rt rfl rfl ⟨rfl, rfl⟩
theorem c_RK_placeOf (hK : RK h k Q pc L) {r : Nat} (hr : r < L.length) : Ev (prog nb sa) m_RK_placeOf [.ref k, .int (nI r)] h (some (.int (nI (L.getD r (0, 0)).2))) h := by
  have he := hK.el hr
  obtain ⟨a1, ⟨g, a2, a3⟩, ⟨g2, b1, b2⟩, ⟨g3, b3, b4⟩, a6, a7, a8, a9, a10⟩ := id hK
  have e1 : g3 (nI r).toNatClampNeg = nI (L.getD r (0, 0)).2 := by
    rw [AI.get (h := h) (a := k) (n := k) b4 (by simpa using hr) (by omega), pr2]
  refine Ev_ofL k_RK_placeOf 2 [some (.ref k), some (.int (nI r))] rfl (Nat.le_of_ble_eq_true rfl) rfl ?_
  refine Ex_mv rfl rfl ?_; refine Ex_mv rfl rfl ?_; refine Ex_lt0 (by omega) ?_; refine Ex_mv rfl rfl ?_; refine Ex_mv rfl rfl ?_; refine Ex_getf rfl (by assumption) rfl ?_; refine Ex_mv rfl rfl ?_; refine Ex_iff (nI_ge (by omega) (by omega)) ?_; refine Ex_mv rfl rfl ?_; refine Ex_mv rfl rfl ?_; refine Ex_mv rfl rfl ?_; refine Ex_iff (nI_ge (by omega) (by omega)) ?_; refine Ex_mv rfl rfl ?_; refine Ex_getf rfl (by assumption) rfl ?_; refine Ex_mv rfl rfl ?_; refine Ex_iald rfl (by assumption) (vp_in_nI (by omega) (by decide)) ?_
  rw [e1]
  refine Ex_mv rfl rfl ?_
  exact Ex_rt rfl rfl ⟨rfl, rfl⟩
theorem RK.pool (hK : RK h k Q pc L) {r : Nat} (hr : r < L.length) : PO h (k + 4 + 4 * (L.getD r (0, 0)).1) (Q (L.getD r (0, 0)).1).1 (Q (L.getD r (0, 0)).1).2.1 (Q (L.getD r (0, 0)).1).2.2 ∧ TV (Q (L.getD r (0, 0)).1).1 (Q (L.getD r (0, 0)).1).2.1 (Q (L.getD r (0, 0)).1).2.2 := by
  have he := hK.el hr
  obtain ⟨a1, a2, a4, a5, a6, a7, a8, a9, a10⟩ := hK
  exact ⟨a6 _ (by omega), a10 _ he.1⟩
theorem c_RK_orderOf {q n' i : Nat} {B' : List Nat} {S' : Nat → Nat} (hK : RK h k Q pc L) (hP : PO h q B' S' n') (hV : TV B' S' n') (hi : i < 2 ^ 30) {r : Nat} (hr : r < L.length) : Ev (prog nb sa) m_RK_orderOf [.ref k, .int (nI r), .ref q, .int (nI i)] h (some (.int (cmpM (mg Q (L.getD r (0, 0))) (mng B' S' n' i)))) h := by
  have hc := hK.1
  have he := hK.el hr
  obtain ⟨p1, p2⟩ := hK.pool hr
  have hp1 := p1.1
  refine Ev_ofL k_RK_orderOf 5 [some (.ref k), some (.int (nI r)), some (.ref q), some (.int (nI i)), none] rfl (Nat.le_of_ble_eq_true rfl) rfl ?_
  refine Ex_mv rfl rfl ?_; refine Ex_mv rfl rfl ?_; refine Ex_invV rfl (by rfl) (by rfl) (by assumption) (by rfl) (c_RK_poolOf hK hr) ?_; refine Ex_mv rfl rfl ?_; refine Ex_mv rfl rfl ?_; refine Ex_mv rfl rfl ?_; refine Ex_mv rfl rfl ?_; refine Ex_mv rfl rfl ?_; refine Ex_mv rfl rfl ?_; refine Ex_invV rfl (by rfl) (by rfl) (by assumption) (by rfl) (c_RK_placeOf hK hr) ?_; refine Ex_mv rfl rfl ?_; refine Ex_mv rfl rfl ?_; refine Ex_invV rfl (by rfl) (by rfl) (by assumption) (by rfl) (c_PL_order p1 hP p2 hV (by omega) hi) ?_
  exact Ex_rt rfl rfl ⟨rfl, rfl⟩
theorem c_RK_orderOfN {q : Nat} {i : Int32} (hK : RK h k Q pc L) {r : Nat} (hr : L.length ≤ r) (hr2 : r < 2 ^ 31) : Ev (prog nb sa) m_RK_orderOf [.ref k, .int (nI r), .ref q, .int i] h (some (.int (nI 1))) h := by
  have hc := hK.1
  refine Ev_ofL k_RK_orderOf 5 [some (.ref k), some (.int (nI r)), some (.ref q), some (.int i), none] rfl (Nat.le_of_ble_eq_true rfl) rfl ?_
  refine Ex_mv rfl rfl ?_; refine Ex_mv rfl rfl ?_; refine Ex_invV rfl (by rfl) (by rfl) (by assumption) (by rfl) (c_RK_poolOfN hK hr hr2) ?_; refine Ex_mv rfl rfl ?_; refine Ex_mv rfl rfl ?_; refine Ex_mv rfl rfl ?_; refine Ex_mv rfl rfl ?_; refine Ex_mv rfl rfl ?_
  exact Ex_rt rfl rfl ⟨rfl, rfl⟩
theorem c_RK_tag (hK : RK h k Q pc L) {r : Nat} (hr : r < L.length) : Ev (prog nb sa) m_RK_tag [.ref k, .int (nI r)] h (some (.int (nI (mg Q (L.getD r (0, 0))).1))) h := by
  have hc := hK.1
  have he := hK.el hr
  obtain ⟨p1, p2⟩ := hK.pool hr
  have hp1 := p1.1
  refine Ev_ofL k_RK_tag 3 [some (.ref k), some (.int (nI r)), none] rfl (Nat.le_of_ble_eq_true rfl) rfl ?_
  refine Ex_mv rfl rfl ?_; refine Ex_mv rfl rfl ?_; refine Ex_invV rfl (by rfl) (by rfl) (by assumption) (by rfl) (c_RK_poolOf hK hr) ?_; refine Ex_mv rfl rfl ?_; refine Ex_mv rfl rfl ?_; refine Ex_mv rfl rfl ?_; refine Ex_mv rfl rfl ?_; refine Ex_mv rfl rfl ?_; refine Ex_mv rfl rfl ?_; refine Ex_invV rfl (by rfl) (by rfl) (by assumption) (by rfl) (c_RK_placeOf hK hr) ?_; refine Ex_invV rfl (by rfl) (by rfl) (by assumption) (by rfl) (c_PL_tag p1 (by omega)) ?_
  exact Ex_rt rfl rfl ⟨rfl, rfl⟩
/-- the list of meanings -/
def mgs (Q : Nat → Fp) (L : List (Nat × Nat)) : List Mng := L.map (mg Q)
theorem mgs_at {r : Nat} (hr : r < L.length) : (mgs Q L)[r]'(by simpa [mgs] using hr) = mg Q (L.getD r (0, 0)) := by
  simp [mgs, List.getD_eq_getElem?_getD, hr]
theorem half_lt {a b : Nat} (h : a < b) : a ≤ (a + b) / 2 ∧ (a + b) / 2 < b := by omega
theorem shr1 {a : Nat} (h : a < 2 ^ 31) : nI a >>> (nI 1 &&& 31) = nI (a / 2) := pk_shrN h _ 1 (by decide)
theorem RK_fnb_loop {q n' i : Nat} {B' : List Nat} {S' : Nat → Nat} (hK : RK h k Q pc L) (hP : PO h q B' S' n') (hV : TV B' S' n') (hi : i < 2 ^ 30) (hso : SoM (mgs Q L)) : ∀ (d lo hi' s : Nat) (x6 x7 : Option Value), hi' - lo ≤ d → s + d ≤ 150 → lo ≤ lowM (mgs Q L) (mng B' S' n' i) → lowM (mgs Q L) (mng B' S' n' i) ≤ hi' → hi' ≤ L.length → Ex (prog nb sa) k_RK_firstNotBelow 11 [some (.ref k), some (.ref q), some (.int (nI i)), some (.int (nI lo)), some (.int (nI hi')), some (.int (nI s)), x6, x7] [] h (fun v h' => v = some (.int (nI (lowM (mgs Q L) (mng B' S' n' i)))) ∧ h' = h)
  | 0, lo, hi', s, x6, x7, h1, h2, h3, h4, h5 => by
    have hl : L.length ≤ 150 := hK.2.2.2.2.2.2.1
    have e : lo = lowM (mgs Q L) (mng B' S' n' i) := by omega
    refine Ex_mv rfl rfl ?_; refine Ex_mv rfl rfl ?_; refine Ex_mv rfl rfl ?_; refine Ex_iff (nI_nlt (by omega) (by omega)) ?_; refine Ex_mv rfl rfl ?_; refine Ex_mv rfl rfl ?_; refine Ex_mv rfl rfl ?_; refine Ex_ift (nI_le (by omega) (by omega)) ?_; refine Ex_mv rfl rfl ?_
    refine Ex_rt rfl rfl ⟨?_, rfl⟩
    rw [e]
  | d + 1, lo, hi', s, x6, x7, h1, h2, h3, h4, h5 => by
    have hl : L.length ≤ 150 := hK.2.2.2.2.2.2.1
    have hc := hK.1
    by_cases hlt : lo < hi'
    · have hh := half_lt hlt
      have hr : (lo + hi') / 2 < L.length := by omega
      have he := hK.el hr
      obtain ⟨p1, p2⟩ := hK.pool hr
      have hp1 := p1.1
      by_cases e : cmpM (mg Q (L.getD ((lo + hi') / 2) (0, 0))) (mng B' S' n' i) = -1
      · have hn : (lo + hi') / 2 + 1 ≤ lowM (mgs Q L) (mng B' S' n' i) := Nat.not_lt.mp fun z => lowM_ge (m := mng B' S' n' i) (mgs Q L) ((lo + hi') / 2) (by simpa [mgs] using hr) hso (by omega) (by rw [mgs_at hr]; exact e)
        refine Ex_mv rfl rfl ?_; refine Ex_mv rfl rfl ?_; refine Ex_mv rfl rfl ?_; refine Ex_iff (nI_nlt (by omega) (by omega)) ?_; refine Ex_mv rfl rfl ?_; refine Ex_mv rfl rfl ?_; refine Ex_mv rfl rfl ?_; refine Ex_iff (nI_ge (by omega) (by omega)) ?_; refine Ex_mv rfl rfl ?_; refine Ex_mv rfl rfl ?_; (first | refine Ex_addN rfl ?_ | refine Ex_mv rfl rfl ?_); refine Ex_mv rfl rfl ?_; refine Ex_ishr rfl ?_
        rw [shr1 (by omega)]
        refine Ex_mv rfl rfl ?_; refine Ex_mv rfl rfl ?_; refine Ex_mv rfl rfl ?_; refine Ex_invV rfl (by rfl) (by rfl) (by assumption) (by rfl) (c_RK_poolOf hK hr) ?_; refine Ex_mv rfl rfl ?_; refine Ex_mv rfl rfl ?_; refine Ex_mv rfl rfl ?_; refine Ex_mv rfl rfl ?_; refine Ex_mv rfl rfl ?_; refine Ex_mv rfl rfl ?_; refine Ex_invV rfl (by rfl) (by rfl) (by assumption) (by rfl) (c_RK_placeOf hK hr) ?_; refine Ex_mv rfl rfl ?_; refine Ex_mv rfl rfl ?_; refine Ex_invV rfl (by rfl) (by rfl) (by assumption) (by rfl) (c_PL_order p1 hP p2 hV (by omega) hi) ?_; refine Ex_mv rfl rfl ?_; refine Ex_iff (by rw [show mng (Q (L.getD ((lo + hi') / 2) (0, 0)).1).1 (Q (L.getD ((lo + hi') / 2) (0, 0)).1).2.1 (Q (L.getD ((lo + hi') / 2) (0, 0)).1).2.2 (L.getD ((lo + hi') / 2) (0, 0)).2 = mg Q (L.getD ((lo + hi') / 2) (0, 0)) from rfl, e]; decide) ?_; refine Ex_mv rfl rfl ?_; refine Ex_mv rfl rfl ?_; (first | refine Ex_addN rfl ?_ | refine Ex_mv rfl rfl ?_); refine Ex_mv rfl rfl ?_; refine Ex_mv rfl rfl ?_; (first | refine Ex_incN rfl rfl ?_ | refine Ex_mv rfl rfl ?_); refine Ex_mv rfl rfl ?_
        exact RK_fnb_loop hK hP hV hi hso d _ _ (s + 1) _ _ (by omega) (by omega) hn h4 h5
      · have hn : lowM (mgs Q L) (mng B' S' n' i) ≤ (lo + hi') / 2 := Nat.not_lt.mp fun z => e (by rw [← mgs_at hr]; exact lowM_lt (m := mng B' S' n' i) (mgs Q L) ((lo + hi') / 2) (by simpa [mgs] using hr) z)
        have hge : (0 : Int32) ≤ cmpM (mg Q (L.getD ((lo + hi') / 2) (0, 0))) (mng B' S' n' i) := by
          rcases cmpM_good.1 (mg Q (L.getD ((lo + hi') / 2) (0, 0))) (mng B' S' n' i) with z | z | z
          · exact absurd z e
          · rw [z]; decide
          · rw [z]; decide
        refine Ex_mv rfl rfl ?_; refine Ex_mv rfl rfl ?_; refine Ex_mv rfl rfl ?_; refine Ex_iff (nI_nlt (by omega) (by omega)) ?_; refine Ex_mv rfl rfl ?_; refine Ex_mv rfl rfl ?_; refine Ex_mv rfl rfl ?_; refine Ex_iff (nI_ge (by omega) (by omega)) ?_; refine Ex_mv rfl rfl ?_; refine Ex_mv rfl rfl ?_; (first | refine Ex_addN rfl ?_ | refine Ex_mv rfl rfl ?_); refine Ex_mv rfl rfl ?_; refine Ex_ishr rfl ?_
        rw [shr1 (by omega)]
        refine Ex_mv rfl rfl ?_; refine Ex_mv rfl rfl ?_; refine Ex_mv rfl rfl ?_; refine Ex_invV rfl (by rfl) (by rfl) (by assumption) (by rfl) (c_RK_poolOf hK hr) ?_; refine Ex_mv rfl rfl ?_; refine Ex_mv rfl rfl ?_; refine Ex_mv rfl rfl ?_; refine Ex_mv rfl rfl ?_; refine Ex_mv rfl rfl ?_; refine Ex_mv rfl rfl ?_; refine Ex_invV rfl (by rfl) (by rfl) (by assumption) (by rfl) (c_RK_placeOf hK hr) ?_; refine Ex_mv rfl rfl ?_; refine Ex_mv rfl rfl ?_; refine Ex_invV rfl (by rfl) (by rfl) (by assumption) (by rfl) (c_PL_order p1 hP p2 hV (by omega) hi) ?_; refine Ex_mv rfl rfl ?_; refine Ex_ift hge ?_; refine Ex_mv rfl rfl ?_; refine Ex_mv rfl rfl ?_; (first | refine Ex_incN rfl rfl ?_ | refine Ex_mv rfl rfl ?_); refine Ex_mv rfl rfl ?_
        exact RK_fnb_loop hK hP hV hi hso d _ _ (s + 1) _ _ (by omega) (by omega) h3 hn (by omega)
    · have e : lo = lowM (mgs Q L) (mng B' S' n' i) := by omega
      refine Ex_mv rfl rfl ?_; refine Ex_mv rfl rfl ?_; refine Ex_mv rfl rfl ?_; refine Ex_iff (nI_nlt (by omega) (by omega)) ?_; refine Ex_mv rfl rfl ?_; refine Ex_mv rfl rfl ?_; refine Ex_mv rfl rfl ?_; refine Ex_ift (nI_le (by omega) (by omega)) ?_; refine Ex_mv rfl rfl ?_
      refine Ex_rt rfl rfl ⟨?_, rfl⟩
      rw [e]
theorem mgs_len : (mgs Q L).length = L.length := by simp [mgs]
theorem c_RK_firstNotBelow {q n' i : Nat} {B' : List Nat} {S' : Nat → Nat} (hK : RK h k Q pc L) (hP : PO h q B' S' n') (hV : TV B' S' n') (hi : i < 2 ^ 30) (hso : SoM (mgs Q L)) : Ev (prog nb sa) m_RK_firstNotBelow [.ref k, .ref q, .int (nI i)] h (some (.int (nI (lowM (mgs Q L) (mng B' S' n' i))))) h := by
  have hl : L.length ≤ 150 := hK.2.2.2.2.2.2.1
  have hc := hK.1
  have hle := lowM_le (mgs Q L) (mng B' S' n' i)
  rw [mgs_len] at hle
  refine Ev_ofL k_RK_firstNotBelow 8 [some (.ref k), some (.ref q), some (.int (nI i)), none, none, none, none, none] rfl (Nat.le_of_ble_eq_true rfl) rfl ?_
  refine Ex_mv rfl rfl ?_; refine Ex_mv rfl rfl ?_; refine Ex_mv rfl rfl ?_; refine Ex_getf rfl (by assumption) rfl ?_; refine Ex_mv rfl rfl ?_; refine Ex_mv rfl rfl ?_; refine Ex_mv rfl rfl ?_
  exact RK_fnb_loop hK hP hV hi hso 150 0 L.length 0 _ _ (by omega) (by omega) (by omega) hle (Nat.le_refl _)
/-- where a meaning is; none -/
noncomputable def fndM (L : List Mng) (m : Mng) : Option Nat := if m ∈ L then some (lowM L m) else none
theorem c_RK_find {q n' i : Nat} {B' : List Nat} {S' : Nat → Nat} (hK : RK h k Q pc L) (hP : PO h q B' S' n') (hV : TV B' S' n') (hi : i < 2 ^ 30) (hso : SoM (mgs Q L)) : Ev (prog nb sa) m_RK_find [.ref k, .ref q, .int (nI i)] h (some (.int (oI 0 (fndM (mgs Q L) (mng B' S' n' i))))) h := by
  have hl : L.length ≤ 150 := hK.2.2.2.2.2.2.1
  have hc := hK.1
  have hle := lowM_le (mgs Q L) (mng B' S' n' i)
  rw [mgs_len] at hle
  refine Ev_ofL k_RK_find 4 [some (.ref k), some (.ref q), some (.int (nI i)), none] rfl (Nat.le_of_ble_eq_true rfl) rfl ?_
  by_cases hm : mng B' S' n' i ∈ mgs Q L
  · have h1 := lowM_has (mgs Q L) hso hm
    have hlt : lowM (mgs Q L) (mng B' S' n' i) < L.length := by
      rcases Nat.lt_or_ge (lowM (mgs Q L) (mng B' S' n' i)) L.length with z | z
      · exact z
      · rw [List.getElem?_eq_none (by rw [mgs_len]; exact z)] at h1; cases h1
    have h2 : mg Q (L.getD (lowM (mgs Q L) (mng B' S' n' i)) (0, 0)) = mng B' S' n' i := by
      rw [← mgs_at hlt]
      rw [List.getElem?_eq_getElem (by rw [mgs_len]; exact hlt)] at h1
      exact Option.some.inj h1
    have hf : fndM (mgs Q L) (mng B' S' n' i) = some (lowM (mgs Q L) (mng B' S' n' i)) := if_pos hm
    refine Ex_mv rfl rfl ?_; refine Ex_mv rfl rfl ?_; refine Ex_mv rfl rfl ?_; refine Ex_invV rfl (by rfl) (by rfl) (by assumption) (by rfl) (c_RK_firstNotBelow hK hP hV hi hso) ?_; refine Ex_mv rfl rfl ?_; refine Ex_mv rfl rfl ?_; refine Ex_mv rfl rfl ?_; refine Ex_mv rfl rfl ?_; refine Ex_mv rfl rfl ?_; refine Ex_invV rfl (by rfl) (by rfl) (by assumption) (by rfl) (c_RK_orderOf hK hP hV hi hlt) ?_
    rw [h2, cmpM_eq.mpr rfl]
    refine Ex_mv rfl rfl ?_; refine Ex_iff (not_not_intro rfl) ?_; refine Ex_mv rfl rfl ?_; refine Ex_mv rfl rfl ?_
    refine Ex_rt rfl rfl ⟨?_, rfl⟩
    rw [hf, oI, Nat.zero_add]
  · have hf : fndM (mgs Q L) (mng B' S' n' i) = none := if_neg hm
    rw [hf]
    rcases Nat.lt_or_ge (lowM (mgs Q L) (mng B' S' n' i)) L.length with hlt | hge
    · have hne : ¬ cmpM (mg Q (L.getD (lowM (mgs Q L) (mng B' S' n' i)) (0, 0))) (mng B' S' n' i) = nI 0 := fun z => hm (by
        rw [← cmpM_eq.mp z, ← mgs_at hlt]
        exact List.getElem_mem _)
      refine Ex_mv rfl rfl ?_; refine Ex_mv rfl rfl ?_; refine Ex_mv rfl rfl ?_; refine Ex_invV rfl (by rfl) (by rfl) (by assumption) (by rfl) (c_RK_firstNotBelow hK hP hV hi hso) ?_; refine Ex_mv rfl rfl ?_; refine Ex_mv rfl rfl ?_; refine Ex_mv rfl rfl ?_; refine Ex_mv rfl rfl ?_; refine Ex_mv rfl rfl ?_; refine Ex_invV rfl (by rfl) (by rfl) (by assumption) (by rfl) (c_RK_orderOf hK hP hV hi hlt) ?_; refine Ex_mv rfl rfl ?_; refine Ex_ift (ne_nI0 hne) ?_; refine Ex_mv rfl rfl ?_
      exact Ex_rt rfl rfl ⟨rfl, rfl⟩
    · refine Ex_mv rfl rfl ?_; refine Ex_mv rfl rfl ?_; refine Ex_mv rfl rfl ?_; refine Ex_invV rfl (by rfl) (by rfl) (by assumption) (by rfl) (c_RK_firstNotBelow hK hP hV hi hso) ?_; refine Ex_mv rfl rfl ?_; refine Ex_mv rfl rfl ?_; refine Ex_mv rfl rfl ?_; refine Ex_mv rfl rfl ?_; refine Ex_mv rfl rfl ?_; refine Ex_invV rfl (by rfl) (by rfl) (by assumption) (by rfl) (c_RK_orderOfN hK hge (by omega)) ?_; refine Ex_mv rfl rfl ?_; refine Ex_ift (by decide) ?_; refine Ex_mv rfl rfl ?_
      exact Ex_rt rfl rfl ⟨rfl, rfl⟩
end RANK
end
section
/-! Ranking: its changes -/
theorem AI.ins {g : Nat → Int32} {L : List Nat} {x r : Nat} (hg : ∀ j, j < L.length → g j = nI (L.getD j 0)) (hr : r ≤ L.length) (hl : L.length < 2 ^ 30) : ∀ j, j < (L.take r ++ x :: L.drop r).length → upd (va_cpy g g (nI r).toNatClampNeg (nI (r + 1)).toNatClampNeg (nI (L.length - r)).toNatClampNeg) (nI r).toNatClampNeg (nI x) j = nI ((L.take r ++ x :: L.drop r).getD j 0) := by
  intro j hj
  rw [nI_clamp (by omega), nI_clamp (by omega), nI_clamp (by omega)]
  simp only [List.length_append, List.length_take, List.length_cons, List.length_drop, Nat.min_eq_left hr] at hj
  have hlt : (L.take r).length = r := by simp [Nat.min_eq_left hr]
  by_cases h1 : j < r
  · rw [pk_un (by omega), pk_cpy_out (Or.inl (by omega)), hg j (by omega)]
    congr 1
    rw [List.getD_eq_getElem?_getD, List.getD_eq_getElem?_getD, List.getElem?_append_left (by omega), List.getElem?_take, if_pos h1]
  · by_cases h2 : j = r
    · subst h2
      rw [pk_us]
      congr 1
      rw [List.getD_eq_getElem?_getD, List.getElem?_append_right (by omega), hlt, Nat.sub_self]
      rfl
    · rw [pk_un (by omega), pk_cpy_in (by omega) (by omega), hg _ (by omega)]
      congr 1
      rw [List.getD_eq_getElem?_getD, List.getD_eq_getElem?_getD, List.getElem?_append_right (by omega), hlt, show j - r = (j - r - 1) + 1 by omega, List.getElem?_cons_succ, List.getElem?_drop]
      rw [show r + (j - (r + 1)) = r + (j - r - 1) by omega]
section RANK2
variable {nb sa : Nat} {h : Hp} {k pc : Nat} {Q : Nat → Fp} {L : List (Nat × Nat)}
theorem c_RK_insert (hK : RK h k Q pc L) {r i : Nat} (hr : r ≤ L.length) (hi : i < 61) (hpc : 1 ≤ pc) (hl : L.length < 150) : EvQ (prog nb sa) m_RK_insert [.ref k, .int (nI r), .int (nI i)] h (fun v h' => v = some (.int (nI 1)) ∧ RK h' k Q pc (L.take r ++ (pc - 1, i) :: L.drop r) ∧ FrI k (k + 28) h h') := by
  obtain ⟨a1, ⟨g, a2, a3⟩, ⟨g2, b1, b2⟩, ⟨g3, b3, b4⟩, a6, a7, a8, a9, a10⟩ := id hK
  have p1 : ∀ z, (hset h (k + 2) z).2.2 k = _ := fun z => hs_ne (by omega) a1
  have p2 : ∀ z, (hset h (k + 2) z).2.2 (k + 3) = _ := fun z => hs_ne (by omega) b3
  have p3 : ∀ z w, (hset (hset h (k + 2) z) (k + 3) w).2.2 k = _ := fun z w => hs_ne (by omega) (p1 z)
  have p4 : ∀ z w, (hset (hset h (k + 2) z) (k + 3) w).2.2 (k + 2) = _ := fun z w => hs_ne (by omega) hs_at
  have p5 : ∀ z w u, (hset (hset (hset h (k + 2) z) (k + 3) w) (k + 2) u).2.2 k = _ := fun z w u => hs_ne (by omega) (p3 z w)
  have p6 : ∀ z w u, (hset (hset (hset h (k + 2) z) (k + 3) w) (k + 2) u).2.2 (k + 3) = _ := fun z w u => hs_ne (by omega) hs_at
  have p7 : ∀ z w u y, (hset (hset (hset (hset h (k + 2) z) (k + 3) w) (k + 2) u) (k + 3) y).2.2 k = _ := fun z w u y => hs_ne (by omega) (p5 z w u)
  have FF : ∀ z w u y x, FrI k (k + 4) h (hset (hset (hset (hset (hset h (k + 2) z) (k + 3) w) (k + 2) u) (k + 3) y) k x) := fun z w u y x => ((((FrI.rf.set (by omega) (by omega)).set (by omega) (by omega)).set (by omega) (by omega)).set (by omega) (by omega)).set (by omega) (by omega)
  have hLt : (L.take r).length = r := by simp [Nat.min_eq_left hr]
  have ml1 : (L.map (·.1)).length = L.length := by simp
  have ml2 : (L.map (·.2)).length = L.length := by simp
  refine EvQ_of k_RK_insert 3 [some (.ref k), some (.int (nI r)), some (.int (nI i))] rfl (Nat.le_of_ble_eq_true rfl) rfl ?_
  refine Ex_mv rfl rfl ?_; refine Ex_mv rfl rfl ?_; refine Ex_lt0 (by omega) ?_; refine Ex_mv rfl rfl ?_; refine Ex_mv rfl rfl ?_; refine Ex_getf rfl (by assumption) rfl ?_; refine Ex_mv rfl rfl ?_; refine Ex_iff (nI_nlt (by omega) (by omega)) ?_; refine Ex_mv rfl rfl ?_; refine Ex_getf rfl (by assumption) rfl ?_; refine Ex_mv rfl rfl ?_; refine Ex_mv rfl rfl ?_; refine Ex_ift (nI_lt (by omega) (by omega)) ?_; refine Ex_mv rfl rfl ?_; refine Ex_getf rfl (by assumption) rfl ?_; refine Ex_mv rfl rfl ?_; refine Ex_mv rfl rfl ?_; refine Ex_getf rfl (by assumption) rfl ?_; refine Ex_mv rfl rfl ?_; refine Ex_mv rfl rfl ?_; (first | refine Ex_addN rfl ?_ | refine Ex_mv rfl rfl ?_); refine Ex_mv rfl rfl ?_; refine Ex_getf rfl (by assumption) rfl ?_; refine Ex_mv rfl rfl ?_; (first | refine Ex_subN rfl (by omega) ?_ | refine Ex_mv rfl rfl ?_); refine Ex_acp rfl rfl b1 b1 rfl (nI_pos (by omega)) (nI_pos (by omega)) (nI_pos (by omega)) (by rw [nI_clamp (by omega), nI_clamp (by omega)]; omega) (by rw [nI_clamp (by omega), nI_clamp (by omega)]; omega) ?_; refine Ex_mv rfl rfl ?_; refine Ex_getf rfl (p1 _) rfl ?_; refine Ex_mv rfl rfl ?_; refine Ex_mv rfl rfl ?_; refine Ex_getf rfl (p1 _) rfl ?_; refine Ex_mv rfl rfl ?_; refine Ex_mv rfl rfl ?_; (first | refine Ex_addN rfl ?_ | refine Ex_mv rfl rfl ?_); refine Ex_mv rfl rfl ?_; refine Ex_getf rfl (p1 _) rfl ?_; refine Ex_mv rfl rfl ?_; (first | refine Ex_subN rfl (by omega) ?_ | refine Ex_mv rfl rfl ?_); refine Ex_acp rfl rfl (p2 _) (p2 _) rfl (nI_pos (by omega)) (nI_pos (by omega)) (nI_pos (by omega)) (by rw [nI_clamp (by omega), nI_clamp (by omega)]; omega) (by rw [nI_clamp (by omega), nI_clamp (by omega)]; omega) ?_; refine Ex_mv rfl rfl ?_; refine Ex_getf rfl (p3 _ _) rfl ?_; refine Ex_mv rfl rfl ?_; refine Ex_mv rfl rfl ?_; refine Ex_getf rfl (p3 _ _) rfl ?_; refine Ex_mv rfl rfl ?_; (first | refine Ex_subN rfl (by omega) ?_ | refine Ex_mv rfl rfl ?_); refine Ex_iast rfl (p4 _ _) (vp_in_nI (by omega) (by decide)) ?_; refine Ex_mv rfl rfl ?_; refine Ex_getf rfl (p5 _ _ _) rfl ?_; refine Ex_mv rfl rfl ?_; refine Ex_mv rfl rfl ?_; refine Ex_iast rfl (p6 _ _ _) (vp_in_nI (by omega) (by decide)) ?_; refine Ex_mv rfl rfl ?_; refine Ex_mv rfl rfl ?_; refine Ex_getf rfl (p7 _ _ _ _) rfl ?_; refine Ex_mv rfl rfl ?_; (first | refine Ex_addN rfl ?_ | refine Ex_mv rfl rfl ?_); refine Ex_putf rfl (p7 _ _ _ _) rfl rfl ?_; refine Ex_mv rfl rfl ?_
  refine Ex_rt rfl rfl ?_
  refine ⟨rfl, ⟨?_, ⟨g, hs_ne (by omega) (hs_ne (by omega) (hs_ne (by omega) (hs_ne (by omega) (hs_ne (by omega) a2)))), a3⟩, ⟨_, hs_ne (by omega) (hs_ne (by omega) hs_at), ?_⟩, ⟨_, hs_ne (by omega) hs_at, ?_⟩, fun j hj => (a6 j hj).fr (FF _ _ _ _ _) (by omega), a7, ?_, ?_, a10⟩, (FF _ _ _ _ _).wd (by omega) (by omega)⟩
  · rw [show (L.take r ++ (pc - 1, i) :: L.drop r).length = L.length + 1 by simp; omega]
    exact hs_at
  · have := AI.ins (x := pc - 1) (r := r) b2 (by omega) (by omega)
    rw [ml1] at this
    simpa using this
  · have := AI.ins (x := i) (r := r) b4 (by omega) (by omega)
    rw [ml2] at this
    simpa using this
  · simp; omega
  · intro o ho
    rcases List.mem_append.mp ho with q | q
    · exact a9 o (List.mem_of_mem_take q)
    · rcases List.mem_cons.mp q with q | q
      · subst q; exact ⟨by simp; omega, hi⟩
      · exact a9 o (List.mem_of_mem_drop q)
theorem c_RK_insertF (hK : RK h k Q pc L) {r i : Nat} (hr : r ≤ L.length) (hl : 150 ≤ L.length) : Ev (prog nb sa) m_RK_insert [.ref k, .int (nI r), .int (nI i)] h (some (.int (nI 0))) h := by
  obtain ⟨a1, ⟨g, a2, a3⟩, ⟨g2, b1, b2⟩, ⟨g3, b3, b4⟩, a6, a7, a8, a9, a10⟩ := id hK
  refine Ev_ofL k_RK_insert 3 [some (.ref k), some (.int (nI r)), some (.int (nI i))] rfl (Nat.le_of_ble_eq_true rfl) rfl ?_
  refine Ex_mv rfl rfl ?_; refine Ex_mv rfl rfl ?_; refine Ex_lt0 (by omega) ?_; refine Ex_mv rfl rfl ?_; refine Ex_mv rfl rfl ?_; refine Ex_getf rfl (by assumption) rfl ?_; refine Ex_mv rfl rfl ?_; refine Ex_iff (nI_nlt (by omega) (by omega)) ?_; refine Ex_mv rfl rfl ?_; refine Ex_getf rfl (by assumption) rfl ?_; refine Ex_mv rfl rfl ?_; refine Ex_mv rfl rfl ?_; refine Ex_iff (nI_nlt (by omega) (by omega)) ?_; refine Ex_mv rfl rfl ?_
  exact Ex_rt rfl rfl ⟨rfl, rfl⟩
/-- the meanings of a pool's places put in, each once; none: no room -/
noncomputable def addS (B : List Nat) (S : Nat → Nat) (n : Nat) : Nat → Nat → List Mng → Option (List Mng)
  | 0, _, M => some M
  | d + 1, i, M => if tg B S n i = 0 then addS B S n d (i + 1) M else if mng B S n i ∈ M then addS B S n d (i + 1) M else if 150 ≤ M.length then none else addS B S n d (i + 1) (insM M (mng B S n i))
def RkA (h : Hp) (k : Nat) (Q : Nat → Fp) (pc : Nat) (o : Option (List Mng)) (v : Option Value) : Prop := match o with
  | none => v = some (.int (nI 0)) ∧ ∃ L, RK h k Q pc L
  | some M => v = some (.int (nI 1)) ∧ ∃ L, RK h k Q pc L ∧ mgs Q L = M ∧ SoM M
theorem RK_add_loop {q : Nat} {x1 : Option Value} (hpc : pc < 6) : ∀ (d i : Nat) (x4 x5 : Option Value) (h : Hp) (L : List (Nat × Nat)), i + d = (Q pc).2.2 ∨ d = 0 ∧ (Q pc).2.2 ≤ i → 1 ≤ i → i < 100 → RK h k Q (pc + 1) L → SoM (mgs Q L) → Ex (prog nb sa) k_RK_add 48 [some (.ref k), x1, some (.ref (k + 4 + 4 * pc)), some (.int (nI i)), x4, x5] [] h (fun v h' => RkA h' k Q (pc + 1) (addS (Q pc).1 (Q pc).2.1 (Q pc).2.2 d i (mgs Q L)) v ∧ FrI k (k + 28) h h')
  | 0, i, x4, x5, h, L, hd, h1, hi, hK, hso => by
    have hP : PO h (k + 4 + 4 * pc) (Q pc).1 (Q pc).2.1 (Q pc).2.2 := hK.2.2.2.2.1 pc hpc
    have hp := hP.1
    have hn : (Q pc).2.2 ≤ 61 := hP.2.2.2.1
    refine Ex_mv rfl rfl ?_; refine Ex_mv rfl rfl ?_; refine Ex_invV rfl (by rfl) (by rfl) (by assumption) (by rfl) (c_PL_places hP) ?_; refine Ex_mv rfl rfl ?_; refine Ex_ift (nI_le (by omega) (by omega)) ?_; refine Ex_mv rfl rfl ?_
    refine Ex_rt rfl rfl ?_
    exact ⟨⟨rfl, L, hK, rfl, hso⟩, FrI.rf⟩
  | d + 1, i, x4, x5, h, L, hd, h1, hi, hK, hso => by
    have hP : PO h (k + 4 + 4 * pc) (Q pc).1 (Q pc).2.1 (Q pc).2.2 := hK.2.2.2.2.1 pc hpc
    have hV : TV (Q pc).1 (Q pc).2.1 (Q pc).2.2 := hK.2.2.2.2.2.2.2.2 pc (by omega)
    have hp := hP.1
    have hn : (Q pc).2.2 ≤ 61 := hP.2.2.2.1
    have hc := hK.1
    have ht := tg_lt (S := (Q pc).2.1) (n := (Q pc).2.2) hP.row.lt i
    have hle := lowM_le (mgs Q L) (mng (Q pc).1 (Q pc).2.1 (Q pc).2.2 i)
    rw [mgs_len] at hle
    have hl : L.length ≤ 150 := hK.2.2.2.2.2.2.1
    rw [addS]
    by_cases e0 : tg (Q pc).1 (Q pc).2.1 (Q pc).2.2 i = 0
    · rw [if_pos e0]
      refine Ex_mv rfl rfl ?_; refine Ex_mv rfl rfl ?_; refine Ex_invV rfl (by rfl) (by rfl) (by assumption) (by rfl) (c_PL_places hP) ?_; refine Ex_mv rfl rfl ?_; refine Ex_iff (nI_ge (by omega) (by omega)) ?_; refine Ex_mv rfl rfl ?_; refine Ex_mv rfl rfl ?_; refine Ex_invV rfl (by rfl) (by rfl) (by assumption) (by rfl) (c_PL_tag hP (by omega)) ?_; refine Ex_mv rfl rfl ?_; refine Ex_iff (by rw [e0]; decide) ?_; refine Ex_mv rfl rfl ?_; refine Ex_mv rfl rfl ?_; refine Ex_mv rfl rfl ?_; refine Ex_mv rfl rfl ?_; refine Ex_mv rfl rfl ?_; refine Ex_mv rfl rfl ?_; refine Ex_ift rfl ?_; refine Ex_mv rfl rfl ?_; refine Ex_mv rfl rfl ?_; refine Ex_mv rfl rfl ?_; refine Ex_mv rfl rfl ?_; refine Ex_ift (by decide) ?_; (first | refine Ex_incN rfl rfl ?_ | refine Ex_mv rfl rfl ?_); refine Ex_mv rfl rfl ?_
      exact RK_add_loop (q := q) hpc d (i + 1) _ _ h L (by omega) (by omega) (by omega) hK hso
    · rw [if_neg e0]
      by_cases e1 : mng (Q pc).1 (Q pc).2.1 (Q pc).2.2 i ∈ mgs Q L
      · rw [if_pos e1]
        have g1 := lowM_has (mgs Q L) hso e1
        have hlt : lowM (mgs Q L) (mng (Q pc).1 (Q pc).2.1 (Q pc).2.2 i) < L.length := by
          rcases Nat.lt_or_ge (lowM (mgs Q L) (mng (Q pc).1 (Q pc).2.1 (Q pc).2.2 i)) L.length with z | z
          · exact z
          · rw [List.getElem?_eq_none (by rw [mgs_len]; exact z)] at g1; cases g1
        have g2 : mg Q (L.getD (lowM (mgs Q L) (mng (Q pc).1 (Q pc).2.1 (Q pc).2.2 i)) (0, 0)) = mng (Q pc).1 (Q pc).2.1 (Q pc).2.2 i := by
          rw [← mgs_at hlt]
          rw [List.getElem?_eq_getElem (by rw [mgs_len]; exact hlt)] at g1
          exact Option.some.inj g1
        refine Ex_mv rfl rfl ?_; refine Ex_mv rfl rfl ?_; refine Ex_invV rfl (by rfl) (by rfl) (by assumption) (by rfl) (c_PL_places hP) ?_; refine Ex_mv rfl rfl ?_; refine Ex_iff (nI_ge (by omega) (by omega)) ?_; refine Ex_mv rfl rfl ?_; refine Ex_mv rfl rfl ?_; refine Ex_invV rfl (by rfl) (by rfl) (by assumption) (by rfl) (c_PL_tag hP (by omega)) ?_; refine Ex_mv rfl rfl ?_; refine Ex_ift (nI_nz e0 (by omega)) ?_; refine Ex_mv rfl rfl ?_; refine Ex_mv rfl rfl ?_; refine Ex_mv rfl rfl ?_; refine Ex_invV rfl (by rfl) (by rfl) (by assumption) (by rfl) (c_RK_firstNotBelow hK hP hV (by omega) hso) ?_; refine Ex_mv rfl rfl ?_; refine Ex_mv rfl rfl ?_; refine Ex_mv rfl rfl ?_; refine Ex_mv rfl rfl ?_; refine Ex_iff (nI_nm1 (by omega)) ?_; refine Ex_mv rfl rfl ?_; refine Ex_mv rfl rfl ?_; refine Ex_mv rfl rfl ?_; refine Ex_mv rfl rfl ?_; refine Ex_invV rfl (by rfl) (by rfl) (by assumption) (by rfl) (c_RK_orderOf hK hP hV (by omega) hlt) ?_
        rw [g2, cmpM_eq.mpr rfl]
        refine Ex_mv rfl rfl ?_; refine Ex_ift rfl ?_; refine Ex_mv rfl rfl ?_; refine Ex_mv rfl rfl ?_; refine Ex_mv rfl rfl ?_; refine Ex_mv rfl rfl ?_; refine Ex_ift (by decide) ?_; (first | refine Ex_incN rfl rfl ?_ | refine Ex_mv rfl rfl ?_); refine Ex_mv rfl rfl ?_
        exact RK_add_loop (q := q) hpc d (i + 1) _ _ h L (by omega) (by omega) (by omega) hK hso
      · rw [if_neg e1]
        have hE : ∃ c, Ev (prog nb sa) m_RK_orderOf [.ref k, .int (nI (lowM (mgs Q L) (mng (Q pc).1 (Q pc).2.1 (Q pc).2.2 i))), .ref (k + 4 + 4 * pc), .int (nI i)] h (some (.int c)) h ∧ ¬ c = 0 := by
          rcases Nat.lt_or_ge (lowM (mgs Q L) (mng (Q pc).1 (Q pc).2.1 (Q pc).2.2 i)) L.length with hlt | hge
          · refine ⟨_, c_RK_orderOf hK hP hV (by omega) hlt, fun z => e1 ?_⟩
            rw [← cmpM_eq.mp z, ← mgs_at hlt]
            exact List.getElem_mem _
          · exact ⟨_, c_RK_orderOfN hK hge (by omega), by decide⟩
        obtain ⟨c, hE1, hE2⟩ := hE
        by_cases e2 : 150 ≤ (mgs Q L).length
        · rw [if_pos e2]
          rw [mgs_len] at e2
          refine Ex_mv rfl rfl ?_; refine Ex_mv rfl rfl ?_; refine Ex_invV rfl (by rfl) (by rfl) (by assumption) (by rfl) (c_PL_places hP) ?_; refine Ex_mv rfl rfl ?_; refine Ex_iff (nI_ge (by omega) (by omega)) ?_; refine Ex_mv rfl rfl ?_; refine Ex_mv rfl rfl ?_; refine Ex_invV rfl (by rfl) (by rfl) (by assumption) (by rfl) (c_PL_tag hP (by omega)) ?_; refine Ex_mv rfl rfl ?_; refine Ex_ift (nI_nz e0 (by omega)) ?_; refine Ex_mv rfl rfl ?_; refine Ex_mv rfl rfl ?_; refine Ex_mv rfl rfl ?_; refine Ex_invV rfl (by rfl) (by rfl) (by assumption) (by rfl) (c_RK_firstNotBelow hK hP hV (by omega) hso) ?_; refine Ex_mv rfl rfl ?_; refine Ex_mv rfl rfl ?_; refine Ex_mv rfl rfl ?_; refine Ex_mv rfl rfl ?_; refine Ex_iff (nI_nm1 (by omega)) ?_; refine Ex_mv rfl rfl ?_; refine Ex_mv rfl rfl ?_; refine Ex_mv rfl rfl ?_; refine Ex_mv rfl rfl ?_; refine Ex_invV rfl (by rfl) (by rfl) (by assumption) (by rfl) (hE1) ?_; refine Ex_mv rfl rfl ?_; refine Ex_iff hE2 ?_; refine Ex_mv rfl rfl ?_; refine Ex_mv rfl rfl ?_; refine Ex_mv rfl rfl ?_; refine Ex_mv rfl rfl ?_; refine Ex_mv rfl rfl ?_; refine Ex_iff (by decide) ?_; refine Ex_mv rfl rfl ?_; refine Ex_mv rfl rfl ?_; refine Ex_mv rfl rfl ?_; refine Ex_invV rfl (by rfl) (by rfl) (by assumption) (by rfl) (c_RK_insertF hK hle e2) ?_; refine Ex_mv rfl rfl ?_; refine Ex_iff (by decide) ?_; refine Ex_mv rfl rfl ?_
          refine Ex_rt rfl rfl ?_
          exact ⟨⟨rfl, L, hK⟩, FrI.rf⟩
        · rw [if_neg e2]
          rw [mgs_len] at e2
          obtain ⟨_, h2, e3, rfl, K2, F2⟩ := c_RK_insert (nb := nb) (sa := sa) hK (r := lowM (mgs Q L) (mng (Q pc).1 (Q pc).2.1 (Q pc).2.2 i)) (i := i) hle (by omega) (by omega) (by omega)
          have hP2 : PO h2 (k + 4 + 4 * pc) (Q pc).1 (Q pc).2.1 (Q pc).2.2 := K2.2.2.2.2.1 pc hpc
          have hm2 : mgs Q (L.take (lowM (mgs Q L) (mng (Q pc).1 (Q pc).2.1 (Q pc).2.2 i)) ++ (pc + 1 - 1, i) :: L.drop (lowM (mgs Q L) (mng (Q pc).1 (Q pc).2.1 (Q pc).2.2 i))) = insM (mgs Q L) (mng (Q pc).1 (Q pc).2.1 (Q pc).2.2 i) := by
            rw [insM_new _ e1]
            simp only [mgs, List.map_append, List.map_cons, List.map_take, List.map_drop]
            rfl
          have ih := RK_add_loop (q := q) (x1 := x1) hpc d (i + 1) (some (.int (nI (lowM (mgs Q L) (mng (Q pc).1 (Q pc).2.1 (Q pc).2.2 i))))) (some (.int (nI 1))) h2 _ (by omega) (by omega) (by omega) K2 (by rw [hm2]; exact insM_so _ hso)
          rw [hm2] at ih
          refine Ex_mv rfl rfl ?_; refine Ex_mv rfl rfl ?_; refine Ex_invV rfl (by rfl) (by rfl) (by assumption) (by rfl) (c_PL_places hP) ?_; refine Ex_mv rfl rfl ?_; refine Ex_iff (nI_ge (by omega) (by omega)) ?_; refine Ex_mv rfl rfl ?_; refine Ex_mv rfl rfl ?_; refine Ex_invV rfl (by rfl) (by rfl) (by assumption) (by rfl) (c_PL_tag hP (by omega)) ?_; refine Ex_mv rfl rfl ?_; refine Ex_ift (nI_nz e0 (by omega)) ?_; refine Ex_mv rfl rfl ?_; refine Ex_mv rfl rfl ?_; refine Ex_mv rfl rfl ?_; refine Ex_invV rfl (by rfl) (by rfl) (by assumption) (by rfl) (c_RK_firstNotBelow hK hP hV (by omega) hso) ?_; refine Ex_mv rfl rfl ?_; refine Ex_mv rfl rfl ?_; refine Ex_mv rfl rfl ?_; refine Ex_mv rfl rfl ?_; refine Ex_iff (nI_nm1 (by omega)) ?_; refine Ex_mv rfl rfl ?_; refine Ex_mv rfl rfl ?_; refine Ex_mv rfl rfl ?_; refine Ex_mv rfl rfl ?_; refine Ex_invV rfl (by rfl) (by rfl) (by assumption) (by rfl) (hE1) ?_; refine Ex_mv rfl rfl ?_; refine Ex_iff hE2 ?_; refine Ex_mv rfl rfl ?_; refine Ex_mv rfl rfl ?_; refine Ex_mv rfl rfl ?_; refine Ex_mv rfl rfl ?_; refine Ex_mv rfl rfl ?_; refine Ex_iff (by decide) ?_; refine Ex_mv rfl rfl ?_; refine Ex_mv rfl rfl ?_; refine Ex_mv rfl rfl ?_; refine Ex_invV rfl (by rfl) (by rfl) (by assumption) (by rfl) (e3) ?_; refine Ex_mv rfl rfl ?_; refine Ex_ift (by decide) ?_; (first | refine Ex_incN rfl rfl ?_ | refine Ex_mv rfl rfl ?_); refine Ex_mv rfl rfl ?_
          refine Ex_mono ih ?_
          rintro v h' ⟨q1, q2⟩
          exact ⟨q1, F2.tr q2⟩
def upQ (Q : Nat → Fp) (pc : Nat) (z : Fp) : Nat → Fp := fun i => if i = pc then z else Q i
theorem mgs_upQ {z : Fp} (hL : ∀ o ∈ L, o.1 < pc ∧ o.2 < 61) : mgs (upQ Q pc z) L = mgs Q L := by
  unfold mgs
  refine List.map_congr_left (fun o ho => ?_)
  unfold mg upQ
  rw [if_neg (by have := hL o ho; omega)]
theorem c_RK_add {q n' : Nat} {B' : List Nat} {S' : Nat → Nat} (hK : RK h k Q pc L) (hP : PO h q B' S' n') (hV : TV B' S' n') (hd : q + 4 ≤ k ∨ k + 28 ≤ q) (hpc : pc < 6) (hso : SoM (mgs Q L)) : EvQ (prog nb sa) m_RK_add [.ref k, .ref q] h (fun v h' => RkA h' k (upQ Q pc (B', S', n')) (pc + 1) (addS B' S' n' (n' - 1) 1 (mgs Q L)) v ∧ FrI k (k + 28) h h') := by
  obtain ⟨a1, ⟨g, a2, a3⟩, ⟨g2, b1, b2⟩, ⟨g3, b3, b4⟩, a6, a7, a8, a9, a10⟩ := id hK
  have hPp := a6 pc hpc
  have hpp := hPp.1
  obtain ⟨_, h1, e1, rfl, P1, F1⟩ := c_PL_copy (nb := nb) (sa := sa) hPp hP (by omega)
  have e2 : g (nI pc).toNatClampNeg = some (k + 4 + 4 * pc) := by rw [nI_clamp (by omega)]; exact a3 pc hpc
  have ak := F1.at a1 (by omega)
  have F2 : ∀ z, FrI k (k + 1) h1 (hset h1 k z) := fun z => FrI.rf.set (by omega) (by omega)
  have K2 : RK (hset h1 k (.inr (2, [.ref (k + 1), .int (nI (pc + 1)), .ref (k + 2), .ref (k + 3), .int (nI L.length)]))) k (upQ Q pc (B', S', n')) (pc + 1) L := by
    refine ⟨hs_at, ⟨g, hs_ne (by omega) (F1.at a2 (by omega)), a3⟩, ⟨g2, hs_ne (by omega) (F1.at b1 (by omega)), b2⟩, ⟨g3, hs_ne (by omega) (F1.at b3 (by omega)), b4⟩, fun i hi => ?_, by omega, a8, fun o ho => ⟨by have := a9 o ho; omega, (a9 o ho).2⟩, fun i hi => ?_⟩
    · unfold upQ
      by_cases hx : i = pc
      · subst hx; rw [if_pos rfl]; exact P1.fr (F2 _) (by omega)
      · rw [if_neg hx]; exact ((a6 i hi).fr F1 (by omega)).fr (F2 _) (by omega)
    · unfold upQ
      by_cases hx : i = pc
      · rw [if_pos hx]; exact hV
      · rw [if_neg hx]; exact a10 i (by omega)
  have hup : (upQ Q pc (B', S', n')) pc = (B', S', n') := by unfold upQ; rw [if_pos rfl]
  have hn : n' ≤ 61 := hP.2.2.2.1
  have ih := RK_add_loop (nb := nb) (sa := sa) (q := q) (x1 := some (.ref q)) (Q := upQ Q pc (B', S', n')) hpc (n' - 1) 1 none none _ L (by rw [hup]; simp only; omega) (by omega) (by omega) K2 (by rw [mgs_upQ a9]; exact hso)
  rw [hup, mgs_upQ a9] at ih
  refine EvQ_of k_RK_add 6 [some (.ref k), some (.ref q), none, none, none, none] rfl (Nat.le_of_ble_eq_true rfl) rfl ?_
  refine Ex_mv rfl rfl ?_; refine Ex_getf rfl (by assumption) rfl ?_; refine Ex_mv rfl rfl ?_; refine Ex_lt0 (by omega) ?_; refine Ex_mv rfl rfl ?_; refine Ex_getf rfl (by assumption) rfl ?_; refine Ex_mv rfl rfl ?_; refine Ex_getf rfl (by assumption) rfl ?_; refine Ex_alen rfl (by assumption) rfl ?_; refine Ex_mv rfl rfl ?_; refine Ex_ift (nI_lt (by omega) (by omega)) ?_; refine Ex_mv rfl rfl ?_; refine Ex_getf rfl (by assumption) rfl ?_; refine Ex_mv rfl rfl ?_; refine Ex_getf rfl (by assumption) rfl ?_; refine Ex_aald rfl (by assumption) rfl (vp_in_nI (by omega) (by decide)) e2 ?_; refine Ex_mv rfl rfl ?_; refine Ex_mv rfl rfl ?_; refine Ex_mv rfl rfl ?_; refine Ex_invV rfl (by rfl) (by rfl) (by assumption) (by rfl) (e1) ?_; refine Ex_mv rfl rfl ?_; refine Ex_mv rfl rfl ?_; refine Ex_getf rfl (by assumption) rfl ?_; refine Ex_mv rfl rfl ?_; (first | refine Ex_addN rfl ?_ | refine Ex_mv rfl rfl ?_); refine Ex_putf rfl (by assumption) rfl rfl ?_; refine Ex_mv rfl rfl ?_; refine Ex_mv rfl rfl ?_
  refine Ex_mono ih ?_
  rintro v h' ⟨q1, q2⟩
  exact ⟨q1, ((F1.wd (by omega) (by omega)).tr ((F2 _).wd (by omega) (by omega))).tr q2⟩
/-- how many places of a pool have a meaning -/
noncomputable def talS (B : List Nat) (S : Nat → Nat) (n : Nat) (m : Mng) : Nat → Nat → Nat
  | 0, _ => 0
  | d + 1, i => (if m = mng B S n i then 1 else 0) + talS B S n m d (i + 1)
theorem RK_tally_loop {q n' : Nat} {B' : List Nat} {S' : Nat → Nat} (hK : RK h k Q pc L) (hP : PO h q B' S' n') (hV : TV B' S' n') {r : Nat} (hr : r < L.length) : ∀ (d i s : Nat), i + d = n' ∨ d = 0 ∧ n' ≤ i → i < 100 → s ≤ i → Ex (prog nb sa) k_RK_tally 5 [some (.ref k), some (.int (nI r)), some (.ref q), some (.int (nI s)), some (.int (nI i))] [] h (fun v h' => v = some (.int (nI (s + talS B' S' n' (mg Q (L.getD r (0, 0))) d i))) ∧ h' = h)
  | 0, i, s, hd, hi, hs => by
    have hp := hP.1
    have hn : n' ≤ 61 := hP.2.2.2.1
    refine Ex_mv rfl rfl ?_; refine Ex_mv rfl rfl ?_; refine Ex_invV rfl (by rfl) (by rfl) (by assumption) (by rfl) (c_PL_places hP) ?_; refine Ex_mv rfl rfl ?_; refine Ex_ift (nI_le (by omega) (by omega)) ?_; refine Ex_mv rfl rfl ?_
    exact Ex_rt rfl rfl ⟨rfl, rfl⟩
  | d + 1, i, s, hd, hi, hs => by
    have hp := hP.1
    have hc := hK.1
    have hn : n' ≤ 61 := hP.2.2.2.1
    have hl : L.length ≤ 150 := hK.2.2.2.2.2.2.1
    rw [talS]
    by_cases e : mg Q (L.getD r (0, 0)) = mng B' S' n' i
    · rw [if_pos e, ← Nat.add_assoc]
      refine Ex_mv rfl rfl ?_; refine Ex_mv rfl rfl ?_; refine Ex_invV rfl (by rfl) (by rfl) (by assumption) (by rfl) (c_PL_places hP) ?_; refine Ex_mv rfl rfl ?_; refine Ex_iff (nI_ge (by omega) (by omega)) ?_; refine Ex_mv rfl rfl ?_; refine Ex_mv rfl rfl ?_; refine Ex_mv rfl rfl ?_; refine Ex_mv rfl rfl ?_; refine Ex_invV rfl (by rfl) (by rfl) (by assumption) (by rfl) (c_RK_orderOf hK hP hV (by omega) hr) ?_; refine Ex_mv rfl rfl ?_; refine Ex_iff (not_not_intro (cmpM_eq.mpr e)) ?_; (first | refine Ex_incN rfl rfl ?_ | refine Ex_mv rfl rfl ?_); (first | refine Ex_incN rfl rfl ?_ | refine Ex_mv rfl rfl ?_); refine Ex_mv rfl rfl ?_
      exact RK_tally_loop hK hP hV hr d (i + 1) (s + 1) (by omega) (by omega) (by omega)
    · rw [if_neg e, Nat.zero_add]
      refine Ex_mv rfl rfl ?_; refine Ex_mv rfl rfl ?_; refine Ex_invV rfl (by rfl) (by rfl) (by assumption) (by rfl) (c_PL_places hP) ?_; refine Ex_mv rfl rfl ?_; refine Ex_iff (nI_ge (by omega) (by omega)) ?_; refine Ex_mv rfl rfl ?_; refine Ex_mv rfl rfl ?_; refine Ex_mv rfl rfl ?_; refine Ex_mv rfl rfl ?_; refine Ex_invV rfl (by rfl) (by rfl) (by assumption) (by rfl) (c_RK_orderOf hK hP hV (by omega) hr) ?_; refine Ex_mv rfl rfl ?_; refine Ex_ift (ne_nI0 (fun z => e (cmpM_eq.mp z))) ?_; (first | refine Ex_incN rfl rfl ?_ | refine Ex_mv rfl rfl ?_); refine Ex_mv rfl rfl ?_
      exact RK_tally_loop hK hP hV hr d (i + 1) s (by omega) (by omega) (by omega)
theorem c_RK_tally {q n' : Nat} {B' : List Nat} {S' : Nat → Nat} (hK : RK h k Q pc L) (hP : PO h q B' S' n') (hV : TV B' S' n') {r : Nat} (hr : r < L.length) : Ev (prog nb sa) m_RK_tally [.ref k, .int (nI r), .ref q] h (some (.int (nI (talS B' S' n' (mg Q (L.getD r (0, 0))) (n' - 1) 1)))) h := by
  refine Ev_ofL k_RK_tally 5 [some (.ref k), some (.int (nI r)), some (.ref q), none, none] rfl (Nat.le_of_ble_eq_true rfl) rfl ?_
  refine Ex_mv rfl rfl ?_; refine Ex_mv rfl rfl ?_; refine Ex_mv rfl rfl ?_; refine Ex_mv rfl rfl ?_
  refine Ex_mono (RK_tally_loop hK hP hV hr (n' - 1) 1 0 (by omega) (by omega) (by omega)) ?_
  rintro v h' ⟨rfl, rfl⟩
  rw [Nat.zero_add]
  exact ⟨rfl, rfl⟩
end RANK2
end
section
/-! Writer -/
/-- the place that the meaning of a rank gets -/
def hpM : List Mng → Nat → Nat
  | _, 0 => 1
  | [], _ + 1 => 1
  | m :: M, r + 1 => hpM M r + wst m.1
theorem hpM_pos : ∀ (M : List Mng) (r : Nat), 1 ≤ hpM M r
  | M, 0 => by cases M <;> exact Nat.le_refl _
  | [], _ + 1 => Nat.le_refl _
  | m :: M, r + 1 => by have := hpM_pos M r; unfold hpM; omega
theorem hpM_le : ∀ (M : List Mng) (r : Nat), hpM M r ≤ 1 + 2 * r
  | M, 0 => by cases M <;> exact Nat.le_refl _
  | [], r + 1 => by unfold hpM; omega
  | m :: M, r + 1 => by have := hpM_le M r; have := wst_b m.1; unfold hpM; omega
theorem hpM_succ : ∀ (M : List Mng) (r : Nat) (hr : r < M.length), hpM M (r + 1) = hpM M r + wst (M[r]).1
  | [], r, hr => by simp at hr
  | m :: M, 0, hr => by cases M <;> rfl
  | m :: M, r + 1, hr => by
    have hr2 : r < M.length := by simpa using hr
    have := hpM_succ M r hr2
    show hpM M (r + 1) + wst m.1 = hpM M r + wst m.1 + wst (M[r]'hr2).1
    rw [this]; omega
/-- the place that a place gets -/
noncomputable def mvP (M : List Mng) (B : List Nat) (S : Nat → Nat) (n i : Nat) : Nat := if tg B S n i = 0 then 0 else hpM M (lowM M (mng B S n i))
def WR (h : Hp) (w r : Nat) (f g : Nat → Int32) : Prop := h.2.2 w = some (true, .inr (5, [.ref r, .ref (w + 1), .ref (w + 2)])) ∧ h.2.2 (w + 1) = some (true, .inl (1, 61, .inl f)) ∧ h.2.2 (w + 2) = some (true, .inl (1, 61, .inl g))
theorem WR.fr {h h' : Hp} {w r lo hi : Nat} {f g : Nat → Int32} (h1 : WR h w r f g) (F : FrI lo hi h h') (hq : w + 3 ≤ lo ∨ hi ≤ w) : WR h' w r f g := ⟨F.at h1.1 (by omega), F.at h1.2.1 (by omega), F.at h1.2.2 (by omega)⟩
section WRITER
variable {nb sa : Nat} {k pc w r : Nat} {Q : Nat → Fp} {L : List (Nat × Nat)} {c n bh aa : Nat} {B M0 M1 : List Nat} {S : Nat → Nat} {TL : List (Nat × Nat)}
theorem mgs_wst {rk : Nat} (hr : rk < L.length) : wst (mg Q (L.getD rk (0, 0))).1 = wst ((mgs Q L)[rk]'(by rw [mgs_len]; exact hr)).1 := by rw [mgs_at hr]
theorem WR_move_loop1 {x5 : Option Value} : ∀ (d i : Nat) (h : Hp) (f g : Nat → Int32) (R : Option Value → Hp → Prop), i + d = L.length → L.length ≤ 61 → RK h k Q pc L → (w + 3 ≤ k ∨ k + 28 ≤ w) → WR h w r f g → (∀ h' f', FrI (w + 1) (w + 2) h h' → WR h' w r f' g → (∀ j, j < i → f' j = f j) → (∀ j, i ≤ j → j < L.length → f' j = nI (hpM (mgs Q L) j)) → Ex (prog nb sa) k_WR_movePlaces 58 [some (.ref w), some (.ref c), some (.ref k), some (.int (nI (hpM (mgs Q L) L.length))), some (.int (nI L.length)), x5] [] h' R) → Ex (prog nb sa) k_WR_movePlaces 5 [some (.ref w), some (.ref c), some (.ref k), some (.int (nI (hpM (mgs Q L) i))), some (.int (nI i)), x5] [] h R
  | 0, i, h, f, g, R, hd, hl, hK, hdd, hW, K => by
    have hc := hK.1
    have : i = L.length := by omega
    subst this
    refine Ex_mv rfl rfl ?_; refine Ex_mv rfl rfl ?_; refine Ex_invV rfl (by rfl) (by rfl) (by assumption) (by rfl) (c_RK_size hK) ?_; refine Ex_mv rfl rfl ?_; refine Ex_ift (nI_le (by omega) (by omega)) ?_
    exact K h f FrI.rf hW (fun _ _ => rfl) (fun j h1 h2 => by omega)
  | d + 1, i, h, f, g, R, hd, hl, hK, hdd, hW, K => by
    have hc := hK.1
    obtain ⟨w1, w2, w3⟩ := id hW
    have hir : i < L.length := by omega
    have hpl := hpM_le (mgs Q L) i
    have F1 : ∀ z, FrI (w + 1) (w + 2) h (hset h (w + 1) z) := fun z => FrI.rf.set (by omega) (by omega)
    have hK2 : ∀ z, RK (hset h (w + 1) z) k Q pc L := fun z => hK.fr (F1 z) (by omega)
    have hc2 : ∀ z, (hset h (w + 1) z).2.2 k = _ := fun z => (hK2 z).1
    have hs := hpM_succ (mgs Q L) i (by rw [mgs_len]; exact hir)
    rw [← mgs_wst hir] at hs
    have hW2 : WR (hset h (w + 1) (.inl (1, 61, .inl (upd f (nI i).toNatClampNeg (nI (hpM (mgs Q L) i)))))) w r (upd f (nI i).toNatClampNeg (nI (hpM (mgs Q L) i))) g := ⟨hs_ne (by omega) w1, hs_at, hs_ne (by omega) w3⟩
    have ht : (mg Q (L.getD i (0, 0))).1 < 256 := by
      obtain ⟨p1, -⟩ := hK.pool hir
      exact tg_lt p1.row.lt _
    have ih := WR_move_loop1 (x5 := x5) d (i + 1) _ _ g R (by omega) hl (hK2 _) hdd hW2 (fun h' f' F' W' q1 q2 => K h' f' ((F1 _).tr F') W' (fun j hj => by rw [q1 j (by omega), nI_clamp (by omega), pk_un (by omega)]) (fun j hj1 hj2 => by
      by_cases e : j = i
      · rw [q1 j (by omega), e, nI_clamp (by omega), pk_us]
      · exact q2 j (by omega) hj2))
    by_cases hwd : (mg Q (L.getD i (0, 0))).1 = 5 ∨ (mg Q (L.getD i (0, 0))).1 = 6
    · have ew : wst (mg Q (L.getD i (0, 0))).1 = 2 := if_pos hwd
      rw [hs, ew] at ih
      refine Ex_mv rfl rfl ?_; refine Ex_mv rfl rfl ?_; refine Ex_invV rfl (by rfl) (by rfl) (by assumption) (by rfl) (c_RK_size hK) ?_; refine Ex_mv rfl rfl ?_; refine Ex_iff (nI_ge (by omega) (by omega)) ?_; refine Ex_mv rfl rfl ?_; refine Ex_mv rfl rfl ?_; refine Ex_getf rfl (by assumption) rfl ?_; refine Ex_alen rfl (by assumption) rfl ?_; refine Ex_mv rfl rfl ?_; refine Ex_iff (nI_ge (by omega) (by omega)) ?_; refine Ex_mv rfl rfl ?_; refine Ex_getf rfl (by assumption) rfl ?_; refine Ex_mv rfl rfl ?_; refine Ex_mv rfl rfl ?_; refine Ex_iast rfl w2 (vp_in_nI (by omega) (by decide)) ?_; refine Ex_mv rfl rfl ?_; refine Ex_mv rfl rfl ?_; refine Ex_mv rfl rfl ?_; refine Ex_invV rfl (by rfl) (by rfl) (hc2 _) (by rfl) (c_RK_tag (hK2 _) hir) ?_; refine Ex_inv rfl (by rfl) (by rfl) (by rfl) (c_CP_isWide (by omega)) ?_
      rw [if_pos hwd]
      refine Ex_mv rfl rfl ?_; refine Ex_iff (by decide) ?_; refine Ex_mv rfl rfl ?_; refine Ex_mv rfl rfl ?_; (first | refine Ex_addN rfl ?_ | refine Ex_mv rfl rfl ?_); refine Ex_mv rfl rfl ?_; (first | refine Ex_incN rfl rfl ?_ | refine Ex_mv rfl rfl ?_); refine Ex_mv rfl rfl ?_
      exact ih
    · have ew : wst (mg Q (L.getD i (0, 0))).1 = 1 := if_neg hwd
      rw [hs, ew] at ih
      refine Ex_mv rfl rfl ?_; refine Ex_mv rfl rfl ?_; refine Ex_invV rfl (by rfl) (by rfl) (by assumption) (by rfl) (c_RK_size hK) ?_; refine Ex_mv rfl rfl ?_; refine Ex_iff (nI_ge (by omega) (by omega)) ?_; refine Ex_mv rfl rfl ?_; refine Ex_mv rfl rfl ?_; refine Ex_getf rfl (by assumption) rfl ?_; refine Ex_alen rfl (by assumption) rfl ?_; refine Ex_mv rfl rfl ?_; refine Ex_iff (nI_ge (by omega) (by omega)) ?_; refine Ex_mv rfl rfl ?_; refine Ex_getf rfl (by assumption) rfl ?_; refine Ex_mv rfl rfl ?_; refine Ex_mv rfl rfl ?_; refine Ex_iast rfl w2 (vp_in_nI (by omega) (by decide)) ?_; refine Ex_mv rfl rfl ?_; refine Ex_mv rfl rfl ?_; refine Ex_mv rfl rfl ?_; refine Ex_invV rfl (by rfl) (by rfl) (hc2 _) (by rfl) (c_RK_tag (hK2 _) hir) ?_; refine Ex_inv rfl (by rfl) (by rfl) (by rfl) (c_CP_isWide (by omega)) ?_
      rw [if_neg hwd]
      refine Ex_mv rfl rfl ?_; refine Ex_ift (by decide) ?_; refine Ex_mv rfl rfl ?_; (first | refine Ex_addN rfl ?_ | refine Ex_mv rfl rfl ?_); refine Ex_mv rfl rfl ?_; (first | refine Ex_incN rfl rfl ?_ | refine Ex_mv rfl rfl ?_); refine Ex_mv rfl rfl ?_
      exact ih
theorem WR_move_loop2 {x3 : Nat} {f : Nat → Int32} : ∀ (d i : Nat) (x5 : Option Value) (h : Hp) (g : Nat → Int32), i + d = n ∨ d = 0 ∧ n ≤ i → i < 100 → L.length ≤ 61 → RK h k Q pc L → CF h c B S n bh aa M0 M1 TL → (w + 3 ≤ k ∨ k + 28 ≤ w) → (w + 3 ≤ c ∨ c + 11 ≤ w) → WR h w r f g → TV B S n → SoM (mgs Q L) → (∀ j, j < L.length → f j = nI (hpM (mgs Q L) j)) → (∀ j, tg B S n j ≠ 0 → mng B S n j ∈ mgs Q L) → Ex (prog nb sa) k_WR_movePlaces 61 [some (.ref w), some (.ref c), some (.ref k), some (.int (nI x3)), some (.int (nI i)), x5] [] h (fun v h' => v = some (.int (nI x3)) ∧ FrI (w + 2) (w + 3) h h' ∧ ∃ g', WR h' w r f g' ∧ (∀ j, j < i → g' j = g j) ∧ ∀ j, i ≤ j → j < n → g' j = nI (mvP (mgs Q L) B S n j))
  | 0, i, x5, h, g, hd, hi, hl, hK, hC, hd1, hd2, hW, hV, hso, hf, hall => by
    have hc := hC.1
    have hp := hC.po.1
    have hn : n ≤ 61 := hC.po.2.2.2.1
    refine Ex_mv rfl rfl ?_; refine Ex_mv rfl rfl ?_; refine Ex_getf rfl (by assumption) rfl ?_; refine Ex_invV rfl (by rfl) (by rfl) (by assumption) (by rfl) (c_PL_places hC.po) ?_; refine Ex_mv rfl rfl ?_; refine Ex_ift (nI_le (by omega) (by omega)) ?_; refine Ex_mv rfl rfl ?_
    refine Ex_rt rfl rfl ?_
    exact ⟨rfl, FrI.rf, g, hW, fun _ _ => rfl, fun j h1 h2 => by omega⟩
  | d + 1, i, x5, h, g, hd, hi, hl, hK, hC, hd1, hd2, hW, hV, hso, hf, hall => by
    have hc := hC.1
    have hk := hK.1
    have hp := hC.po.1
    have hn : n ≤ 61 := hC.po.2.2.2.1
    obtain ⟨w1, w2, w3⟩ := id hW
    have ht := tg_lt (S := S) (n := n) hC.row.lt i
    have F1 : ∀ z, FrI (w + 2) (w + 3) h (hset h (w + 2) z) := fun z => FrI.rf.set (by omega) (by omega)
    have fin : ∀ (x5 : Option Value) (y : Nat), y = mvP (mgs Q L) B S n i → Ex (prog nb sa) k_WR_movePlaces 144 [some (.ref w), some (.ref c), some (.ref k), some (.int (nI x3)), some (.int (nI i)), x5] [] (hset h (w + 2) (.inl (1, 61, .inl (upd g (nI i).toNatClampNeg (nI y))))) (fun v h' => v = some (.int (nI x3)) ∧ FrI (w + 2) (w + 3) h h' ∧ ∃ g', WR h' w r f g' ∧ (∀ j, j < i → g' j = g j) ∧ ∀ j, i ≤ j → j < n → g' j = nI (mvP (mgs Q L) B S n j)) := by
      intro x5 y hy
      have hW2 : WR (hset h (w + 2) (.inl (1, 61, .inl (upd g (nI i).toNatClampNeg (nI y))))) w r f (upd g (nI i).toNatClampNeg (nI y)) := ⟨hs_ne (by omega) w1, hs_ne (by omega) w2, hs_at⟩
      have ih := WR_move_loop2 (x3 := x3) d (i + 1) x5 _ _ (by omega) (by omega) hl (hK.fr (F1 _) (by omega)) (hC.fr (F1 _) (by omega)) hd1 hd2 hW2 hV hso hf hall
      (first | refine Ex_incN rfl rfl ?_ | refine Ex_mv rfl rfl ?_); refine Ex_mv rfl rfl ?_
      refine Ex_mono ih ?_
      rintro v h' ⟨rfl, q1, g', q2, q3, q4⟩
      refine ⟨rfl, (F1 _).tr q1, g', q2, fun j hj => ?_, fun j h1 h2 => ?_⟩
      · rw [q3 j (by omega), nI_clamp (by omega), pk_un (by omega)]
      · by_cases e : j = i
        · rw [q3 j (by omega), e, nI_clamp (by omega), pk_us, hy]
        · exact q4 j (by omega) h2
    by_cases e0 : tg B S n i = 0
    · refine Ex_mv rfl rfl ?_; refine Ex_mv rfl rfl ?_; refine Ex_getf rfl (by assumption) rfl ?_; refine Ex_invV rfl (by rfl) (by rfl) (by assumption) (by rfl) (c_PL_places hC.po) ?_; refine Ex_mv rfl rfl ?_; refine Ex_iff (nI_ge (by omega) (by omega)) ?_; refine Ex_mv rfl rfl ?_; refine Ex_mv rfl rfl ?_; refine Ex_getf rfl (by assumption) rfl ?_; refine Ex_alen rfl (by assumption) rfl ?_; refine Ex_mv rfl rfl ?_; refine Ex_iff (nI_ge (by omega) (by omega)) ?_; refine Ex_mv rfl rfl ?_; refine Ex_getf rfl (by assumption) rfl ?_; refine Ex_mv rfl rfl ?_; refine Ex_invV rfl (by rfl) (by rfl) (by assumption) (by rfl) (c_PL_tag hC.po (by omega)) ?_; refine Ex_mv rfl rfl ?_; refine Ex_iff (by rw [e0]; decide) ?_; refine Ex_mv rfl rfl ?_; refine Ex_mv rfl rfl ?_; refine Ex_mv rfl rfl ?_; refine Ex_mv rfl rfl ?_; refine Ex_getf rfl (by assumption) rfl ?_; refine Ex_mv rfl rfl ?_; refine Ex_mv rfl rfl ?_; refine Ex_mv rfl rfl ?_; refine Ex_ift (by decide) ?_; refine Ex_mv rfl rfl ?_; refine Ex_iast rfl w3 (vp_in_nI (by omega) (by decide)) ?_
      exact fin _ 0 (by unfold mvP; rw [if_pos e0])
    · have hm := hall i e0
      have hfd : fndM (mgs Q L) (mng B S n i) = some (lowM (mgs Q L) (mng B S n i)) := if_pos hm
      have g1 := lowM_has (mgs Q L) hso hm
      have hlt : lowM (mgs Q L) (mng B S n i) < L.length := by
        rcases Nat.lt_or_ge (lowM (mgs Q L) (mng B S n i)) L.length with z | z
        · exact z
        · rw [List.getElem?_eq_none (by rw [mgs_len]; exact z)] at g1; cases g1
      have hfe : f (nI (lowM (mgs Q L) (mng B S n i))).toNatClampNeg = nI (hpM (mgs Q L) (lowM (mgs Q L) (mng B S n i))) := by rw [nI_clamp (by omega)]; exact hf _ hlt
      refine Ex_mv rfl rfl ?_; refine Ex_mv rfl rfl ?_; refine Ex_getf rfl (by assumption) rfl ?_; refine Ex_invV rfl (by rfl) (by rfl) (by assumption) (by rfl) (c_PL_places hC.po) ?_; refine Ex_mv rfl rfl ?_; refine Ex_iff (nI_ge (by omega) (by omega)) ?_; refine Ex_mv rfl rfl ?_; refine Ex_mv rfl rfl ?_; refine Ex_getf rfl (by assumption) rfl ?_; refine Ex_alen rfl (by assumption) rfl ?_; refine Ex_mv rfl rfl ?_; refine Ex_iff (nI_ge (by omega) (by omega)) ?_; refine Ex_mv rfl rfl ?_; refine Ex_getf rfl (by assumption) rfl ?_; refine Ex_mv rfl rfl ?_; refine Ex_invV rfl (by rfl) (by rfl) (by assumption) (by rfl) (c_PL_tag hC.po (by omega)) ?_; refine Ex_mv rfl rfl ?_; refine Ex_ift (nI_nz e0 (by omega)) ?_; refine Ex_mv rfl rfl ?_; refine Ex_mv rfl rfl ?_; refine Ex_getf rfl (by assumption) rfl ?_; refine Ex_mv rfl rfl ?_; refine Ex_invV rfl (by rfl) (by rfl) (by assumption) (by rfl) (c_RK_find hK hC.po hV (by omega) hso) ?_
      rw [hfd, oI, Nat.zero_add]
      refine Ex_mv rfl rfl ?_; refine Ex_mv rfl rfl ?_; refine Ex_getf rfl (by assumption) rfl ?_; refine Ex_mv rfl rfl ?_; refine Ex_mv rfl rfl ?_; refine Ex_mv rfl rfl ?_; refine Ex_lt0 (by omega) ?_; refine Ex_mv rfl rfl ?_; refine Ex_mv rfl rfl ?_; refine Ex_getf rfl (by assumption) rfl ?_; refine Ex_alen rfl (by assumption) rfl ?_; refine Ex_mv rfl rfl ?_; refine Ex_iff (nI_ge (by omega) (by omega)) ?_; refine Ex_mv rfl rfl ?_; refine Ex_getf rfl (by assumption) rfl ?_; refine Ex_mv rfl rfl ?_; refine Ex_iald rfl w2 (vp_in_nI (by omega) (by decide)) ?_
      rw [hfe]
      refine Ex_mv rfl rfl ?_; refine Ex_iast rfl w3 (vp_in_nI (by omega) (by decide)) ?_
      exact fin _ _ (by unfold mvP; rw [if_neg e0])
theorem c_WR_movePlaces {h : Hp} {f g : Nat → Int32} (hl : L.length ≤ 61) (hK : RK h k Q pc L) (hC : CF h c B S n bh aa M0 M1 TL) (hd1 : w + 3 ≤ k ∨ k + 28 ≤ w) (hd2 : w + 3 ≤ c ∨ c + 11 ≤ w) (hW : WR h w r f g) (hV : TV B S n) (hso : SoM (mgs Q L)) (hall : ∀ j, tg B S n j ≠ 0 → mng B S n j ∈ mgs Q L) : EvQ (prog nb sa) m_WR_movePlaces [.ref w, .ref c, .ref k] h (fun v h' => v = some (.int (nI (hpM (mgs Q L) L.length))) ∧ FrI w (w + 3) h h' ∧ ∃ f' g', WR h' w r f' g' ∧ ∀ j, 1 ≤ j → j < n → g' j = nI (mvP (mgs Q L) B S n j)) := by
  refine EvQ_of k_WR_movePlaces 6 [some (.ref w), some (.ref c), some (.ref k), none, none, none] rfl (Nat.le_of_ble_eq_true rfl) rfl ?_
  refine Ex_mv rfl rfl ?_; refine Ex_mv rfl rfl ?_; refine Ex_mv rfl rfl ?_; refine Ex_mv rfl rfl ?_
  have e0 : hpM (mgs Q L) 0 = 1 := by cases mgs Q L <;> rfl
  have := WR_move_loop1 (nb := nb) (sa := sa) (c := c) (w := w) (r := r) (x5 := none) L.length 0 h f g (fun v h' => v = some (.int (nI (hpM (mgs Q L) L.length))) ∧ FrI w (w + 3) h h' ∧ ∃ f' g', WR h' w r f' g' ∧ ∀ j, 1 ≤ j → j < n → g' j = nI (mvP (mgs Q L) B S n j)) (by omega) hl hK hd1 hW (fun h' f' F' W' q1 q2 => ?_)
  · rw [e0] at this
    exact this
  · refine Ex_mv rfl rfl ?_; refine Ex_mv rfl rfl ?_
    refine Ex_mono (WR_move_loop2 (n - 1) 1 _ h' g (by omega) (by omega) hl (hK.fr F' (by omega)) (hC.fr F' (by omega)) hd1 hd2 W' hV hso (fun j hj => q2 j (by omega) hj) hall) ?_
    rintro v h2 ⟨rfl, z1, g2, z2, z3, z4⟩
    exact ⟨rfl, (F'.wd (by omega) (by omega)).tr (z1.wd (by omega) (by omega)), f', g2, z2, z4⟩
theorem c_WR_movedTo {h : Hp} {f g : Nat → Int32} (hW : WR h w r f g) {i : Nat} (hi : i < 61) {y : Nat} (hy : g i = nI y) : Ev (prog nb sa) m_WR_movedTo [.ref w, .int (nI i)] h (some (.int (nI y))) h := by
  obtain ⟨w1, w2, w3⟩ := id hW
  have e : g (nI i).toNatClampNeg = nI y := by rw [nI_clamp (by omega), hy]
  refine Ev_ofL k_WR_movedTo 2 [some (.ref w), some (.int (nI i))] rfl (Nat.le_of_ble_eq_true rfl) rfl ?_
  refine Ex_mv rfl rfl ?_; refine Ex_mv rfl rfl ?_; refine Ex_lt0 (by omega) ?_; refine Ex_mv rfl rfl ?_; refine Ex_mv rfl rfl ?_; refine Ex_getf rfl (by assumption) rfl ?_; refine Ex_alen rfl (by assumption) rfl ?_; refine Ex_mv rfl rfl ?_; refine Ex_iff (nI_ge (by omega) (by omega)) ?_; refine Ex_mv rfl rfl ?_; refine Ex_getf rfl (by assumption) rfl ?_; refine Ex_mv rfl rfl ?_; refine Ex_iald rfl w3 (vp_in_nI (by omega) (by decide)) ?_
  rw [e]
  refine Ex_mv rfl rfl ?_
  exact Ex_rt rfl rfl ⟨rfl, rfl⟩
end WRITER
end
section
/-! Writer: bytes -/
def put2 (E : List Nat) (k v : Nat) : List Nat := (E.set k (v / 256)).set (k + 1) (v % 256)
theorem put2_len (E : List Nat) (k v : Nat) : (put2 E k v).length = E.length := by simp [put2]
theorem put2_app (R E : List Nat) (k v : Nat) : ((R ++ E).set (R.length + k) (v / 256)).set (R.length + k + 1) (v % 256) = R ++ put2 E k v := by
  unfold put2
  rw [List.set_append_right _ _ (by omega), List.set_append_right _ _ (by omega), Nat.add_sub_cancel_left, Nat.add_assoc, Nat.add_sub_cancel_left]
/-- an entry's bytes, its places moved -/
def eO (B : List Nat) (S : Nat → Nat) (n : Nat) (mv : Nat → Nat) (i : Nat) : List Nat :=
  if 9 ≤ tg B S n i then put2 (put2 (sl B (st S n i) (bof B S n i)) 1 (mv (fst1 B S n i))) 3 (mv (snd1 B S n i))
  else if 7 ≤ tg B S n i then put2 (sl B (st S n i) (bof B S n i)) 1 (mv (fst1 B S n i)) else sl B (st S n i) (bof B S n i)
theorem eO_len {B : List Nat} {S : Nat → Nat} {n : Nat} {mv : Nat → Nat} {i : Nat} (h : st S n i + bof B S n i ≤ B.length) : (eO B S n mv i).length = bof B S n i := by
  unfold eO
  split
  · rw [put2_len, put2_len, sl_len h]
  · split
    · rw [put2_len, sl_len h]
    · exact sl_len h
/-- the bytes behind the pool, places moved one by one -/
def pR (B : List Nat) (mv : Nat → Nat) (bh : Nat) : List Nat → List Nat → List Nat
  | [], E => E
  | t :: T, E => pR B mv bh T (put2 E (t - bh) (mv (b2 B t)))
theorem pR_len {B : List Nat} {mv : Nat → Nat} {bh : Nat} : ∀ (T E : List Nat), (pR B mv bh T E).length = E.length
  | [], E => rfl
  | t :: T, E => by rw [pR, pR_len T, put2_len]
theorem sft {at' bh rs : Nat} (h : bh ≤ at') : nI at' + (nI rs - nI bh) = nI (rs + (at' - bh)) := by
  have e : nI at' = nI (at' - bh) + nI bh := by rw [nI_add, Nat.sub_add_cancel h]
  rw [e, nI_add]
  rw [← nI_add (a := rs), Int32.add_comm (nI rs)]
  rw [← nI_add (a := at' - bh) (b := bh), Int32.add_assoc, Int32.add_comm (nI bh), Int32.sub_add_cancel]
section WRITER2
variable {nb sa : Nat} {h : Hp} {w r p n : Nat} {B R : List Nat} {S : Nat → Nat} {f g : Nat → Int32} {mv : Nat → Nat}
theorem bof_b (B : List Nat) (S : Nat → Nat) (n i : Nat) : 3 ≤ bof B S n i ∧ (9 ≤ tg B S n i → tg B S n i ≤ 12 → bof B S n i = 5) := by
  unfold bof
  split
  · omega
  · split
    · omega
    · split
      · omega
      · omega
theorem c_WR_pushEntry (hW : WR h w r f g) (hR : RW h r R) (hP : PO h p B S n) {i : Nat} (hi : i < n) (ht : tg B S n i ≤ 12) (hb : st S n i + bof B S n i ≤ B.length) (hfit : R.length + bof B S n i ≤ 400) (hd : p + 4 ≤ r ∨ r + 2 ≤ p) (hdw : w + 3 ≤ r ∨ r + 2 ≤ w) (hmv : ∀ j, mv j < 65536) (h1 : 7 ≤ tg B S n i → fst1 B S n i < 61 ∧ g (fst1 B S n i) = nI (mv (fst1 B S n i))) (h2 : 9 ≤ tg B S n i → snd1 B S n i < 61 ∧ g (snd1 B S n i) = nI (mv (snd1 B S n i))) : EvQ (prog nb sa) m_WR_pushEntry [.ref w, .ref p, .int (nI i)] h (fun v h' => v = none ∧ RW h' r (R ++ eO B S n mv i) ∧ FrI r (r + 2) h h') := by
  obtain ⟨w1, w2, w3⟩ := id hW
  have hp := hP.1
  have hn : n ≤ 61 := hP.2.2.2.1
  have hbb := bof_b B S n i
  obtain ⟨fr, hr, hra, hB⟩ := id hR
  obtain ⟨fr', hr', hra', hB'⟩ := id hP.row
  have hs := st_le (n := n) hP.2.2.2.2 i
  obtain ⟨_, ha, e1, rfl, Ra, Fa⟩ := c_RW_append (nb := nb) (sa := sa) hR hP.row (by omega) hb hfit
  have hla : (R ++ sl B (st S n i) (bof B S n i)).length = R.length + bof B S n i := by rw [List.length_append, sl_len hb]
  have wa : ∀ {h' : Hp}, FrI r (r + 2) ha h' → WR h' w r f g := fun F => (hW.fr Fa (by omega)).fr F (by omega)
  have pa : ∀ {h' : Hp}, FrI r (r + 2) ha h' → PO h' p B S n := fun F => (hP.fr Fa (by omega)).fr F (by omega)
  have W1 := wa FrI.rf
  have P1 := pa FrI.rf
  have w1' := W1.1
  have p1' := P1.1
  have hrA : ha.2.2 r = _ := Ra.choose_spec.1
  refine EvQ_of k_WR_pushEntry 5 [some (.ref w), some (.ref p), some (.int (nI i)), none, none] rfl (Nat.le_of_ble_eq_true rfl) rfl ?_
  by_cases t7 : 7 ≤ tg B S n i
  · obtain ⟨a1, a2⟩ := h1 t7
    obtain ⟨_, hb', e2, rfl, Rb, Fb⟩ := c_RW_putTwo (nb := nb) (sa := sa) Ra (k := R.length + 1) (v := mv (fst1 B S n i)) (hmv _) (by omega)
    rw [put2_app] at Rb
    have W2 := wa Fb
    have P2 := pa Fb
    have w2' := W2.1
    have p2' := P2.1
    have hrB : hb'.2.2 r = _ := Rb.choose_spec.1
    by_cases t9 : 9 ≤ tg B S n i
    · obtain ⟨b1, b2⟩ := h2 t9
      have h5 := hbb.2 t9 ht
      have hlb : (R ++ put2 (sl B (st S n i) (bof B S n i)) 1 (mv (fst1 B S n i))).length = R.length + bof B S n i := by rw [List.length_append, put2_len, sl_len hb]
      obtain ⟨_, hc, e3, rfl, Rc, Fc⟩ := c_RW_putTwo (nb := nb) (sa := sa) Rb (k := R.length + 3) (v := mv (snd1 B S n i)) (hmv _) (by omega)
      rw [put2_app] at Rc
      have eo : eO B S n mv i = put2 (put2 (sl B (st S n i) (bof B S n i)) 1 (mv (fst1 B S n i))) 3 (mv (snd1 B S n i)) := if_pos t9
      rw [eo]
      refine Ex_mv rfl rfl ?_; refine Ex_getf rfl (by assumption) rfl ?_; refine Ex_invV rfl (by rfl) (by rfl) (by assumption) (by rfl) (c_RW_size hR) ?_; refine Ex_mv rfl rfl ?_; refine Ex_mv rfl rfl ?_; refine Ex_getf rfl (by assumption) rfl ?_; refine Ex_mv rfl rfl ?_; refine Ex_getf rfl (by assumption) rfl ?_; refine Ex_mv rfl rfl ?_; refine Ex_mv rfl rfl ?_; refine Ex_invV rfl (by rfl) (by rfl) (by assumption) (by rfl) (c_PL_start hP (by omega)) ?_; refine Ex_mv rfl rfl ?_; refine Ex_mv rfl rfl ?_; refine Ex_invV rfl (by rfl) (by rfl) (by assumption) (by rfl) (c_PL_bytesOf hP (by omega)) ?_; refine Ex_invV rfl (by rfl) (by rfl) (by assumption) (by rfl) (e1) ?_; refine Ex_mv rfl rfl ?_; refine Ex_mv rfl rfl ?_; refine Ex_invV rfl (by rfl) (by rfl) (by assumption) (by rfl) (c_PL_tag P1 (by omega)) ?_; refine Ex_mv rfl rfl ?_; refine Ex_mv rfl rfl ?_; refine Ex_mv rfl rfl ?_; refine Ex_mv rfl rfl ?_; refine Ex_iff (nI_nlt (by omega) (by omega)) ?_; refine Ex_mv rfl rfl ?_; refine Ex_getf rfl (by assumption) rfl ?_; refine Ex_mv rfl rfl ?_; refine Ex_mv rfl rfl ?_; (first | refine Ex_addN rfl ?_ | refine Ex_mv rfl rfl ?_); refine Ex_mv rfl rfl ?_; refine Ex_mv rfl rfl ?_; refine Ex_mv rfl rfl ?_; refine Ex_invV rfl (by rfl) (by rfl) (by assumption) (by rfl) (c_PL_first P1 (by omega)) ?_; refine Ex_invV rfl (by rfl) (by rfl) (by assumption) (by rfl) (c_WR_movedTo W1 a1 a2) ?_; refine Ex_invV rfl (by rfl) (by rfl) (by assumption) (by rfl) (e2) ?_; refine Ex_mv rfl rfl ?_; refine Ex_mv rfl rfl ?_; refine Ex_mv rfl rfl ?_; refine Ex_iff (nI_nlt (by omega) (by omega)) ?_; refine Ex_mv rfl rfl ?_; refine Ex_getf rfl (by assumption) rfl ?_; refine Ex_mv rfl rfl ?_; refine Ex_mv rfl rfl ?_; (first | refine Ex_addN rfl ?_ | refine Ex_mv rfl rfl ?_); refine Ex_mv rfl rfl ?_; refine Ex_mv rfl rfl ?_; refine Ex_mv rfl rfl ?_; refine Ex_invV rfl (by rfl) (by rfl) (by assumption) (by rfl) (c_PL_second P2 (by omega)) ?_; refine Ex_invV rfl (by rfl) (by rfl) (by assumption) (by rfl) (c_WR_movedTo W2 b1 b2) ?_; refine Ex_invV rfl (by rfl) (by rfl) (by assumption) (by rfl) (e3) ?_
      refine Ex_rt rfl rfl ?_
      exact ⟨rfl, Rc, (Fa.tr Fb).tr Fc⟩
    · have eo : eO B S n mv i = put2 (sl B (st S n i) (bof B S n i)) 1 (mv (fst1 B S n i)) := (if_neg t9).trans (if_pos t7)
      rw [eo]
      refine Ex_mv rfl rfl ?_; refine Ex_getf rfl (by assumption) rfl ?_; refine Ex_invV rfl (by rfl) (by rfl) (by assumption) (by rfl) (c_RW_size hR) ?_; refine Ex_mv rfl rfl ?_; refine Ex_mv rfl rfl ?_; refine Ex_getf rfl (by assumption) rfl ?_; refine Ex_mv rfl rfl ?_; refine Ex_getf rfl (by assumption) rfl ?_; refine Ex_mv rfl rfl ?_; refine Ex_mv rfl rfl ?_; refine Ex_invV rfl (by rfl) (by rfl) (by assumption) (by rfl) (c_PL_start hP (by omega)) ?_; refine Ex_mv rfl rfl ?_; refine Ex_mv rfl rfl ?_; refine Ex_invV rfl (by rfl) (by rfl) (by assumption) (by rfl) (c_PL_bytesOf hP (by omega)) ?_; refine Ex_invV rfl (by rfl) (by rfl) (by assumption) (by rfl) (e1) ?_; refine Ex_mv rfl rfl ?_; refine Ex_mv rfl rfl ?_; refine Ex_invV rfl (by rfl) (by rfl) (by assumption) (by rfl) (c_PL_tag P1 (by omega)) ?_; refine Ex_mv rfl rfl ?_; refine Ex_mv rfl rfl ?_; refine Ex_mv rfl rfl ?_; refine Ex_mv rfl rfl ?_; refine Ex_iff (nI_nlt (by omega) (by omega)) ?_; refine Ex_mv rfl rfl ?_; refine Ex_getf rfl (by assumption) rfl ?_; refine Ex_mv rfl rfl ?_; refine Ex_mv rfl rfl ?_; (first | refine Ex_addN rfl ?_ | refine Ex_mv rfl rfl ?_); refine Ex_mv rfl rfl ?_; refine Ex_mv rfl rfl ?_; refine Ex_mv rfl rfl ?_; refine Ex_invV rfl (by rfl) (by rfl) (by assumption) (by rfl) (c_PL_first P1 (by omega)) ?_; refine Ex_invV rfl (by rfl) (by rfl) (by assumption) (by rfl) (c_WR_movedTo W1 a1 a2) ?_; refine Ex_invV rfl (by rfl) (by rfl) (by assumption) (by rfl) (e2) ?_; refine Ex_mv rfl rfl ?_; refine Ex_mv rfl rfl ?_; refine Ex_mv rfl rfl ?_; refine Ex_ift (nI_lt (by omega) (by omega)) ?_
      refine Ex_rt rfl rfl ?_
      exact ⟨rfl, Rb, Fa.tr Fb⟩
  · have eo : eO B S n mv i = sl B (st S n i) (bof B S n i) := (if_neg (by omega)).trans (if_neg t7)
    rw [eo]
    refine Ex_mv rfl rfl ?_; refine Ex_getf rfl (by assumption) rfl ?_; refine Ex_invV rfl (by rfl) (by rfl) (by assumption) (by rfl) (c_RW_size hR) ?_; refine Ex_mv rfl rfl ?_; refine Ex_mv rfl rfl ?_; refine Ex_getf rfl (by assumption) rfl ?_; refine Ex_mv rfl rfl ?_; refine Ex_getf rfl (by assumption) rfl ?_; refine Ex_mv rfl rfl ?_; refine Ex_mv rfl rfl ?_; refine Ex_invV rfl (by rfl) (by rfl) (by assumption) (by rfl) (c_PL_start hP (by omega)) ?_; refine Ex_mv rfl rfl ?_; refine Ex_mv rfl rfl ?_; refine Ex_invV rfl (by rfl) (by rfl) (by assumption) (by rfl) (c_PL_bytesOf hP (by omega)) ?_; refine Ex_invV rfl (by rfl) (by rfl) (by assumption) (by rfl) (e1) ?_; refine Ex_mv rfl rfl ?_; refine Ex_mv rfl rfl ?_; refine Ex_invV rfl (by rfl) (by rfl) (by assumption) (by rfl) (c_PL_tag P1 (by omega)) ?_; refine Ex_mv rfl rfl ?_; refine Ex_mv rfl rfl ?_; refine Ex_mv rfl rfl ?_; refine Ex_mv rfl rfl ?_; refine Ex_ift (nI_lt (by omega) (by omega)) ?_; refine Ex_mv rfl rfl ?_; refine Ex_mv rfl rfl ?_; refine Ex_mv rfl rfl ?_; refine Ex_ift (nI_lt (by omega) (by omega)) ?_
    refine Ex_rt rfl rfl ?_
    exact ⟨rfl, Ra, Fa⟩
end WRITER2
section WRITER3
variable {nb sa : Nat} {w r : Nat} {c n bh aa : Nat} {B M0 M1 : List Nat} {S : Nat → Nat} {TL : List (Nat × Nat)} {f g : Nat → Int32} {mv : Nat → Nat}
theorem WR_pushRest_loop {R0 : List Nat} {x2 : Int32} (hx2 : x2 = nI R0.length - nI bh) (hmv : ∀ j, mv j < 65536) (hd : c + 11 ≤ r ∨ r + 2 ≤ c) (hdw : w + 3 ≤ r ∨ r + 2 ≤ w) : ∀ (d t a : Nat) (x4 : Option Value) (h : Hp) (E : List Nat), t + d = TL.length → WR h w r f g → CF h c B S n bh aa M0 M1 TL → RW h r (R0 ++ E) → E.length = B.length - bh → bh ≤ a → Inc B a ((TL.map (·.1)).drop t) → (∀ q ∈ (TL.map (·.1)).drop t, b2 B q < 61 ∧ g (b2 B q) = nI (mv (b2 B q))) → Ex (prog nb sa) k_WR_pushRest 45 [some (.ref w), some (.ref c), some (.int x2), some (.int (nI t)), x4] [] h (fun v h' => v = none ∧ RW h' r (R0 ++ pR B mv bh ((TL.map (·.1)).drop t) E) ∧ FrI r (r + 2) h h')
  | 0, t, a, x4, h, E, hd', hW, hC, hR, hE, hba, hI, hg => by
    have hc := hC.1
    have hTl : TL.length ≤ 200 := hC.2.2.2.2.2.2.2.2.2.2.1
    rw [List.drop_eq_nil_of_le (by simp; omega)]
    refine Ex_mv rfl rfl ?_; refine Ex_mv rfl rfl ?_; refine Ex_invV rfl (by rfl) (by rfl) (by assumption) (by rfl) (c_CF_tellCount hC) ?_; refine Ex_mv rfl rfl ?_; refine Ex_ift (nI_le (by omega) (by omega)) ?_
    refine Ex_rt rfl rfl ?_
    exact ⟨rfl, hR, FrI.rf⟩
  | d + 1, t, a, x4, h, E, hd', hW, hC, hR, hE, hba, hI, hg => by
    have hc := hC.1
    obtain ⟨w1, w2, w3⟩ := id hW
    have hTl : TL.length ≤ 200 := hC.2.2.2.2.2.2.2.2.2.2.1
    obtain ⟨fr, hr, hra, hB⟩ := id hR
    obtain ⟨fr', hr', hra', hB'⟩ := id hC.row
    have hl := hC.row.len
    rw [tA_cons (TL := TL) (k := t) (by omega)] at hI hg ⊢
    obtain ⟨i1, i2, i3⟩ := hI
    obtain ⟨g1, g2⟩ := hg _ List.mem_cons_self
    have hlen : (R0 ++ E).length = R0.length + (B.length - bh) := by rw [List.length_append, hE]
    obtain ⟨_, h1, e1, rfl, R1, F1⟩ := c_RW_putTwo (nb := nb) (sa := sa) hR (k := R0.length + (tA TL t - bh)) (v := mv (b2 B (tA TL t))) (hmv _) (by omega)
    rw [put2_app] at R1
    have ih := WR_pushRest_loop hx2 hmv hd hdw d (t + 1) (tA TL t + 2) (some (.int (nI (tA TL t)))) h1 _ (by omega) (hW.fr F1 (by omega)) (hC.fr F1 (by omega)) R1 (by rw [put2_len]; exact hE) (by omega) i3 (fun q hq => hg q (List.mem_cons_of_mem _ hq))
    have esf : nI (tA TL t) + x2 = nI (R0.length + (tA TL t - bh)) := by rw [hx2]; exact sft (by omega)
    rw [pR]
    refine Ex_mv rfl rfl ?_; refine Ex_mv rfl rfl ?_; refine Ex_invV rfl (by rfl) (by rfl) (by assumption) (by rfl) (c_CF_tellCount hC) ?_; refine Ex_mv rfl rfl ?_; refine Ex_iff (nI_ge (by omega) (by omega)) ?_; refine Ex_mv rfl rfl ?_; refine Ex_mv rfl rfl ?_; refine Ex_invV rfl (by rfl) (by rfl) (by assumption) (by rfl) (c_CF_tellAt hC (by omega)) ?_; refine Ex_mv rfl rfl ?_; refine Ex_mv rfl rfl ?_; refine Ex_getf rfl (by assumption) rfl ?_; refine Ex_mv rfl rfl ?_; refine Ex_mv rfl rfl ?_; (first | refine Ex_addN rfl ?_ | refine Ex_mv rfl rfl ?_)
    simp only [esf]
    refine Ex_mv rfl rfl ?_; refine Ex_mv rfl rfl ?_; refine Ex_getf rfl (by assumption) rfl ?_; refine Ex_mv rfl rfl ?_; refine Ex_invV rfl (by rfl) (by rfl) (by assumption) (by rfl) (c_RW_two hC.row (by omega)) ?_; refine Ex_invV rfl (by rfl) (by rfl) (by assumption) (by rfl) (c_WR_movedTo hW g1 g2) ?_; refine Ex_invV rfl (by rfl) (by rfl) (by assumption) (by rfl) (e1) ?_; (first | refine Ex_incN rfl rfl ?_ | refine Ex_mv rfl rfl ?_); refine Ex_mv rfl rfl ?_
    refine Ex_mono ih ?_
    rintro v h' ⟨rfl, q1, q2⟩
    exact ⟨rfl, q1, F1.tr q2⟩
theorem c_WR_pushRest {h : Hp} {R : List Nat} (hmv : ∀ j, mv j < 65536) (hd : c + 11 ≤ r ∨ r + 2 ≤ c) (hdw : w + 3 ≤ r ∨ r + 2 ≤ w) (hW : WR h w r f g) (hC : CF h c B S n bh aa M0 M1 TL) (hR : RW h r R) (hbl : bh ≤ B.length) (hfit : R.length + (B.length - bh) ≤ 400) (hI : Inc B bh (tB TL bh)) (hg : ∀ q ∈ tB TL bh, b2 B q < 61 ∧ g (b2 B q) = nI (mv (b2 B q))) : EvQ (prog nb sa) m_WR_pushRest [.ref w, .ref c] h (fun v h' => v = none ∧ RW h' r (R ++ pR B mv bh (tB TL bh) (sl B bh (B.length - bh))) ∧ FrI r (r + 2) h h') := by
  obtain ⟨w1, w2, w3⟩ := id hW
  have hc := hC.1
  have hl := hC.row.len
  obtain ⟨fr, hr, hra, hB⟩ := id hR
  obtain ⟨fr', hr', hra', hB'⟩ := id hC.row
  obtain ⟨_, h1, e1, rfl, R1, F1⟩ := c_RW_append (nb := nb) (sa := sa) hR hC.row (by omega) (k := bh) (n := B.length - bh) (by omega) hfit
  have C1 := hC.fr F1 (by omega)
  have hc1 := C1.1
  have f1 := (fbh_le TL bh TL.length 0).2
  have key : Ex (prog nb sa) k_WR_pushRest 13 [some (.ref w), some (.ref c), some (.int (nI R.length - nI bh)), none, none] [] h (fun v h' => v = none ∧ RW h' r (R ++ pR B mv bh (tB TL bh) (sl B bh (B.length - bh))) ∧ FrI r (r + 2) h h') := by
    refine Ex_mv rfl rfl ?_; refine Ex_getf rfl (by assumption) rfl ?_; refine Ex_mv rfl rfl ?_; refine Ex_getf rfl (by assumption) rfl ?_; refine Ex_mv rfl rfl ?_; refine Ex_getf rfl (by assumption) rfl ?_; refine Ex_mv rfl rfl ?_; refine Ex_getf rfl (by assumption) rfl ?_; refine Ex_invV rfl (by rfl) (by rfl) (by assumption) (by rfl) (c_RW_size hC.row) ?_; refine Ex_mv rfl rfl ?_; refine Ex_getf rfl (by assumption) rfl ?_; (first | refine Ex_subN rfl (by omega) ?_ | refine Ex_mv rfl rfl ?_); refine Ex_invV rfl (by rfl) (by rfl) (by assumption) (by rfl) (e1) ?_; refine Ex_mv rfl rfl ?_; refine Ex_invV rfl (by rfl) (by rfl) (by assumption) (by rfl) (c_CF_firstBehind C1) ?_; refine Ex_mv rfl rfl ?_
    refine Ex_mono (WR_pushRest_loop (TL := TL) (R0 := R) rfl hmv hd hdw (TL.length - fbh TL bh TL.length 0) _ bh _ h1 (sl B bh (B.length - bh)) (by omega) (hW.fr F1 (by omega)) C1 R1 (sl_len (by omega)) (Nat.le_refl _) hI hg) ?_
    rintro v h' ⟨rfl, q1, q2⟩
    exact ⟨rfl, q1, F1.tr q2⟩
  refine EvQ_of k_WR_pushRest 5 [some (.ref w), some (.ref c), none, none, none] rfl (Nat.le_of_ble_eq_true rfl) rfl ?_
  refine Ex_mv rfl rfl ?_; refine Ex_getf rfl (by assumption) rfl ?_; refine Ex_invV rfl (by rfl) (by rfl) (by assumption) (by rfl) (c_RW_size hR) ?_; refine Ex_mv rfl rfl ?_; refine Ex_getf rfl (by assumption) rfl ?_; refine Ex_mv rfl rfl ?_; refine Ex_mv rfl rfl ?_
  exact key
end WRITER3
end
section
/-! Writer: a file in order -/
def eOs (B : List Nat) (S : Nat → Nat) (n : Nat) (mv : Nat → Nat) : List Nat → List Nat
  | [] => []
  | i :: I => eO B S n mv i ++ eOs B S n mv I
def sBof (B : List Nat) (S : Nat → Nat) (n : Nat) : List Nat → Nat
  | [] => 0
  | i :: I => bof B S n i + sBof B S n I
/-- an entry that can be written -/
def wOk (B : List Nat) (S : Nat → Nat) (n : Nat) (mv : Nat → Nat) (g : Nat → Int32) (i : Nat) : Prop := i < n ∧ tg B S n i ≤ 12 ∧ st S n i + bof B S n i ≤ B.length ∧ (7 ≤ tg B S n i → fst1 B S n i < 61 ∧ g (fst1 B S n i) = nI (mv (fst1 B S n i))) ∧ (9 ≤ tg B S n i → snd1 B S n i < 61 ∧ g (snd1 B S n i) = nI (mv (snd1 B S n i)))
theorem eOs_len {B : List Nat} {S : Nat → Nat} {n : Nat} {mv : Nat → Nat} {g : Nat → Int32} : ∀ I : List Nat, (∀ i ∈ I, wOk B S n mv g i) → (eOs B S n mv I).length = sBof B S n I
  | [], _ => rfl
  | i :: I, h => by
    rw [eOs, sBof, List.length_append, eOs_len I (fun j hj => h j (List.mem_cons_of_mem _ hj)), eO_len (h i List.mem_cons_self).2.2.1]
section WRITER4
variable {nb sa : Nat} {w r k pc : Nat} {Q : Nat → Fp} {L : List (Nat × Nat)} {c n bh aa : Nat} {B M0 M1 : List Nat} {S : Nat → Nat} {TL : List (Nat × Nat)} {f g : Nat → Int32} {mv : Nat → Nat}
theorem drop_snd {t : Nat} (ht : t < L.length) : (L.map (·.2)).drop t = (L.getD t (0, 0)).2 :: (L.map (·.2)).drop (t + 1) := by
  rw [List.drop_eq_getElem_cons (by simpa using ht)]
  congr 1
  simp [List.getD_eq_getElem?_getD, ht]
theorem WR_push_loop {x3 : Nat} (hmv : ∀ j, mv j < 65536) (hd : c + 11 ≤ r ∨ r + 2 ≤ c) (hdw : w + 3 ≤ r ∨ r + 2 ≤ w) (hdk : k + 28 ≤ r ∨ r + 2 ≤ k) (hbl : bh ≤ B.length) (hI : Inc B bh (tB TL bh)) (hg : ∀ q ∈ tB TL bh, b2 B q < 61 ∧ g (b2 B q) = nI (mv (b2 B q))) : ∀ (d t : Nat) (h : Hp) (R : List Nat), t + d = L.length → RK h k Q pc L → WR h w r f g → CF h c B S n bh aa M0 M1 TL → RW h r R → (∀ i ∈ (L.map (·.2)).drop t, wOk B S n mv g i) → R.length + sBof B S n ((L.map (·.2)).drop t) + (B.length - bh) ≤ 400 → Ex (prog nb sa) k_WR_push 26 [some (.ref w), some (.ref c), some (.ref k), some (.int (nI x3)), some (.int (nI t))] [] h (fun v h' => v = some (.int (nI (R.length + sBof B S n ((L.map (·.2)).drop t) + (B.length - bh)))) ∧ RW h' r (R ++ (eOs B S n mv ((L.map (·.2)).drop t) ++ pR B mv bh (tB TL bh) (sl B bh (B.length - bh)))) ∧ FrI r (r + 2) h h')
  | 0, t, h, R, hd', hK, hW, hC, hR, hok, hfit => by
    have hk := hK.1
    obtain ⟨w1, w2, w3⟩ := id hW
    have hl : L.length ≤ 150 := hK.2.2.2.2.2.2.1
    rw [List.drop_eq_nil_of_le (by simp; omega)] at hfit ⊢
    rw [sBof, Nat.add_zero] at hfit ⊢
    obtain ⟨_, h1, e1, rfl, R1, F1⟩ := c_WR_pushRest (nb := nb) (sa := sa) hmv hd hdw hW hC hR hbl hfit hI hg
    have w1' := (hW.fr F1 (by omega)).1
    have hr1 : h1.2.2 r = _ := R1.choose_spec.1
    have hlen : (R ++ pR B mv bh (tB TL bh) (sl B bh (B.length - bh))).length = R.length + (B.length - bh) := by rw [List.length_append, pR_len, sl_len (by omega)]
    refine Ex_mv rfl rfl ?_; refine Ex_mv rfl rfl ?_; refine Ex_invV rfl (by rfl) (by rfl) (by assumption) (by rfl) (c_RK_size hK) ?_; refine Ex_mv rfl rfl ?_; refine Ex_ift (nI_le (by omega) (by omega)) ?_; refine Ex_mv rfl rfl ?_; refine Ex_mv rfl rfl ?_; refine Ex_invV rfl (by rfl) (by rfl) (by assumption) (by rfl) (e1) ?_; refine Ex_mv rfl rfl ?_; refine Ex_getf rfl (by assumption) rfl ?_; refine Ex_invV rfl (by rfl) (by rfl) (by assumption) (by rfl) (c_RW_size R1) ?_
    refine Ex_rt rfl rfl ?_
    exact ⟨by rw [hlen], R1, F1⟩
  | d + 1, t, h, R, hd', hK, hW, hC, hR, hok, hfit => by
    have hk := hK.1
    have hc := hC.1
    obtain ⟨w1, w2, w3⟩ := id hW
    have hl : L.length ≤ 150 := hK.2.2.2.2.2.2.1
    have ht : t < L.length := by omega
    rw [drop_snd ht] at hok hfit ⊢
    rw [sBof] at hfit ⊢
    obtain ⟨o1, o2, o3, o4, o5⟩ := hok _ List.mem_cons_self
    obtain ⟨_, h1, e1, rfl, R1, F1⟩ := c_WR_pushEntry (nb := nb) (sa := sa) (mv := mv) hW hR hC.po (i := (L.getD t (0, 0)).2) o1 o2 o3 (by omega) (by omega) (by omega) hmv o4 o5
    have hlen : (R ++ eO B S n mv (L.getD t (0, 0)).2).length = R.length + bof B S n (L.getD t (0, 0)).2 := by rw [List.length_append, eO_len o3]
    have ih := WR_push_loop (x3 := x3) hmv hd hdw hdk hbl hI hg d (t + 1) h1 _ (by omega) (hK.fr F1 (by omega)) (hW.fr F1 (by omega)) (hC.fr F1 (by omega)) R1 (fun i hi => hok i (List.mem_cons_of_mem _ hi)) (by rw [hlen]; omega)
    rw [hlen] at ih
    refine Ex_mv rfl rfl ?_; refine Ex_mv rfl rfl ?_; refine Ex_invV rfl (by rfl) (by rfl) (by assumption) (by rfl) (c_RK_size hK) ?_; refine Ex_mv rfl rfl ?_; refine Ex_iff (nI_ge (by omega) (by omega)) ?_; refine Ex_mv rfl rfl ?_; refine Ex_mv rfl rfl ?_; refine Ex_getf rfl (by assumption) rfl ?_; refine Ex_mv rfl rfl ?_; refine Ex_mv rfl rfl ?_; refine Ex_invV rfl (by rfl) (by rfl) (by assumption) (by rfl) (c_RK_placeOf hK ht) ?_; refine Ex_invV rfl (by rfl) (by rfl) (by assumption) (by rfl) (e1) ?_; (first | refine Ex_incN rfl rfl ?_ | refine Ex_mv rfl rfl ?_); refine Ex_mv rfl rfl ?_
    refine Ex_mono ih ?_
    rintro v h' ⟨rfl, q1, q2⟩
    refine ⟨by rw [Nat.add_assoc R.length], ?_, F1.tr q2⟩
    rw [eOs]
    simpa only [List.append_assoc] using q1
theorem c_WR_push {h : Hp} {R : List Nat} {pl : Nat} (hpl : pl < 65536) (hmv : ∀ j, mv j < 65536) (hd : c + 11 ≤ r ∨ r + 2 ≤ c) (hdw : w + 3 ≤ r ∨ r + 2 ≤ w) (hdk : k + 28 ≤ r ∨ r + 2 ≤ k) (hbl : bh ≤ B.length) (h8 : 10 ≤ bh) (hI : Inc B bh (tB TL bh)) (hg : ∀ q ∈ tB TL bh, b2 B q < 61 ∧ g (b2 B q) = nI (mv (b2 B q))) (hK : RK h k Q pc L) (hW : WR h w r f g) (hC : CF h c B S n bh aa M0 M1 TL) (hR : RW h r R) (hok : ∀ i ∈ L.map (·.2), wOk B S n mv g i) (hfit : 10 + sBof B S n (L.map (·.2)) ≤ bh) : EvQ (prog nb sa) m_WR_push [.ref w, .ref c, .ref k, .int (nI pl)] h (fun v h' => v = some (.int (nI (10 + sBof B S n (L.map (·.2)) + (B.length - bh)))) ∧ RW h' r (sl B 0 8 ++ ([pl / 256, pl % 256] ++ (eOs B S n mv (L.map (·.2)) ++ pR B mv bh (tB TL bh) (sl B bh (B.length - bh))))) ∧ FrI r (r + 2) h h') := by
  obtain ⟨w1, w2, w3⟩ := id hW
  have hk := hK.1
  have hc := hC.1
  have hl := hC.row.len
  obtain ⟨fr, hr, hra, hB⟩ := id hR
  obtain ⟨_, h1, e1, rfl, R1, F1⟩ := c_RW_take (nb := nb) (sa := sa) hR hC.row (by omega) (k := 0) (n := 8) (by omega)
  have hl8 : (sl B 0 8).length = 8 := sl_len (by omega)
  obtain ⟨_, h2, e2, rfl, R2, F2⟩ := c_RW_pushTwo (nb := nb) (sa := sa) R1 (v := pl) hpl (by omega)
  have F12 := F1.tr F2
  have w1' := (hW.fr F1 (by omega)).1
  have hr1 : h1.2.2 r = _ := R1.choose_spec.1
  have hl10 : (sl B 0 8 ++ [pl / 256, pl % 256]).length = 10 := by rw [List.length_append, hl8]; rfl
  have ih := WR_push_loop (nb := nb) (sa := sa) (x3 := pl) (L := L) hmv hd hdw hdk hbl hI hg L.length 0 h2 _ (by omega) (hK.fr F12 (by omega)) (hW.fr F12 (by omega)) (hC.fr F12 (by omega)) R2 (by rw [List.drop_zero]; exact hok) (by rw [List.drop_zero, hl10]; omega)
  rw [List.drop_zero, hl10] at ih
  refine EvQ_of k_WR_push 5 [some (.ref w), some (.ref c), some (.ref k), some (.int (nI pl)), none] rfl (Nat.le_of_ble_eq_true rfl) rfl ?_
  refine Ex_mv rfl rfl ?_; refine Ex_getf rfl (by assumption) rfl ?_; refine Ex_mv rfl rfl ?_; refine Ex_getf rfl (by assumption) rfl ?_; refine Ex_mv rfl rfl ?_; refine Ex_mv rfl rfl ?_; refine Ex_invV rfl (by rfl) (by rfl) (by assumption) (by rfl) (e1) ?_; refine Ex_mv rfl rfl ?_; refine Ex_mv rfl rfl ?_; refine Ex_getf rfl (by assumption) rfl ?_; refine Ex_mv rfl rfl ?_; refine Ex_invV rfl (by rfl) (by rfl) (by assumption) (by rfl) (e2) ?_; refine Ex_mv rfl rfl ?_; refine Ex_mv rfl rfl ?_
  refine Ex_mono ih ?_
  rintro v h' ⟨rfl, q1, q2⟩
  refine ⟨rfl, ?_, F12.tr q2⟩
  simpa only [List.append_assoc] using q1
end WRITER4
end
section
/-! facts of a good file -/
def GG (B : List Nat) (x : Fs) : Prop := GF B x ∧ (∀ p ∈ x.2.2.2.2.2.2, wrg B x.1 x.2.1 (b2 B p.1) p.2 = 0) ∧ (∀ m ∈ x.2.2.2.2.1, okS 0 (tx B x.1 x.2.1 (b2 B (m + 4))) = true) ∧ ∀ m ∈ x.2.2.2.2.2.1, okS 1 (tx B x.1 x.2.1 (b2 B (m + 4))) = true
theorem wrg0 {B : List Nat} {S : Nat → Nat} {n i t : Nat} (h : wrg B S n i t = 0) : i < n ∧ tg B S n i = t ∧ t ≠ 0 := by
  unfold wrg at h
  split at h
  · cases h
  · split at h
    · cases h
    · split at h
      · next h1 h2 h3 => exact ⟨by omega, h3, by omega⟩
      · cases h
theorem ckT_none {B : List Nat} {S : Nat → Nat} {n : Nat} : ∀ T : List (Nat × Nat), ckT B S n T = none → ∀ p ∈ T, wrg B S n (b2 B p.1) p.2 = 0
  | [], _, p, hp => by cases hp
  | (q, w) :: T, h, p, hp => by
    unfold ckT at h
    split at h
    · next e =>
      rcases List.mem_cons.mp hp with z | z
      · rw [z]; exact e
      · exact ckT_none T h p z
    · cases h
theorem ckS_none {B : List Nat} {S : Nat → Nat} {n k : Nat} : ∀ M : List Nat, ckS B S n k M = none → ∀ m ∈ M, okS k (tx B S n (b2 B (m + 4))) = true
  | [], _, p, hp => by cases hp
  | q :: M, h, p, hp => by
    unfold ckS at h
    split at h
    · next e =>
      rcases List.mem_cons.mp hp with z | z
      · rw [z]; exact e
      · exact ckS_none M h p z
    · cases h
theorem EnG_tv {B : List Nat} {S : Nat → Nat} {n bh : Nat} (h : EnG B S n bh) : TV B S n := by
  obtain ⟨g0, g1, g2, g3, g4, g5, g6, g7⟩ := h
  intro i hi
  unfold tg at hi
  split at hi
  · cases hi
  · next hs =>
    unfold st at hs hi
    by_cases hin : i < n
    · rw [if_pos hin] at hs hi
      obtain ⟨r1, r2, r3⟩ := g4 i hs
      have e1 : st S n i = S i := if_pos hin
      have e2 : tg B S n i = 1 := by unfold tg; rw [e1, if_neg hs]; exact hi
      have e3 : tz B S n i = b2 B (S i + 1) := by unfold tz; rw [if_pos e2]; unfold tw; rw [e1, if_neg hs]
      have e4 : eSz B (S i) = 3 + b2 B (S i + 1) := if_pos hi
      rw [e1, e3]
      omega
    · rw [if_neg hin] at hs; exact absurd rfl hs
/-- the tells of a place are among those of all -/
theorem zT_mem {B : List Nat} {S : Nat → Nat} {p : Nat × Nat} : ∀ i j, 1 ≤ j → j ≤ i → S j ≠ 0 → p ∈ eTl B (S j) → p ∈ zT B S i
  | 0, j, h1, h2, _, _ => by omega
  | i + 1, j, h1, h2, h3, h4 => by
    unfold zT
    by_cases e : j = i + 1
    · subst e; rw [if_neg h3]; exact List.mem_append_right _ h4
    · exact List.mem_append_left _ (zT_mem i j h1 (by omega) h3 h4)
theorem zT_of {B : List Nat} {S : Nat → Nat} {p : Nat × Nat} : ∀ i, p ∈ zT B S i → ∃ j, 1 ≤ j ∧ j ≤ i ∧ S j ≠ 0 ∧ p ∈ eTl B (S j)
  | 0, h => by cases h
  | i + 1, h => by
    unfold zT at h
    rcases List.mem_append.mp h with z | z
    · obtain ⟨j, h1, h2, h3⟩ := zT_of i z
      exact ⟨j, h1, by omega, h3⟩
    · by_cases e : S (i + 1) = 0
      · rw [if_pos e] at z; cases z
      · rw [if_neg e] at z; exact ⟨i + 1, by omega, Nat.le_refl _, e, z⟩
section FACTS
variable {B : List Nat} {x : Fs}
theorem GG.tv (h : GG B x) : TV B x.1 x.2.1 := EnG_tv h.1.1
/-- a place's tag: the entry there -/
theorem tg_at {S : Nat → Nat} {n i t : Nat} (h : tg B S n i = t) (ht : t ≠ 0) : i < n ∧ S i ≠ 0 ∧ b1 B (S i) = t ∧ st S n i = S i := by
  unfold tg at h
  split at h
  · exact absurd h.symm ht
  · next hs =>
    unfold st at hs h
    by_cases hin : i < n
    · rw [if_pos hin] at hs h
      exact ⟨hin, hs, h, if_pos hin⟩
    · rw [if_neg hin] at hs; exact absurd rfl hs
theorem GG.place (h : GG B x) {i t p w : Nat} (ht : tg B x.1 x.2.1 i = t) (ht0 : t ≠ 0) (hp : (x.1 i + p, w) ∈ eTl B (x.1 i)) : tw B x.1 x.2.1 i p < x.2.1 ∧ tg B x.1 x.2.1 (tw B x.1 x.2.1 i p) = w := by
  obtain ⟨h1, h2, h3, h4⟩ := tg_at ht ht0
  have hi : 1 ≤ i := by
    rcases Nat.eq_zero_or_pos i with z | z
    · subst z; exact absurd h.1.1.1 h2
    · exact z
  have hm : (x.1 i + p, w) ∈ x.2.2.2.2.2.2 := by
    rw [h.1.2.2.2.2.2.2.2.2.2.2.2.2.2.2.2.2.2.2]
    exact List.mem_append_left _ (zT_mem _ i hi (by omega) h2 hp)
  have := wrg0 (h.2.1 _ hm)
  have e : tw B x.1 x.2.1 i p = b2 B (x.1 i + p) := by unfold tw; rw [h4, if_neg h2]
  rw [e]
  exact ⟨this.1, this.2.1⟩
theorem GG.p7 (h : GG B x) {i : Nat} (ht : tg B x.1 x.2.1 i = 7 ∨ tg B x.1 x.2.1 i = 8) : tw B x.1 x.2.1 i 1 < x.2.1 ∧ tg B x.1 x.2.1 (tw B x.1 x.2.1 i 1) = 1 := by
  rcases ht with e | e
  · refine h.place e (by decide) ?_
    obtain ⟨h1, h2, h3, h4⟩ := tg_at e (by decide)
    unfold eTl; rw [if_pos (Or.inl h3)]; simp
  · refine h.place e (by decide) ?_
    obtain ⟨h1, h2, h3, h4⟩ := tg_at e (by decide)
    unfold eTl; rw [if_pos (Or.inr h3)]; simp
theorem GG.p12 (h : GG B x) {i : Nat} (ht : tg B x.1 x.2.1 i = 12) : (tw B x.1 x.2.1 i 1 < x.2.1 ∧ tg B x.1 x.2.1 (tw B x.1 x.2.1 i 1) = 1) ∧ (tw B x.1 x.2.1 i 3 < x.2.1 ∧ tg B x.1 x.2.1 (tw B x.1 x.2.1 i 3) = 1) := by
  obtain ⟨h1, h2, h3, h4⟩ := tg_at ht (by decide)
  constructor
  · refine h.place ht (by decide) ?_
    unfold eTl; rw [if_neg (by omega), if_pos h3]; simp
  · refine h.place ht (by decide) ?_
    unfold eTl; rw [if_neg (by omega), if_pos h3]; simp
theorem GG.p9 (h : GG B x) {i : Nat} (ht : 9 ≤ tg B x.1 x.2.1 i ∧ tg B x.1 x.2.1 i ≤ 11) : (tw B x.1 x.2.1 i 1 < x.2.1 ∧ tg B x.1 x.2.1 (tw B x.1 x.2.1 i 1) = 7) ∧ (tw B x.1 x.2.1 i 3 < x.2.1 ∧ tg B x.1 x.2.1 (tw B x.1 x.2.1 i 3) = 12) := by
  obtain ⟨h1, h2, h3, h4⟩ := tg_at rfl (show tg B x.1 x.2.1 i ≠ 0 by omega)
  constructor
  · refine h.place rfl (by omega) ?_
    unfold eTl; rw [if_neg (by omega), if_neg (by omega), if_pos (by omega)]; simp
  · refine h.place rfl (by omega) ?_
    unfold eTl; rw [if_neg (by omega), if_neg (by omega), if_pos (by omega)]; simp
theorem GG.tg12 (h : GG B x) (i : Nat) : tg B x.1 x.2.1 i = 0 ∨ tg B x.1 x.2.1 i = 1 ∨ 3 ≤ tg B x.1 x.2.1 i ∧ tg B x.1 x.2.1 i ≤ 12 := by
  by_cases e : tg B x.1 x.2.1 i = 0
  · exact Or.inl e
  · obtain ⟨h1, h2, h3, h4⟩ := tg_at rfl e
    have := (h.1.1.2.2.2.2.1 i h2).2.1
    omega
/-- an entry's bytes lie ahead of what is behind the pool -/
theorem GG.sz (h : GG B x) {i : Nat} (e : tg B x.1 x.2.1 i ≠ 0) : 10 ≤ st x.1 x.2.1 i ∧ st x.1 x.2.1 i + bof B x.1 x.2.1 i ≤ x.2.2.1 ∧ bof B x.1 x.2.1 i = eSz B (x.1 i) := by
  obtain ⟨h1, h2, h3, h4⟩ := tg_at rfl e
  obtain ⟨r1, r2, r3⟩ := h.1.1.2.2.2.2.1 i h2
  have eb : bof B x.1 x.2.1 i = eSz B (x.1 i) := by
    unfold bof eSz
    rw [← h3]
    by_cases t1 : b1 B (x.1 i) = 1
    · rw [if_pos t1, if_pos t1]
      unfold tz tw
      rw [if_pos (by rw [← h3, t1]), h4, if_neg h2]
    · rw [if_neg t1, if_neg t1]
  rw [h4, eb]
  exact ⟨r1, r3, rfl⟩
theorem GG.bh_le (h : GG B x) : 10 ≤ x.2.2.1 ∧ x.2.2.1 + 8 ≤ B.length := ⟨h.1.1.2.1, h.1.2.2.2.1⟩
/-- tells that follow each other up to an end -/
def IncE : Nat → List Nat → Nat → Prop
  | a, [], e => a ≤ e
  | a, t :: T, e => a ≤ t ∧ IncE (t + 2) T e
theorem IncE.le : ∀ {T : List Nat} {a e : Nat}, IncE a T e → a ≤ e
  | [], a, e, h => h
  | t :: T, a, e, h => by have := IncE.le h.2; have := h.1; omega
theorem IncE.mono : ∀ {T : List Nat} {a b e : Nat}, IncE a T e → b ≤ a → IncE b T e
  | [], a, b, e, h, hb => Nat.le_trans hb h
  | t :: T, a, b, e, h, hb => ⟨Nat.le_trans hb h.1, h.2⟩
theorem IncE.app : ∀ {T U : List Nat} {a m e : Nat}, IncE a T m → IncE m U e → IncE a (T ++ U) e
  | [], U, a, m, e, h, g => g.mono h
  | t :: T, U, a, m, e, h, g => ⟨h.1, h.2.app g⟩
theorem IncE.inc : ∀ {T : List Nat} {a : Nat}, IncE a T B.length → Inc B a T
  | [], a, h => h
  | t :: T, a, h => ⟨h.1, h.2.le, h.2.inc⟩
theorem incE_att : ∀ d p, AttG B d p → IncE p ((attT B d p).map (·.1)) (atP B d p)
  | 0, p, _ => Nat.le_refl _
  | d + 1, p, h => by
    refine ⟨Nat.le_refl _, ?_⟩
    exact (incE_att d _ h.2.2).mono (show p + 2 ≤ p + 6 + b4 B (p + 2) by omega)
theorem incE_fac : ∀ d p, IncE p ((facT d p).map (·.1)) (p + 2 * d)
  | 0, p => Nat.le_refl _
  | d + 1, p => by
    refine ⟨Nat.le_refl _, ?_⟩
    have := incE_fac d (p + 2)
    rw [show p + 2 * (d + 1) = p + 2 + 2 * d by omega]
    exact this
theorem atP_ge : ∀ d p, p ≤ atP B d p
  | 0, p => Nat.le_refl _
  | d + 1, p => by have := atP_ge d (p + 6 + b4 B (p + 2)); unfold atP; omega
theorem incE_mem : ∀ d p, MemG B d p → IncE p ((memT B d p).map (·.1)) (memE B d p)
  | 0, p, _ => Nat.le_refl _
  | d + 1, p, h => by
    obtain ⟨h1, h2, h3, h4⟩ := h
    refine ⟨by simp, by simp, ?_⟩
    rw [List.map_append]
    refine IncE.app ((incE_att _ _ h3).mono (by simp)) ?_
    exact incE_mem d _ h4
theorem bT_inc (h : GF B x) : IncE x.2.2.1 ((bT B x.2.2.1).map (·.1)) B.length := by
  obtain ⟨h1, h2, h3, h4, h5, h6, h7, h8, h9, h10, h11, h12, h13, h14, h15, -⟩ := h
  unfold bT
  rw [List.map_cons, List.map_append, List.map_append, List.map_append, List.map_append]
  refine ⟨by simp, ?_⟩
  refine IncE.app (m := x.2.2.1 + 6) ?_ ?_
  · split
    · simp [IncE]
    · simp [IncE]
  · refine IncE.app (m := fP B x.2.2.1) ((incE_fac _ _).mono (by omega)) ?_
    refine IncE.app (m := mP B x.2.2.1) ((incE_mem _ _ h8).mono (by omega)) ?_
    refine IncE.app (m := aP B x.2.2.1) ((incE_mem _ _ h11).mono (by omega)) ?_
    have := incE_att _ _ h14
    rw [show atP B (b2 B (aP B x.2.2.1)) (aP B x.2.2.1 + 2) = B.length from h15] at this
    exact this.mono (by omega)
theorem fbh_at {A : List (Nat × Nat)} {b : Nat × Nat} {C : List (Nat × Nat)} {bh : Nat} (hA : ∀ p ∈ A, p.1 < bh) (hb : bh ≤ b.1) : ∀ d t, t ≤ A.length → t + d = (A ++ b :: C).length → fbh (A ++ b :: C) bh d t = A.length
  | 0, t, h1, h2 => by simp at h2; omega
  | d + 1, t, h1, h2 => by
    have ht : tA (A ++ b :: C) t = ((A ++ b :: C).getD t (0, 0)).1 := pr1
    unfold fbh
    by_cases e : t = A.length
    · subst e
      have : (A ++ b :: C).getD A.length (0, 0) = b := by
        rw [List.getD_eq_getElem?_getD, List.getElem?_append_right (Nat.le_refl _), Nat.sub_self]; rfl
      rw [if_pos (by rw [ht, this]; exact hb)]
    · have hlt : t < A.length := by omega
      have : (A ++ b :: C).getD t (0, 0) ∈ A := by
        rw [List.getD_eq_getElem?_getD, List.getElem?_append_left hlt, List.getElem?_eq_getElem hlt]
        exact List.getElem_mem hlt
      rw [if_neg (by rw [ht]; have := hA _ this; omega)]
      exact fbh_at hA hb d (t + 1) (by omega) (by omega)
theorem tB_eq (h : GF B x) : tB x.2.2.2.2.2.2 x.2.2.1 = (bT B x.2.2.1).map (·.1) := by
  have hT := h.2.2.2.2.2.2.2.2.2.2.2.2.2.2.2.2.2.2
  have hG := h.1
  unfold tB
  rw [hT]
  have hA : ∀ p ∈ zT B x.1 (x.2.1 - 1), p.1 < x.2.2.1 := by
    intro p hp
    obtain ⟨j, j1, j2, j3, j4⟩ := zT_of _ hp
    obtain ⟨r1, r2, r3⟩ := hG.2.2.2.2.1 j j3
    have hz : p.1 < x.1 j + eSz B (x.1 j) := by
      unfold eTl at j4
      unfold eSz
      split at j4
      · next t7 =>
        rw [if_neg (by omega), if_neg (by omega), if_pos t7]
        simp at j4; rw [j4]; simp
      · next t7 =>
        split at j4
        · next t12 =>
          rw [if_neg (by omega), if_neg (by omega), if_neg t7]
          simp at j4
          rcases j4 with j4 | j4 <;> rw [j4] <;> simp
        · split at j4
          · next t9 =>
            rw [if_neg (by omega), if_neg (by omega), if_neg t7]
            simp at j4
            rcases j4 with j4 | j4 <;> rw [j4] <;> simp
          · cases j4
    omega
  have hbT : bT B x.2.2.1 = (x.2.2.1 + 2, 7) :: (bT B x.2.2.1).tail := by unfold bT; rfl
  rw [hbT]
  rw [fbh_at hA (by simp) _ 0 (Nat.zero_le _) (by omega)]
  rw [List.map_append, List.drop_append_of_le_length (by simp), List.drop_eq_nil_of_le (by simp)]
  rfl
theorem GG.inc (h : GG B x) : Inc B x.2.2.1 (tB x.2.2.2.2.2.2 x.2.2.1) := by
  rw [tB_eq h.1]
  exact (bT_inc h.1).inc
theorem memL_t4 {m : Nat} : ∀ d p, m ∈ memL B d p → (m + 2, 1) ∈ memT B d p ∧ (m + 4, 1) ∈ memT B d p
  | 0, p, h => by cases h
  | d + 1, p, h => by
    unfold memT
    rcases List.mem_cons.mp h with z | z
    · subst z; exact ⟨by simp, by simp⟩
    · obtain ⟨q1, q2⟩ := memL_t4 d _ z
      exact ⟨by simp [q1], by simp [q2]⟩
theorem GF.mem {m : Nat} (h : GF B x) (hm : m ∈ x.2.2.2.2.1 ∨ m ∈ x.2.2.2.2.2.1) : (m + 2, 1) ∈ x.2.2.2.2.2.2 ∧ (m + 4, 1) ∈ x.2.2.2.2.2.2 := by
  obtain ⟨h1, h2, h3, h4, h5, h6, h7, h8, h9, h10, h11, h12, h13, h14, h15, h16, h17, h18, h19⟩ := h
  rw [h19]
  unfold bT
  rcases hm with q | q
  · rw [h17] at q
    obtain ⟨q1, q2⟩ := memL_t4 _ _ q
    exact ⟨by simp [q1], by simp [q2]⟩
  · rw [h18] at q
    obtain ⟨q1, q2⟩ := memL_t4 _ _ q
    exact ⟨by simp [q1], by simp [q2]⟩
theorem GG.mem {m : Nat} (h : GG B x) (hm : m ∈ x.2.2.2.2.1 ∨ m ∈ x.2.2.2.2.2.1) : tg B x.1 x.2.1 (b2 B (m + 2)) = 1 ∧ tg B x.1 x.2.1 (b2 B (m + 4)) = 1 := by
  obtain ⟨q1, q2⟩ := h.1.mem hm
  exact ⟨(wrg0 (h.2.1 _ q1)).2.1, (wrg0 (h.2.1 _ q2)).2.1⟩
end FACTS
/-- reading -/
def p_read (B : List Nat) : Rt := p_srt B 1 (p_srt B 0 (p_chk B (p_scan B (.inr (0, x00)))))
theorem chk_ok {B : List Nat} {s : Rt} {a : Nat} {x : Fs} (h : p_chk B s = .inr (a, x)) : s = .inr (a, x) ∧ ∀ p ∈ x.2.2.2.2.2.2, wrg B x.1 x.2.1 (b2 B p.1) p.2 = 0 := by
  unfold p_chk at h
  split at h
  · cases h
  · split at h
    · next e =>
      simp only [Sum.inr.injEq, Prod.mk.injEq] at h
      obtain ⟨rfl, rfl⟩ := h
      exact ⟨rfl, ckT_none _ e⟩
    · cases h
theorem srt_ok {B : List Nat} {k : Nat} {s : Rt} {a : Nat} {x : Fs} (h : p_srt B k s = .inr (a, x)) : s = .inr (a, x) ∧ ∀ m ∈ mK x.2.2.2.2.1 x.2.2.2.2.2.1 k, okS k (tx B x.1 x.2.1 (b2 B (m + 4))) = true := by
  unfold p_srt at h
  split at h
  · cases h
  · split at h
    · next e =>
      simp only [Sum.inr.injEq, Prod.mk.injEq] at h
      obtain ⟨rfl, rfl⟩ := h
      exact ⟨rfl, ckS_none _ e⟩
    · cases h
theorem read_ok {B : List Nat} {a : Nat} {x : Fs} (h : p_read B = .inr (a, x)) : GG B x := by
  obtain ⟨h1, h2⟩ := srt_ok h
  obtain ⟨h3, h4⟩ := srt_ok h1
  obtain ⟨h5, h6⟩ := chk_ok h3
  exact ⟨(scan_ok h5).1, h6, h4, h2⟩
theorem chk_tv {B : List Nat} {a : Nat} {x : Fs} {k : Nat} (hk : k < 2) (h : p_chk B (p_scan B (.inr (0, x00))) = .inr (a, x)) : TV B x.1 x.2.1 ∧ ∀ m ∈ mK x.2.2.2.2.1 x.2.2.2.2.2.1 k, tg B x.1 x.2.1 (b2 B (m + 4)) = 1 := by
  obtain ⟨h5, h6⟩ := chk_ok h
  have hG := (scan_ok h5).1
  refine ⟨EnG_tv hG.1, fun m hm => ?_⟩
  have : m ∈ x.2.2.2.2.1 ∨ m ∈ x.2.2.2.2.2.1 := by
    unfold mK at hm
    split at hm
    · exact Or.inl hm
    · exact Or.inr hm
  exact (wrg0 (h6 _ (hG.mem this).2)).2.1
end
section
/-! the object and its state -/
abbrev Fl : Type := List Nat × Fs
/-- tape, what is shown, files, the fault's place, joined meanings -/
abbrev Sg : Type := List Nat × List Nat × List Fl × Int32 × List Mng
/-- the file of a number -/
def fA (FL : List Fl) (f : Int32) : Option Fl := if f < 0 then none else FL[f.toNatClampNeg]?
def CPs (h : Hp) (c0 : Nat) (s : Sg) : Prop := ∃ (P : Nat → Nat) (Fn : Nat → Fl) (kr kt : Nat) (g : Nat → Option Nat),
  h.2.2 c0 = some (true, .inr (6, [.ref (c0 + 1), .ref (c0 + 3), .ref (c0 + 5), .int (nI s.2.2.1.length), .int s.2.2.2.1, .ref kr, .ref kt, .ref (c0 + 62)])) ∧ (kr = c0 + 6 ∧ kt = c0 + 34 ∨ kr = c0 + 34 ∧ kt = c0 + 6) ∧ RW h (c0 + 1) s.1 ∧ RW h (c0 + 3) s.2.1 ∧ h.2.2 (c0 + 5) = some (true, .inl (5, 6, .inr (.inr (.inr (.inr g))))) ∧ (∀ i, i < 6 → g i = some (c0 + 65 + 11 * P i) ∧ P i < 6) ∧ (∀ i j, i < 6 → j < 6 → P i = P j → i = j) ∧ (∀ i, i < 6 → CFs h (c0 + 65 + 11 * P i) (Fn i).1 (Fn i).2) ∧ (∀ i, i < s.2.2.1.length → s.2.2.1[i]? = some (Fn i)) ∧ (∃ Q pc L, RK h kr Q pc L ∧ mgs Q L = s.2.2.2.2) ∧ (∃ Q pc L, RK h kt Q pc L) ∧ (∃ f g, WR h (c0 + 62) (c0 + 3) f g) ∧ s.2.2.1.length ≤ 6
/-- a good state -/
def SgG (s : Sg) : Prop := (∀ z ∈ s.2.2.1, GG z.1 z.2) ∧ SoM s.2.2.2.2 ∧ (∀ m ∈ s.2.2.2.2, m.1 ≠ 0) ∧ s.2.2.1.length ≤ 6 ∧ s.1.length ≤ 400 ∧ s.2.1.length ≤ 400 ∧ (∀ x ∈ s.1, x < 256) ∧ (∀ x ∈ s.2.1, x < 256) ∧ s.2.2.2.2.length ≤ 150 ∧ ∀ z ∈ s.2.2.1, z.1.length ≤ 400 ∧ ∀ x ∈ z.1, x < 256
/-- nothing but the object's cells changed; what was made -/
def FC (c0 : Nat) (h h' : Hp) : Prop := h.1 ≤ h'.1 ∧ h'.1 ≤ h.1 + 1 ∧ h.2.1 ≤ h'.2.1 ∧ h'.2.1 ≤ h.2.1 + 8 ∧ ∀ q, q < h.1 → (q < c0 ∨ c0 + 131 ≤ q) → h'.2.2 q = h.2.2 q
theorem FC.rf {c0 : Nat} {h : Hp} : FC c0 h h := ⟨Nat.le_refl _, by omega, Nat.le_refl _, by omega, fun _ _ _ => rfl⟩
theorem FC.of {c0 lo hi : Nat} {h h' : Hp} (F : FrI lo hi h h') (h1 : c0 ≤ lo) (h2 : hi ≤ c0 + 131) : FC c0 h h' := ⟨by rw [F.1]; exact Nat.le_refl _, by rw [F.1]; omega, by rw [F.2.1]; exact Nat.le_refl _, by rw [F.2.1]; omega, fun q _ hq => F.2.2 q (by omega)⟩
theorem i32_cases (x : Int32) : x < 0 ∨ ∃ k, k < 2 ^ 31 ∧ x = nI k := by
  by_cases h : x < 0
  · exact Or.inl h
  · refine Or.inr ⟨x.toNatClampNeg, ?_, ?_⟩
    · have := x.toInt_lt
      unfold Int32.toNatClampNeg
      omega
    · have h0 : 0 ≤ x.toInt := by
        have hnl : ¬ x.toInt < (0 : Int32).toInt := fun z => h (Int32.lt_iff_toInt_lt.mpr z)
        rw [show (0 : Int32).toInt = 0 by decide] at hnl
        omega
      apply Int32.toInt_inj.mp
      have := x.toInt_lt
      rw [nI_toInt (by unfold Int32.toNatClampNeg; omega)]
      unfold Int32.toNatClampNeg
      omega
theorem fA_nI {FL : List Fl} {k : Nat} (hk : k < 2 ^ 31) : fA FL (nI k) = FL[k]? := by
  unfold fA
  rw [if_neg (nI_pos hk), nI_clamp hk]
section STATE
variable {nb sa : Nat} {h : Hp} {c0 : Nat} {s : Sg}
theorem c_CP_fileAt (hS : CPs h c0 s) (f : Int32) : (fA s.2.2.1 f = none ∧ Ev (prog nb sa) m_CP_fileAt [.ref c0, .int f] h (some .null) h) ∨ ∃ z c, fA s.2.2.1 f = some z ∧ Ev (prog nb sa) m_CP_fileAt [.ref c0, .int f] h (some (.ref c)) h ∧ CFs h c z.1 z.2 ∧ c0 + 65 ≤ c ∧ c + 11 ≤ c0 + 131 ∧ z ∈ s.2.2.1 := by
  obtain ⟨P, Fn, kr, kt, g, hc, hkk, hT, hO, hF, hg, hP, hCF, hFn, hr, ht, hw, hl⟩ := hS
  rcases i32_cases f with hn | ⟨k, hk, rfl⟩
  · refine Or.inl ⟨if_pos hn, ?_⟩
    refine Ev_ofL k_CP_fileAt 2 [some (.ref c0), some (.int f)] rfl (Nat.le_of_ble_eq_true rfl) rfl ?_
    refine Ex_mv rfl rfl ?_; refine Ex_mv rfl rfl ?_; refine Ex_ift hn ?_; refine Ex_mv rfl rfl ?_
    exact Ex_rt rfl rfl ⟨rfl, rfl⟩
  · rw [fA_nI hk]
    by_cases hkl : k < s.2.2.1.length
    · have hp6 := (hg k (by omega)).2
      have hb1 : c0 + 65 ≤ c0 + 65 + 11 * P k := by omega
      have hb2 : c0 + 65 + 11 * P k + 11 ≤ c0 + 131 := by omega
      refine Or.inr ⟨Fn k, c0 + 65 + 11 * P k, hFn k hkl, ?_, hCF k (by omega), hb1, hb2, ?_⟩
      · have e : g (nI k).toNatClampNeg = some (c0 + 65 + 11 * P k) := by rw [nI_clamp hk]; exact (hg k (by omega)).1
        refine Ev_ofL k_CP_fileAt 2 [some (.ref c0), some (.int (nI k))] rfl (Nat.le_of_ble_eq_true rfl) rfl ?_
        refine Ex_mv rfl rfl ?_; refine Ex_mv rfl rfl ?_; refine Ex_lt0 (by omega) ?_; refine Ex_mv rfl rfl ?_; refine Ex_mv rfl rfl ?_; refine Ex_getf rfl (by assumption) rfl ?_; refine Ex_mv rfl rfl ?_; refine Ex_iff (nI_ge (by omega) (by omega)) ?_; refine Ex_mv rfl rfl ?_; refine Ex_mv rfl rfl ?_; refine Ex_getf rfl (by assumption) rfl ?_; refine Ex_alen rfl (by assumption) rfl ?_; refine Ex_mv rfl rfl ?_; refine Ex_iff (nI_ge (by omega) (by omega)) ?_; refine Ex_mv rfl rfl ?_; refine Ex_getf rfl (by assumption) rfl ?_; refine Ex_mv rfl rfl ?_; refine Ex_aald rfl (by assumption) rfl (vp_in_nI (by omega) (by decide)) e ?_; refine Ex_mv rfl rfl ?_
        exact Ex_rt rfl rfl ⟨rfl, rfl⟩
      · have := hFn k hkl
        exact List.mem_of_getElem? this
    · refine Or.inl ⟨List.getElem?_eq_none (by omega), ?_⟩
      refine Ev_ofL k_CP_fileAt 2 [some (.ref c0), some (.int (nI k))] rfl (Nat.le_of_ble_eq_true rfl) rfl ?_
      refine Ex_mv rfl rfl ?_; refine Ex_mv rfl rfl ?_; refine Ex_lt0 (by omega) ?_; refine Ex_mv rfl rfl ?_; refine Ex_mv rfl rfl ?_; refine Ex_getf rfl (by assumption) rfl ?_; refine Ex_mv rfl rfl ?_; refine Ex_ift (nI_le (by omega) (by omega)) ?_; refine Ex_mv rfl rfl ?_
      exact Ex_rt rfl rfl ⟨rfl, rfl⟩
theorem CPs.cell (hS : CPs h c0 s) : ∃ kr kt, h.2.2 c0 = some (true, .inr (6, [.ref (c0 + 1), .ref (c0 + 3), .ref (c0 + 5), .int (nI s.2.2.1.length), .int s.2.2.2.1, .ref kr, .ref kt, .ref (c0 + 62)])) := by
  obtain ⟨P, Fn, kr, kt, g, hc, -⟩ := hS
  exact ⟨kr, kt, hc⟩
/-- a change of what is shown alone -/
theorem CPs.shown {h' : Hp} {O' : List Nat} (hS : CPs h c0 s) (hO : RW h' (c0 + 3) O') (F : FrI (c0 + 3) (c0 + 5) h h') : CPs h' c0 (s.1, O', s.2.2) := by
  obtain ⟨P, Fn, kr, kt, g, hc, hkk, hT, hO0, hF, hg, hP, hCF, hFn, ⟨Q1, pc1, L1, hr, hr2⟩, ⟨Q2, pc2, L2, ht⟩, ⟨f, g2, hw⟩, hl⟩ := hS
  exact ⟨P, Fn, kr, kt, g, F.at hc (by omega), hkk, hT.fr F (by omega), hO, F.at hF (by omega), hg, hP, fun i hi => CF.fr (hCF i hi) F (by omega), hFn, ⟨Q1, pc1, L1, hr.fr F (by omega), hr2⟩, ⟨Q2, pc2, L2, ht.fr F (by omega)⟩, ⟨f, g2, hw.fr F (by omega)⟩, hl⟩
/-- a change of the tape alone -/
theorem CPs.tape {h' : Hp} {T' : List Nat} (hS : CPs h c0 s) (hT' : RW h' (c0 + 1) T') (F : FrI (c0 + 1) (c0 + 3) h h') : CPs h' c0 (T', s.2) := by
  obtain ⟨P, Fn, kr, kt, g, hc, hkk, hT, hO0, hF, hg, hP, hCF, hFn, ⟨Q1, pc1, L1, hr, hr2⟩, ⟨Q2, pc2, L2, ht⟩, ⟨f, g2, hw⟩, hl⟩ := hS
  exact ⟨P, Fn, kr, kt, g, F.at hc (by omega), hkk, hT', hO0.fr F (by omega), F.at hF (by omega), hg, hP, fun i hi => CF.fr (hCF i hi) F (by omega), hFn, ⟨Q1, pc1, L1, hr.fr F (by omega), hr2⟩, ⟨Q2, pc2, L2, ht.fr F (by omega)⟩, ⟨f, g2, hw.fr F (by omega)⟩, hl⟩
theorem CPs.rows (hS : CPs h c0 s) : RW h (c0 + 1) s.1 ∧ RW h (c0 + 3) s.2.1 := by
  obtain ⟨P, Fn, kr, kt, g, hc, hkk, hT, hO0, -⟩ := hS
  exact ⟨hT, hO0⟩
theorem c_CP_place (hS : CPs h c0 s) : Ev (prog nb sa) m_CP_place [.ref c0] h (some (.int s.2.2.2.1)) h := by
  obtain ⟨kr, kt, hc⟩ := hS.cell
  refine Ev_ofL k_CP_place 1 [some (.ref c0)] rfl (Nat.le_of_ble_eq_true rfl) rfl ?_
  refine Ex_mv rfl rfl ?_; refine Ex_getf rfl (by assumption) rfl ?_
  exact Ex_rt rfl rfl ⟨rfl, rfl⟩
theorem c_CP_back (hS : CPs h c0 s) : EvQ (prog nb sa) m_CP_back [.ref c0] h (fun v h' => v = some (.int (nI s.2.1.length)) ∧ CPs h' c0 (s.2.1, s.2) ∧ FC c0 h h') := by
  obtain ⟨kr, kt, hc⟩ := hS.cell
  obtain ⟨hT, hO⟩ := hS.rows
  obtain ⟨_, h1, e1, rfl, R1, F1⟩ := c_RW_take (nb := nb) (sa := sa) hT hO (by omega) (k := 0) (n := s.2.1.length) (by omega)
  rw [show sl s.2.1 0 s.2.1.length = s.2.1 by simp [sl]] at R1
  obtain ⟨f1, hr1, -⟩ := id hT
  obtain ⟨f2, hr2, -⟩ := id hO
  refine EvQ_of k_CP_back 1 [some (.ref c0)] rfl (Nat.le_of_ble_eq_true rfl) rfl ?_
  refine Ex_mv rfl rfl ?_; refine Ex_getf rfl (by assumption) rfl ?_; refine Ex_mv rfl rfl ?_; refine Ex_getf rfl (by assumption) rfl ?_; refine Ex_mv rfl rfl ?_; refine Ex_mv rfl rfl ?_; refine Ex_getf rfl (by assumption) rfl ?_; refine Ex_invV rfl (by rfl) (by rfl) (by assumption) (by rfl) (c_RW_size hO) ?_; refine Ex_invV rfl (by rfl) (by rfl) (by assumption) (by rfl) (e1) ?_
  refine Ex_rt rfl rfl ?_
  exact ⟨rfl, hS.tape R1 F1, FC.of F1 (by omega) (by omega)⟩
/-- what out answers -/
def q_out (O : List Nat) (i : Int32) : Int32 := if i < 0 then -1 else if i.toNatClampNeg < O.length then nI (b1 O i.toNatClampNeg) else -1
theorem c_CP_out (hS : CPs h c0 s) (i : Int32) : Ev (prog nb sa) m_CP_out [.ref c0, .int i] h (some (.int (q_out s.2.1 i))) h := by
  obtain ⟨kr, kt, hc⟩ := hS.cell
  obtain ⟨hT, hO⟩ := hS.rows
  obtain ⟨f2, hr2, -⟩ := id hO
  have hl := hO.len
  unfold q_out
  rcases i32_cases i with hn | ⟨k, hk, rfl⟩
  · rw [if_pos hn]
    refine Ev_ofL k_CP_out 2 [some (.ref c0), some (.int i)] rfl (Nat.le_of_ble_eq_true rfl) rfl ?_
    refine Ex_mv rfl rfl ?_; refine Ex_getf rfl (by assumption) rfl ?_; refine Ex_mv rfl rfl ?_; refine Ex_mv rfl rfl ?_; refine Ex_invV rfl (by rfl) (by rfl) (by assumption) (by rfl) (c_RW_hasN hO hn) ?_; refine Ex_mv rfl rfl ?_; refine Ex_ift (by decide) ?_; refine Ex_mv rfl rfl ?_
    exact Ex_rt rfl rfl ⟨rfl, rfl⟩
  · rw [if_neg (nI_pos hk), nI_clamp hk]
    refine Ev_ofL k_CP_out 2 [some (.ref c0), some (.int (nI k))] rfl (Nat.le_of_ble_eq_true rfl) rfl ?_
    by_cases hkl : k + 1 ≤ s.2.1.length
    · rw [if_pos (by omega)]
      refine Ex_mv rfl rfl ?_; refine Ex_getf rfl (by assumption) rfl ?_; refine Ex_mv rfl rfl ?_; refine Ex_mv rfl rfl ?_; refine Ex_invV rfl (by rfl) (by rfl) (by assumption) (by rfl) (c_RW_has hO hk (by decide)) ?_
      rw [if_pos hkl]
      refine Ex_mv rfl rfl ?_; refine Ex_iff (by decide) ?_; refine Ex_mv rfl rfl ?_; refine Ex_getf rfl (by assumption) rfl ?_; refine Ex_mv rfl rfl ?_; refine Ex_invV rfl (by rfl) (by rfl) (by assumption) (by rfl) (c_RW_one hO hk) ?_; refine Ex_mv rfl rfl ?_
      exact Ex_rt rfl rfl ⟨rfl, rfl⟩
    · rw [if_neg (by omega)]
      refine Ex_mv rfl rfl ?_; refine Ex_getf rfl (by assumption) rfl ?_; refine Ex_mv rfl rfl ?_; refine Ex_mv rfl rfl ?_; refine Ex_invV rfl (by rfl) (by rfl) (by assumption) (by rfl) (c_RW_has hO hk (by decide)) ?_
      rw [if_neg hkl]
      refine Ex_mv rfl rfl ?_; refine Ex_ift (by decide) ?_; refine Ex_mv rfl rfl ?_
      exact Ex_rt rfl rfl ⟨rfl, rfl⟩
/-- the bytes that feed puts -/
def fdB (w : Int64) : Nat → List Nat
  | 0 => []
  | d + 1 => lowb (w >>> ((nI (8 * d)).toInt64 &&& 63)).toInt32 :: fdB w d
theorem CP_feed_loop {w : Int64} {n : Int32} : ∀ (d : Nat) (h : Hp) (s : Sg), CPs h c0 s → s.1.length + d ≤ 400 → d ≤ 8 → ∀ x4 : Int32, x4 = nI d - nI 1 → Ex (prog nb sa) k_CP_feed 37 [some (.ref c0), some (.long w), none, some (.int n), some (.int x4)] [] h (fun v h' => v = some (.int (nI (s.1 ++ fdB w d).length)) ∧ CPs h' c0 (s.1 ++ fdB w d, s.2) ∧ FrI (c0 + 1) (c0 + 3) h h')
  | 0, h, s, hS, hl, h8, x4, hx => by
    obtain ⟨kr, kt, hc⟩ := hS.cell
    obtain ⟨hT, hO⟩ := hS.rows
    obtain ⟨f1, hr1, -⟩ := id hT
    have hx2 : x4 = -1 := by rw [hx]; decide
    subst hx2
    rw [fdB, List.append_nil]
    refine Ex_mv rfl rfl ?_; refine Ex_mv rfl rfl ?_; refine Ex_ift (by decide) ?_; refine Ex_mv rfl rfl ?_; refine Ex_getf rfl (by assumption) rfl ?_; refine Ex_invV rfl (by rfl) (by rfl) (by assumption) (by rfl) (c_RW_size hT) ?_
    refine Ex_rt rfl rfl ?_
    exact ⟨rfl, hS, FrI.rf⟩
  | d + 1, h, s, hS, hl, h8, x4, hx => by
    obtain ⟨kr, kt, hc⟩ := hS.cell
    obtain ⟨hT, hO⟩ := hS.rows
    obtain ⟨f1, hr1, -⟩ := id hT
    have hx2 : x4 = nI d := by rw [hx, pk_sub (by omega)]; rfl
    subst hx2
    obtain ⟨_, h1, e1, rfl, R1, F1⟩ := c_RW_push (nb := nb) (sa := sa) hT (x := (w >>> ((nI (8 * d)).toInt64 &&& 63)).toInt32) (by omega)
    have hS1 := hS.tape R1 F1
    have ih := CP_feed_loop (w := w) (n := n) d h1 _ hS1 (by simp; omega) (by omega) (nI d + -1) (by rw [show nI 1 = 1 from rfl, Int32.sub_eq_add_neg])
    refine Ex_mv rfl rfl ?_; refine Ex_mv rfl rfl ?_; refine Ex_lt0 (by omega) ?_; refine Ex_mv rfl rfl ?_; refine Ex_getf rfl (by assumption) rfl ?_; refine Ex_mv rfl rfl ?_; refine Ex_mv rfl rfl ?_; refine Ex_mv rfl rfl ?_; (first | refine Ex_mulN rfl ?_ | refine Ex_mv rfl rfl ?_); refine Ex_lshr rfl ?_; refine Ex_mv rfl rfl ?_; refine Ex_invV rfl (by rfl) (by rfl) (by assumption) (by rfl) (e1) ?_
    refine Ex_mv rfl rfl ?_
    refine Ex_mv rfl rfl ?_
    refine Ex_mono ih ?_
    rintro v h' ⟨rfl, q1, q2⟩
    rw [fdB]
    simp only [List.append_assoc, List.cons_append, List.nil_append] at q1 ⊢
    exact ⟨trivial, q1, F1.tr q2⟩
/-- what feed answers -/
def q_feed (T : List Nat) (w : Int64) (n : Int32) : Int32 × List Nat := if n < 1 ∨ nI 8 < n then (-2, T) else if 400 < T.length + n.toNatClampNeg then (-3, T) else (nI (T ++ fdB w n.toNatClampNeg).length, T ++ fdB w n.toNatClampNeg)
theorem c_CP_feed (hS : CPs h c0 s) (w : Int64) (n : Int32) : EvQ (prog nb sa) m_CP_feed [.ref c0, .long w, .int n] h (fun v h' => v = some (.int (q_feed s.1 w n).1) ∧ CPs h' c0 ((q_feed s.1 w n).2, s.2) ∧ FC c0 h h') := by
  obtain ⟨kr, kt, hc⟩ := hS.cell
  obtain ⟨hT, hO⟩ := hS.rows
  obtain ⟨f1, hr1, -⟩ := id hT
  have hl := hT.len
  unfold q_feed
  refine EvQ_of k_CP_feed 5 [some (.ref c0), some (.long w), none, some (.int n), none] rfl (Nat.le_of_ble_eq_true rfl) rfl ?_
  by_cases h1 : n < 1
  · rw [if_pos (Or.inl h1)]
    refine Ex_mv rfl rfl ?_; refine Ex_mv rfl rfl ?_; refine Ex_mv rfl rfl ?_; refine Ex_ift h1 ?_; refine Ex_mv rfl rfl ?_
    refine Ex_rt rfl rfl ?_
    exact ⟨rfl, hS, FC.rf⟩
  · by_cases h2 : n ≤ nI 8
    · rw [if_neg (fun z => z.elim h1 (fun q => absurd (Int32.lt_of_lt_of_le q h2) Int32.lt_irrefl))]
      have hk : ∃ k, k < 2 ^ 31 ∧ n = nI k := by
        rcases i32_cases n with z | z
        · exact absurd (Int32.lt_trans z (by decide)) h1
        · exact z
      obtain ⟨k, hk, rfl⟩ := hk
      have hk8 : k ≤ 8 := (nI_leI hk (by decide)).mp h2
      rw [nI_clamp hk]
      by_cases h3 : 400 < s.1.length + k
      · rw [if_pos h3]
        refine Ex_mv rfl rfl ?_; refine Ex_mv rfl rfl ?_; refine Ex_mv rfl rfl ?_; refine Ex_iff h1 ?_; refine Ex_mv rfl rfl ?_; refine Ex_mv rfl rfl ?_; refine Ex_mv rfl rfl ?_; refine Ex_ift h2 ?_; refine Ex_mv rfl rfl ?_; refine Ex_mv rfl rfl ?_; refine Ex_mv rfl rfl ?_; refine Ex_getf rfl (by assumption) rfl ?_; refine Ex_invV rfl (by rfl) (by rfl) (by assumption) (by rfl) (c_RW_size hT) ?_; (first | refine Ex_subN rfl (by omega) ?_ | refine Ex_mv rfl rfl ?_); refine Ex_mv rfl rfl ?_; refine Ex_iff (nI_ge (by omega) (by omega)) ?_; refine Ex_mv rfl rfl ?_
        refine Ex_rt rfl rfl ?_
        exact ⟨rfl, hS, FC.rf⟩
      · rw [if_neg h3]
        have key : ∀ x4 : Int32, x4 = nI k - nI 1 → Ex (prog nb sa) k_CP_feed 37 [some (.ref c0), some (.long w), none, some (.int (nI k)), some (.int x4)] [] h (fun v h' => v = some (.int (nI (s.1 ++ fdB w k).length)) ∧ CPs h' c0 (s.1 ++ fdB w k, s.2) ∧ FC c0 h h') := by
          intro x4 hx4
          refine Ex_mono (CP_feed_loop k h s hS (by omega) hk8 x4 hx4) ?_
          rintro v h' ⟨rfl, q1, q2⟩
          exact ⟨rfl, q1, FC.of q2 (by omega) (by omega)⟩
        have hk1 : 1 ≤ k := by
          rcases Nat.eq_zero_or_pos k with z | z
          · subst z; exact absurd (by decide) h1
          · exact z
        refine Ex_mv rfl rfl ?_; refine Ex_mv rfl rfl ?_; refine Ex_mv rfl rfl ?_; refine Ex_iff h1 ?_; refine Ex_mv rfl rfl ?_; refine Ex_mv rfl rfl ?_; refine Ex_mv rfl rfl ?_; refine Ex_ift h2 ?_; refine Ex_mv rfl rfl ?_; refine Ex_mv rfl rfl ?_; refine Ex_mv rfl rfl ?_; refine Ex_getf rfl (by assumption) rfl ?_; refine Ex_invV rfl (by rfl) (by rfl) (by assumption) (by rfl) (c_RW_size hT) ?_; (first | refine Ex_subN rfl (by omega) ?_ | refine Ex_mv rfl rfl ?_); refine Ex_mv rfl rfl ?_; refine Ex_ift (nI_le (by omega) (by omega)) ?_; refine Ex_mv rfl rfl ?_; refine Ex_mv rfl rfl ?_; (first | refine Ex_subN rfl (by omega) ?_ | refine Ex_mv rfl rfl ?_); refine Ex_mv rfl rfl ?_
        exact key _ (by rw [pk_sub hk1])
    · have h4 : nI 8 < n := by
        rcases Int32.le_total n (nI 8) with z | z
        · exact absurd z h2
        · exact Int32.lt_of_le_of_ne z (fun q => h2 (by rw [← q]; exact Int32.le_refl _))
      rw [if_pos (Or.inr h4)]
      refine Ex_mv rfl rfl ?_; refine Ex_mv rfl rfl ?_; refine Ex_mv rfl rfl ?_; refine Ex_iff h1 ?_; refine Ex_mv rfl rfl ?_; refine Ex_mv rfl rfl ?_; refine Ex_mv rfl rfl ?_; refine Ex_iff h2 ?_; refine Ex_mv rfl rfl ?_
      refine Ex_rt rfl rfl ?_
      exact ⟨rfl, hS, FC.rf⟩
end STATE
end
section
/-! read, drop -/
section EQ
variable {h h' : Hp}
theorem RW.eq {r : Nat} {B : List Nat} (h1 : RW h r B) (F : ∀ q, r ≤ q → q < r + 2 → h'.2.2 q = h.2.2 q) : RW h' r B := by
  obtain ⟨g, a, b, c⟩ := h1
  exact ⟨g, (F _ (by omega) (by omega)).trans a, (F _ (by omega) (by omega)).trans b, c⟩
theorem AI.eq {a n : Nat} {L : List Nat} (h1 : AI h a n L) (F : h'.2.2 a = h.2.2 a) : AI h' a n L := by
  obtain ⟨g, b, c⟩ := h1
  exact ⟨g, F.trans b, c⟩
theorem PO.eq {p n : Nat} {B : List Nat} {S : Nat → Nat} (h1 : PO h p B S n) (F : ∀ q, p ≤ q → q < p + 4 → h'.2.2 q = h.2.2 q) : PO h' p B S n := by
  obtain ⟨a, b, ⟨g, c, d⟩, e, k⟩ := h1
  exact ⟨(F _ (by omega) (by omega)).trans a, b.eq (fun q h1 h2 => F q (by omega) (by omega)), ⟨g, (F _ (by omega) (by omega)).trans c, d⟩, e, k⟩
theorem CF.eq {c n bh aa : Nat} {B M0 M1 : List Nat} {S : Nat → Nat} {TL : List (Nat × Nat)} (h1 : CF h c B S n bh aa M0 M1 TL) (F : ∀ q, c ≤ q → q < c + 11 → h'.2.2 q = h.2.2 q) : CF h' c B S n bh aa M0 M1 TL := by
  obtain ⟨a1, a2, a3, a4, a5, a6, a7, a8, a9⟩ := h1
  exact ⟨(F _ (by omega) (by omega)).trans a1, a2.eq (fun q h1 h2 => F q (by omega) (by omega)), (F _ (by omega) (by omega)).trans a3, a4.eq (F _ (by omega) (by omega)), a5.eq (F _ (by omega) (by omega)), a6.eq (F _ (by omega) (by omega)), a7.eq (F _ (by omega) (by omega)), a8.eq (F _ (by omega) (by omega)), a9⟩
theorem RK.eq {k pc : Nat} {Q : Nat → Fp} {L : List (Nat × Nat)} (h1 : RK h k Q pc L) (F : ∀ q, k ≤ q → q < k + 28 → h'.2.2 q = h.2.2 q) : RK h' k Q pc L := by
  obtain ⟨a1, ⟨g, a2, a3⟩, a4, a5, a6, a7⟩ := h1
  exact ⟨(F _ (by omega) (by omega)).trans a1, ⟨g, (F _ (by omega) (by omega)).trans a2, a3⟩, a4.eq (F _ (by omega) (by omega)), a5.eq (F _ (by omega) (by omega)), fun i hi => (a6 i hi).eq (fun q h1 h2 => F q (by omega) (by omega)), a7⟩
theorem WR.eq {w r : Nat} {f g : Nat → Int32} (h1 : WR h w r f g) (F : ∀ q, w ≤ q → q < w + 3 → h'.2.2 q = h.2.2 q) : WR h' w r f g := ⟨(F _ (by omega) (by omega)).trans h1.1, (F _ (by omega) (by omega)).trans h1.2.1, (F _ (by omega) (by omega)).trans h1.2.2⟩
theorem CPs.eq {c0 : Nat} {s : Sg} (hS : CPs h c0 s) (F : ∀ q, c0 ≤ q → q < c0 + 131 → h'.2.2 q = h.2.2 q) : CPs h' c0 s := by
  obtain ⟨P, Fn, kr, kt, g, hc, hkk, hT, hO0, hF, hg, hP, hCF, hFn, ⟨Q1, pc1, L1, hr, hr2⟩, ⟨Q2, pc2, L2, ht⟩, ⟨f, g2, hw⟩, hl⟩ := hS
  exact ⟨P, Fn, kr, kt, g, (F _ (by omega) (by omega)).trans hc, hkk, hT.eq (fun q h1 h2 => F q (by omega) (by omega)), hO0.eq (fun q h1 h2 => F q (by omega) (by omega)), (F _ (by omega) (by omega)).trans hF, hg, hP, fun i hi => CF.eq (hCF i hi) (fun q h1 h2 => F q (by omega) (by have := (hg i hi).2; omega)), hFn, ⟨Q1, pc1, L1, hr.eq (fun q h1 h2 => F q (by omega) (by omega)), hr2⟩, ⟨Q2, pc2, L2, ht.eq (fun q h1 h2 => F q (by omega) (by omega))⟩, ⟨f, g2, hw.eq (fun q h1 h2 => F q (by omega) (by omega))⟩, hl⟩
end EQ
/-- what read answers, the state behind it -/
def q_read (s : Sg) : Int32 × Sg := if s.2.2.1.length = 6 then (-3, s) else match p_read s.1 with
  | .inl (f, w) => (-20 - nI f, ([], s.2.1, s.2.2.1, nI w, s.2.2.2.2))
  | .inr (_, x) => (nI s.2.2.1.length, ([], s.2.1, s.2.2.1 ++ [(s.1, x)], -1, s.2.2.2.2))
section READ
variable {nb sa : Nat} {h : Hp} {c0 : Nat} {s : Sg}
theorem c_CP_read (hS : CPs h c0 s) (hsz : c0 + 131 ≤ h.1) : EvQ (prog nb sa) m_CP_read [.ref c0] h (fun v h' => v = some (.int (q_read s).1) ∧ CPs h' c0 (q_read s).2 ∧ FC c0 h h') := by
  obtain ⟨P, Fn, kr, kt, g, hc, hkk, hT, hO, hF, hg, hP, hCF, hFn, hr, ht, hw, hl⟩ := id hS
  unfold q_read
  by_cases h6 : s.2.2.1.length = 6
  · rw [if_pos h6]
    refine EvQ_of k_CP_read 3 [some (.ref c0), none, none] rfl (Nat.le_of_ble_eq_true rfl) rfl ?_
    refine Ex_mv rfl rfl ?_; refine Ex_getf rfl (by assumption) rfl ?_; refine Ex_mv rfl rfl ?_; refine Ex_lt0 (by omega) ?_; refine Ex_mv rfl rfl ?_; refine Ex_getf rfl (by assumption) rfl ?_; refine Ex_mv rfl rfl ?_; refine Ex_getf rfl (by assumption) rfl ?_; refine Ex_alen rfl (by assumption) rfl ?_; refine Ex_mv rfl rfl ?_; refine Ex_iff (nI_nlt (by omega) (by omega)) ?_; refine Ex_mv rfl rfl ?_
    refine Ex_rt rfl rfl ?_
    exact ⟨rfl, hS, FC.rf⟩
  · rw [if_neg h6]
    have hi6 : s.2.2.1.length < 6 := by omega
    have hp6 := (hg _ hi6).2
    have hge : g (nI s.2.2.1.length).toNatClampNeg = some (c0 + 65 + 11 * P s.2.2.1.length) := by rw [nI_clamp (by omega)]; exact (hg _ hi6).1
    generalize hcc : c0 + 65 + 11 * P s.2.2.1.length = c at *
    have hb1 : c0 + 65 ≤ c := by omega
    have hb2 : c + 11 ≤ c0 + 131 := by omega
    have hCc : CFs h c (Fn s.2.2.1.length).1 (Fn s.2.2.1.length).2 := by have := hCF _ hi6; rw [hcc] at this; exact this
    obtain ⟨_, h1, e1, rfl, C1, F1⟩ := c_CF_begin (nb := nb) (sa := sa) hCc hT (by omega)
    obtain ⟨_, h2, e2, rfl, T2, F2⟩ := c_RW_clear (nb := nb) (sa := sa) (hT.fr F1 (by omega))
    have C2 : CFs h2 c s.1 x00 := CF.fr C1 F2 (by omega)
    have hc0c := hCc.1
    have hc1 := F1.at hc (by omega)
    have hc2 := F2.at hc1 (by omega)
    have hT1 : h1.2.2 (c0 + 1) = _ := (hT.fr F1 (by omega)).choose_spec.1
    have hsz2 : h2.1 = h.1 := F2.1.trans F1.1
    have hrd : h2.1 < c ∨ c + 11 ≤ h2.1 := by omega
    let z3 : Hp := hnew h2 5 (.inr (3, [.int 0, .int 0, .null, .null, .int 0]))
    have hz3 : z3.2.2 h2.1 = some (true, .inr (3, [.int 0, .int 0, .null, .null, .int 0])) := if_pos rfl
    have F3 : ∀ q, q ≠ h2.1 → z3.2.2 q = h2.2.2 q := fun q hq => if_neg hq
    have C3 : CFs z3 c s.1 x00 := CF.eq C2 (fun q g1 g2 => F3 q (by omega))
    obtain ⟨_, h4, e4, rfl, R4, F4⟩ := c_RD_init (nb := nb) (sa := sa) hrd (by rfl) hz3 C3 rfl
    obtain ⟨_, h5, e5, rfl, R5, F5⟩ := c_RD_scan (nb := nb) (sa := sa) hrd R4 (fun a x e => by simp only [Sum.inr.injEq, Prod.mk.injEq] at e; rw [← e.2]; exact ⟨rfl, rfl⟩)
    obtain ⟨_, h6', e6, rfl, R6, F6⟩ := c_RD_checkTells (nb := nb) (sa := sa) hrd R5
    obtain ⟨_, h7, e7, rfl, R7, F7⟩ := c_RD_checkSorts (nb := nb) (sa := sa) (k := 0) hrd (by decide) R6 (fun a x e => chk_tv (by decide) e)
    obtain ⟨_, h8, e8, rfl, R8, F8⟩ := c_RD_checkSorts (nb := nb) (sa := sa) (k := 1) hrd (by decide) R7 (fun a x e => chk_tv (by decide) (srt_ok e).1)
    have FF : FR c h2.1 z3 h8 := (((F4.tr F5).tr F6).tr F7).tr F8
    have hall : ∀ q, q < h.1 → (q < c ∨ c + 11 ≤ q) → (q < c0 + 1 ∨ c0 + 3 ≤ q) → h8.2.2 q = h.2.2 q := by
      intro q g1 g2 g3
      rw [FF.2.2 q g2 (by omega), F3 q (by omega), F2.2.2 q (by omega), F1.2.2 q g2]
    have hc8 : h8.2.2 c0 = _ := (hall c0 (by omega) (by omega) (by omega)).trans hc
    have hT8 : RW h8 (c0 + 1) [] := T2.eq (fun q g1 g2 => by rw [FF.2.2 q (by omega) (by omega), F3 q (by omega)])
    have hsz8 : h8.1 = h.1 + 1 ∧ h8.2.1 = h.2.1 + 5 := by
      rw [FF.1, FF.2.1]
      exact ⟨by show h2.1 + 1 = _; omega, by show h2.2.1 + 5 = _; rw [F2.2.1, F1.2.1]⟩
    have R8' : RSt h8 c h2.1 s.1 (p_read s.1) := R8
    obtain ⟨f4, w4, a4, x4, hR4, -⟩ := id R4
    obtain ⟨f5, w5, a5, x5, hR5, -⟩ := id R5
    obtain ⟨f6, w6, a6, x6, hR6, -⟩ := id R6
    obtain ⟨f7, w7, a7, x7, hR7, -⟩ := id R7
    obtain ⟨f8, w8, a8, x8, hR8, hC8, ha8, hf8, hm8⟩ := id R8'
    have hRd9 : ∀ z, (hset h8 c0 z).2.2 h2.1 = _ := fun z => hs_ne (by omega) hR8
    obtain ⟨Q1, pc1, L1, hr1, hr2⟩ := hr
    obtain ⟨Q2, pc2, L2, ht1⟩ := ht
    obtain ⟨fw, gw, hw1⟩ := hw
    have slot : ∀ i, i < 6 → i ≠ s.2.2.1.length → c0 + 65 + 11 * P i + 11 ≤ c ∨ c + 11 ≤ c0 + 65 + 11 * P i := by
      intro i hi hne
      have : P i ≠ P s.2.2.1.length := fun z => hne (hP i _ hi hi6 z)
      omega
    have fin : ∀ (h9 : Hp) (FL' : List Fl) (pl' : Int32) (Fn' : Nat → Fl), h9.1 = h8.1 → h9.2.1 = h8.2.1 → (∀ q, q ≠ c0 → h9.2.2 q = h8.2.2 q) → h9.2.2 c0 = some (true, .inr (6, [.ref (c0 + 1), .ref (c0 + 3), .ref (c0 + 5), .int (nI FL'.length), .int pl', .ref kr, .ref kt, .ref (c0 + 62)])) → FL'.length ≤ 6 → (∀ i, i ≠ s.2.2.1.length → Fn' i = Fn i) → (∀ i, i < FL'.length → FL'[i]? = some (Fn' i)) → CFs h8 c (Fn' s.2.2.1.length).1 (Fn' s.2.2.1.length).2 → CPs h9 c0 ([], s.2.1, FL', pl', s.2.2.2.2) ∧ FC c0 h h9 := by
      intro h9 FL' pl' Fn' g1 g2 g3 g4 g5 g6 g7 g8
      have hall9 : ∀ q, q < h.1 → (q < c ∨ c + 11 ≤ q) → (q < c0 ∨ c0 + 3 ≤ q) → h9.2.2 q = h.2.2 q := fun q z1 z2 z3 => (g3 q (by omega)).trans (hall q z1 z2 (by omega))
      refine ⟨⟨P, Fn', kr, kt, g, g4, hkk, hT8.eq (fun q z1 z2 => g3 q (by omega)), hO.eq (fun q z1 z2 => hall9 q (by omega) (by omega) (by omega)), (hall9 _ (by omega) (by omega) (by omega)).trans hF, hg, hP, fun i hi => ?_, g7, ⟨Q1, pc1, L1, hr1.eq (fun q z1 z2 => hall9 q (by omega) (by omega) (by omega)), hr2⟩, ⟨Q2, pc2, L2, ht1.eq (fun q z1 z2 => hall9 q (by omega) (by omega) (by omega))⟩, ⟨fw, gw, hw1.eq (fun q z1 z2 => hall9 q (by omega) (by omega) (by omega))⟩, g5⟩, by omega, by omega, by omega, by omega, fun q z1 z2 => hall9 q z1 (by omega) (by omega)⟩
      by_cases e : i = s.2.2.1.length
      · subst e; rw [hcc]; exact CF.eq g8 (fun q z1 z2 => g3 q (by omega))
      · rw [g6 i e]
        have := slot i hi e
        have := (hg i hi).2
        exact CF.eq (hCF i hi) (fun q z1 z2 => hall9 q (by omega) (by omega) (by omega))
    have hlen6 : s.2.2.1.length + 1 ≤ 6 := by omega
    refine EvQ_of k_CP_read 3 [some (.ref c0), none, none] rfl (Nat.le_of_ble_eq_true rfl) rfl ?_
    cases hpr : p_read s.1 with
    | inl e =>
      rw [hpr] at hm8
      obtain ⟨q1, q2, q3⟩ := hm8
      have hf0 : f8 ≠ 0 := by omega
      subst q1
      subst q2
      refine Ex_mv rfl rfl ?_; refine Ex_getf rfl (by assumption) rfl ?_; refine Ex_mv rfl rfl ?_; refine Ex_lt0 (by omega) ?_; refine Ex_mv rfl rfl ?_; refine Ex_getf rfl (by assumption) rfl ?_; refine Ex_mv rfl rfl ?_; refine Ex_getf rfl (by assumption) rfl ?_; refine Ex_alen rfl (by assumption) rfl ?_; refine Ex_mv rfl rfl ?_; refine Ex_ift (nI_lt (by omega) (by omega)) ?_; refine Ex_mv rfl rfl ?_; refine Ex_getf rfl (by assumption) rfl ?_; refine Ex_mv rfl rfl ?_; refine Ex_getf rfl (by assumption) rfl ?_; refine Ex_aald rfl (by assumption) rfl (vp_in_nI (by omega) (by decide)) hge ?_; refine Ex_mv rfl rfl ?_; refine Ex_mv rfl rfl ?_; refine Ex_mv rfl rfl ?_; refine Ex_getf rfl (by assumption) rfl ?_; refine Ex_invV rfl (by rfl) (by rfl) (by assumption) (by rfl) (e1) ?_; refine Ex_mv rfl rfl ?_; refine Ex_getf rfl (by assumption) rfl ?_; refine Ex_invV rfl (by rfl) (by rfl) (by assumption) (by rfl) (e2) ?_; refine Ex_new rfl ?_; refine Ex_mv rfl rfl ?_; refine Ex_mv rfl rfl ?_; refine Ex_invI rfl (by rfl) (by rfl) (by rfl) (e4) ?_; refine Ex_mv rfl rfl ?_; refine Ex_mv rfl rfl ?_; refine Ex_invV rfl (by rfl) (by rfl) (by assumption) (by rfl) (e5) ?_; refine Ex_mv rfl rfl ?_; refine Ex_invV rfl (by rfl) (by rfl) (by assumption) (by rfl) (e6) ?_; refine Ex_mv rfl rfl ?_; refine Ex_mv rfl rfl ?_; refine Ex_invV rfl (by rfl) (by rfl) (by assumption) (by rfl) (e7) ?_; refine Ex_mv rfl rfl ?_; refine Ex_mv rfl rfl ?_; refine Ex_invV rfl (by rfl) (by rfl) (by assumption) (by rfl) (e8) ?_; refine Ex_mv rfl rfl ?_; refine Ex_mv rfl rfl ?_; refine Ex_getf rfl (by assumption) rfl ?_; refine Ex_putf rfl (by assumption) rfl rfl ?_; refine Ex_mv rfl rfl ?_; refine Ex_getf rfl (hRd9 _) rfl ?_; refine Ex_mv rfl rfl ?_; refine Ex_iff (nI_nz hf0 (by omega)) ?_; refine Ex_mv rfl rfl ?_; refine Ex_mv rfl rfl ?_; refine Ex_getf rfl (hRd9 _) rfl ?_; (first | refine Ex_subN rfl (by omega) ?_ | refine Ex_mv rfl rfl ?_)
      refine Ex_rt rfl rfl ?_
      refine ⟨rfl, ?_⟩
      exact fin _ s.2.2.1 (nI e.2) (fun i => if i = s.2.2.1.length then (s.1, x8) else Fn i) rfl rfl (fun q hq => if_neg hq) hs_at hl (fun i hi => if_neg hi) (fun i hi => by rw [if_neg (by omega)]; exact hFn i hi) (by rw [if_pos rfl]; exact hC8)
    | inr e =>
      obtain ⟨ae, xe⟩ := e
      rw [hpr] at hm8
      obtain ⟨rfl, rfl, q3, q4, q5⟩ := hm8
      subst q4
      have hlast : ∀ i, i < (s.2.2.1 ++ [(s.1, x8)]).length → (s.2.2.1 ++ [(s.1, x8)])[i]? = some (if i = s.2.2.1.length then (s.1, x8) else Fn i) := by
        intro i hi
        by_cases e : i = s.2.2.1.length
        · subst e; rw [if_pos rfl]; simp
        · rw [if_neg e, List.getElem?_append_left (by simp at hi; omega)]
          exact hFn i (by simp at hi; omega)
      refine Ex_mv rfl rfl ?_; refine Ex_getf rfl (by assumption) rfl ?_; refine Ex_mv rfl rfl ?_; refine Ex_lt0 (by omega) ?_; refine Ex_mv rfl rfl ?_; refine Ex_getf rfl (by assumption) rfl ?_; refine Ex_mv rfl rfl ?_; refine Ex_getf rfl (by assumption) rfl ?_; refine Ex_alen rfl (by assumption) rfl ?_; refine Ex_mv rfl rfl ?_; refine Ex_ift (nI_lt (by omega) (by omega)) ?_; refine Ex_mv rfl rfl ?_; refine Ex_getf rfl (by assumption) rfl ?_; refine Ex_mv rfl rfl ?_; refine Ex_getf rfl (by assumption) rfl ?_; refine Ex_aald rfl (by assumption) rfl (vp_in_nI (by omega) (by decide)) hge ?_; refine Ex_mv rfl rfl ?_; refine Ex_mv rfl rfl ?_; refine Ex_mv rfl rfl ?_; refine Ex_getf rfl (by assumption) rfl ?_; refine Ex_invV rfl (by rfl) (by rfl) (by assumption) (by rfl) (e1) ?_; refine Ex_mv rfl rfl ?_; refine Ex_getf rfl (by assumption) rfl ?_; refine Ex_invV rfl (by rfl) (by rfl) (by assumption) (by rfl) (e2) ?_; refine Ex_new rfl ?_; refine Ex_mv rfl rfl ?_; refine Ex_mv rfl rfl ?_; refine Ex_invI rfl (by rfl) (by rfl) (by rfl) (e4) ?_; refine Ex_mv rfl rfl ?_; refine Ex_mv rfl rfl ?_; refine Ex_invV rfl (by rfl) (by rfl) (by assumption) (by rfl) (e5) ?_; refine Ex_mv rfl rfl ?_; refine Ex_invV rfl (by rfl) (by rfl) (by assumption) (by rfl) (e6) ?_; refine Ex_mv rfl rfl ?_; refine Ex_mv rfl rfl ?_; refine Ex_invV rfl (by rfl) (by rfl) (by assumption) (by rfl) (e7) ?_; refine Ex_mv rfl rfl ?_; refine Ex_mv rfl rfl ?_; refine Ex_invV rfl (by rfl) (by rfl) (by assumption) (by rfl) (e8) ?_; refine Ex_mv rfl rfl ?_; refine Ex_mv rfl rfl ?_; refine Ex_getf rfl (by assumption) rfl ?_; refine Ex_putf rfl (by assumption) rfl rfl ?_; refine Ex_mv rfl rfl ?_; refine Ex_getf rfl (hRd9 _) rfl ?_; refine Ex_mv rfl rfl ?_; refine Ex_ift (by decide) ?_; refine Ex_mv rfl rfl ?_; refine Ex_mv rfl rfl ?_; refine Ex_getf rfl hs_at rfl ?_; refine Ex_mv rfl rfl ?_; (first | refine Ex_addN rfl ?_ | refine Ex_mv rfl rfl ?_); refine Ex_putf rfl hs_at rfl rfl ?_; refine Ex_mv rfl rfl ?_; refine Ex_getf rfl hs_at rfl ?_; refine Ex_mv rfl rfl ?_; (first | refine Ex_subN rfl (by omega) ?_ | refine Ex_mv rfl rfl ?_)
      refine Ex_rt rfl rfl ?_
      refine ⟨by rw [Nat.add_sub_cancel], ?_⟩
      exact fin _ (s.2.2.1 ++ [(s.1, x8)]) (-1) (fun i => if i = s.2.2.1.length then (s.1, x8) else Fn i) rfl rfl (fun q hq => (if_neg hq).trans (if_neg hq)) (by rw [List.length_append]; exact hs_at) (by simp; omega) (fun i hi => if_neg hi) hlast (by rw [if_pos rfl]; exact hC8)
end READ
end
section
/-! drop -/
def q_drop (FL : List Fl) (f : Int32) : Int32 × List Fl := match fA FL f with
  | none => (-1, FL)
  | some _ => (nI (FL.length - 1), FL.eraseIdx f.toNatClampNeg)
def shf {α : Type} (g : Nat → α) (k i j : Nat) : α := if j < k then g j else if j < i then g (j + 1) else g j
section DROP
variable {nb sa : Nat} {c0 : Nat} {s : Sg}
theorem CP_drop_loop {k cg : Nat} {P : Nat → Nat} {cell : List Value} {g : Nat → Option Nat} (hcell : cell[2]? = some (.ref (c0 + 5))) (hg : ∀ i, i < 6 → g i = some (c0 + 65 + 11 * P i)) {R : Option Value → Hp → Prop} : ∀ (d i : Nat) (h : Hp) (ga : Nat → Option Nat), i + d = 5 → k ≤ i → h.2.2 c0 = some (true, .inr (6, cell)) → h.2.2 (c0 + 5) = some (true, .inl (5, 6, .inr (.inr (.inr (.inr ga))))) → (∀ j, j < 6 → ga j = shf g k i j) → (∀ j, j < 6 → ∃ fs, h.2.2 (c0 + 65 + 11 * P j) = some (true, .inr (0, fs))) → (∀ h' ga', FrI (c0 + 5) (c0 + 6) h h' → h'.2.2 (c0 + 5) = some (true, .inl (5, 6, .inr (.inr (.inr (.inr ga'))))) → (∀ j, j < 6 → ga' j = shf g k 5 j) → Ex (prog nb sa) k_CP_drop 49 [some (.ref c0), some (.int (nI k)), some (.ref cg), some (.int (nI 5))] [] h' R) → Ex (prog nb sa) k_CP_drop 14 [some (.ref c0), some (.int (nI k)), some (.ref cg), some (.int (nI i))] [] h R
  | 0, i, h, ga, hd, hk, hc, hF, hga, hcf, K => by
    have : i = 5 := by omega
    subst this
    refine Ex_mv rfl rfl ?_; refine Ex_mv rfl rfl ?_; refine Ex_lt0 (by omega) ?_; refine Ex_mv rfl rfl ?_; refine Ex_mv rfl rfl ?_; (first | refine Ex_addN rfl ?_ | refine Ex_mv rfl rfl ?_); refine Ex_mv rfl rfl ?_; refine Ex_getf rfl hc hcell ?_; refine Ex_alen rfl hF rfl ?_; refine Ex_mv rfl rfl ?_; refine Ex_ift (nI_le (by omega) (by omega)) ?_
    exact K h ga FrI.rf hF hga
  | d + 1, i, h, ga, hd, hk, hc, hF, hga, hcf, K => by
    have e1 : ga (nI (i + 1)).toNatClampNeg = some (c0 + 65 + 11 * P (i + 1)) := by
      rw [nI_clamp (by omega), hga _ (by omega)]
      unfold shf
      rw [if_neg (by omega), if_neg (by omega), hg _ (by omega)]
    obtain ⟨fs, hfs⟩ := hcf (i + 1) (by omega)
    have F1 : ∀ z, FrI (c0 + 5) (c0 + 6) h (hset h (c0 + 5) z) := fun z => FrI.rf.set (by omega) (by omega)
    have ih := CP_drop_loop hcell hg (R := R) (k := k) (cg := cg) d (i + 1) (hset h (c0 + 5) (.inl (5, 6, .inr (.inr (.inr (.inr (va_up ga (nI i).toNatClampNeg (some (c0 + 65 + 11 * P (i + 1)))))))))) _ (by omega) (by omega) (hs_ne (by omega) hc) hs_at (fun j hj => by
      rw [nI_clamp (by omega)]
      by_cases e : j = i
      · subst e
        unfold shf
        rw [if_neg (by omega), if_pos (by omega), hg _ (by omega)]
        simp [va_up]
      · have : va_up ga i (some (c0 + 65 + 11 * P (i + 1))) j = ga j := by simp [va_up, e]
        rw [this, hga j hj]
        unfold shf
        by_cases e2 : j < k
        · rw [if_pos e2, if_pos e2]
        · rw [if_neg e2, if_neg e2]
          by_cases e3 : j < i
          · rw [if_pos e3, if_pos (by omega)]
          · rw [if_neg e3, if_neg (by omega)]) (fun j hj => by obtain ⟨fs, q⟩ := hcf j hj; exact ⟨fs, hs_ne (by omega) q⟩) (fun h' ga' F' q1 q2 => K h' ga' ((F1 _).tr F') q1 q2)
    refine Ex_mv rfl rfl ?_; refine Ex_mv rfl rfl ?_; refine Ex_lt0 (by omega) ?_; refine Ex_mv rfl rfl ?_; refine Ex_mv rfl rfl ?_; (first | refine Ex_addN rfl ?_ | refine Ex_mv rfl rfl ?_); refine Ex_mv rfl rfl ?_; refine Ex_getf rfl hc hcell ?_; refine Ex_alen rfl hF rfl ?_; refine Ex_mv rfl rfl ?_; refine Ex_iff (nI_ge (by omega) (by omega)) ?_
    refine Ex_mv rfl rfl ?_; refine Ex_getf rfl hc hcell ?_; refine Ex_mv rfl rfl ?_; refine Ex_mv rfl rfl ?_; refine Ex_getf rfl hc hcell ?_; refine Ex_mv rfl rfl ?_; refine Ex_mv rfl rfl ?_; (first | refine Ex_addN rfl ?_ | refine Ex_mv rfl rfl ?_)
    refine Ex_aald rfl hF rfl (vp_in_nI (by omega) (by omega)) e1 ?_
    refine Ex_aast rfl hF hfs rfl (vp_in_nI (by omega) (by omega)) ?_
    refine Ex_incN rfl rfl ?_; refine Ex_mv rfl rfl ?_
    exact ih
theorem getElem?_eraseIdx' {FL : List Fl} {k i : Nat} : (FL.eraseIdx k)[i]? = if i < k then FL[i]? else FL[i + 1]? := by
  rw [List.getElem?_eraseIdx]
theorem c_CP_drop {h : Hp} (hS : CPs h c0 s) (f : Int32) : EvQ (prog nb sa) m_CP_drop [.ref c0, .int f] h (fun v h' => v = some (.int (q_drop s.2.2.1 f).1) ∧ CPs h' c0 (s.1, s.2.1, (q_drop s.2.2.1 f).2, s.2.2.2) ∧ FC c0 h h') := by
  obtain ⟨P, Fn, kr, kt, g, hc, hkk, hT, hO, hF, hg, hP, hCF, hFn, ⟨Q1, pc1, L1, hr1, hr2⟩, ⟨Q2, pc2, L2, ht1⟩, ⟨fw, gw, hw1⟩, hl⟩ := id hS
  unfold q_drop
  rcases c_CP_fileAt (nb := nb) (sa := sa) hS f with ⟨e0, e1⟩ | ⟨z, c, e0, e1, -⟩
  · rw [e0]
    refine EvQ_of k_CP_drop 4 [some (.ref c0), some (.int f), none, none] rfl (Nat.le_of_ble_eq_true rfl) rfl ?_
    refine Ex_mv rfl rfl ?_; refine Ex_mv rfl rfl ?_; refine Ex_invV rfl (by rfl) (by rfl) (by assumption) (by rfl) (e1) ?_; refine Ex_mv rfl rfl ?_; refine Ex_mv rfl rfl ?_; refine Ex_mv rfl rfl ?_; refine Ex_mv rfl rfl ?_
    refine Ex_rt rfl rfl ?_
    exact ⟨rfl, hS, FC.rf⟩
  · rw [e0]
    have hk : ∃ k, k < s.2.2.1.length ∧ f = nI k := by
      rcases i32_cases f with hn | ⟨k, hk, rfl⟩
      · rw [fA, if_pos hn] at e0; cases e0
      · rw [fA_nI hk] at e0
        refine ⟨k, ?_, rfl⟩
        rcases Nat.lt_or_ge k s.2.2.1.length with q | q
        · exact q
        · rw [List.getElem?_eq_none q] at e0; cases e0
    obtain ⟨k, hkl, rfl⟩ := hk
    have hk6 : k < 6 := by omega
    have e2 : Ev (prog nb sa) m_CP_fileAt [.ref c0, .int (nI k)] h (some (.ref (c0 + 65 + 11 * P k))) h := by
      have e : g (nI k).toNatClampNeg = some (c0 + 65 + 11 * P k) := by rw [nI_clamp (by omega)]; exact (hg k (by omega)).1
      refine Ev_ofL k_CP_fileAt 2 [some (.ref c0), some (.int (nI k))] rfl (Nat.le_of_ble_eq_true rfl) rfl ?_
      refine Ex_mv rfl rfl ?_; refine Ex_mv rfl rfl ?_; refine Ex_lt0 (by omega) ?_; refine Ex_mv rfl rfl ?_; refine Ex_mv rfl rfl ?_; refine Ex_getf rfl (by assumption) rfl ?_; refine Ex_mv rfl rfl ?_; refine Ex_iff (nI_ge (by omega) (by omega)) ?_; refine Ex_mv rfl rfl ?_; refine Ex_mv rfl rfl ?_; refine Ex_getf rfl (by assumption) rfl ?_; refine Ex_alen rfl (by assumption) rfl ?_; refine Ex_mv rfl rfl ?_; refine Ex_iff (nI_ge (by omega) (by omega)) ?_; refine Ex_mv rfl rfl ?_; refine Ex_getf rfl (by assumption) rfl ?_; refine Ex_mv rfl rfl ?_; refine Ex_aald rfl (by assumption) rfl (vp_in_nI (by omega) (by decide)) e ?_; refine Ex_mv rfl rfl ?_
      exact Ex_rt rfl rfl ⟨rfl, rfl⟩
    rw [nI_clamp (by omega)]
    have hcf : ∀ j, j < 6 → ∃ fs, h.2.2 (c0 + 65 + 11 * P j) = some (true, .inr (0, fs)) := fun j hj => ⟨_, (hCF j hj).1⟩
    have hin : ∀ j, j < 6 → P j < 6 := fun j hj => (hg j hj).2
    have hlen : (s.2.2.1.eraseIdx k).length = s.2.2.1.length - 1 := by rw [List.length_eraseIdx, if_pos hkl]
    refine EvQ_of k_CP_drop 4 [some (.ref c0), some (.int (nI k)), none, none] rfl (Nat.le_of_ble_eq_true rfl) rfl ?_
    refine Ex_mv rfl rfl ?_; refine Ex_mv rfl rfl ?_; refine Ex_invV rfl (by rfl) (by rfl) hc (by rfl) e2 ?_; refine Ex_mv rfl rfl ?_; refine Ex_mv rfl rfl ?_; refine Ex_mv rfl rfl ?_; refine Ex_mv rfl rfl ?_; refine Ex_mv rfl rfl ?_
    refine CP_drop_loop (P := P) (g := g) (k := k) rfl (fun i hi => (hg i hi).1) (5 - k) k h g (by omega) (Nat.le_refl _) hc hF (fun j hj => by unfold shf; split <;> (try split) <;> first | rfl | omega) hcf ?_
    intro h1 ga F1 hF1 hga
    have hc1 := F1.at hc (by omega)
    have hlast : h1.2.2 (c0 + 65 + 11 * P k) = _ := F1.at (hCF k hk6).1 (by omega)
    have c2 : ∀ y, (hset h1 (c0 + 5) y).2.2 c0 = _ := fun y => hs_ne (by omega) hc1
    refine Ex_mv rfl rfl ?_; refine Ex_getf rfl (by assumption) rfl ?_; refine Ex_mv rfl rfl ?_; refine Ex_getf rfl (by assumption) rfl ?_; refine Ex_alen rfl (by assumption) rfl ?_; refine Ex_mv rfl rfl ?_; (first | refine Ex_subN rfl (by omega) ?_ | refine Ex_mv rfl rfl ?_); refine Ex_mv rfl rfl ?_; refine Ex_aast rfl hF1 hlast rfl (vp_in_nI (by omega) (by decide)) ?_; refine Ex_mv rfl rfl ?_; refine Ex_mv rfl rfl ?_; refine Ex_getf rfl (c2 _) rfl ?_; refine Ex_mv rfl rfl ?_; (first | refine Ex_subN rfl (by omega) ?_ | refine Ex_mv rfl rfl ?_); refine Ex_putf rfl (c2 _) rfl rfl ?_; refine Ex_mv rfl rfl ?_; refine Ex_getf rfl hs_at rfl ?_
    refine Ex_rt rfl rfl ?_
    have FF : ∀ y w, FrI c0 (c0 + 6) h (hset (hset h1 (c0 + 5) y) c0 w) := fun y w => (((F1.wd (by omega) (by omega)).set (by omega) (by omega)).set (by omega) (by omega))
    refine ⟨rfl, ?_, FC.of (FF _ _) (by omega) (by omega)⟩
    have h56 : ∀ y w q, (q ≠ c0 ∧ q ≠ c0 + 5) → (hset (hset h1 (c0 + 5) y) c0 w).2.2 q = h.2.2 q := fun y w q hq => (if_neg hq.1).trans ((if_neg hq.2).trans (F1.2.2 q (by omega)))
    refine ⟨fun j => if j = 5 then P k else shf P k 5 j, fun j => if j = 5 then Fn k else shf Fn k 5 j, kr, kt, _, ?_, hkk, hT.eq (fun q z1 z2 => h56 _ _ q (by omega)), hO.eq (fun q z1 z2 => h56 _ _ q (by omega)), hs_ne (by omega) hs_at, ?_, ?_, ?_, ?_, ⟨Q1, pc1, L1, hr1.eq (fun q z1 z2 => h56 _ _ q (by omega)), hr2⟩, ⟨Q2, pc2, L2, ht1.eq (fun q z1 z2 => h56 _ _ q (by omega))⟩, ⟨fw, gw, hw1.eq (fun q z1 z2 => h56 _ _ q (by omega))⟩, by simp only [hlen]; omega⟩
    · simp only [hlen]; exact hs_at
    · intro i hi
      rw [show (nI (6 - 1)).toNatClampNeg = 5 from by decide]
      by_cases e : i = 5
      · subst e
        simp only [if_true]
        exact ⟨by simp [va_up], hin k hk6⟩
      · simp only [e, if_false]
        have : va_up ga 5 (some (c0 + 65 + 11 * P k)) i = ga i := by simp [va_up, e]
        rw [this, hga i hi]
        unfold shf
        by_cases e2 : i < k
        · rw [if_pos e2, if_pos e2]; exact hg i hi
        · rw [if_neg e2, if_neg e2, if_pos (by omega), if_pos (by omega)]; exact hg (i + 1) (by omega)
    · intro i j hi hj hij
      have key : ∀ i, i < 6 → ∃ i', i' < 6 ∧ (if i = 5 then P k else shf P k 5 i) = P i' ∧ i' = (if i = 5 then k else if i < k then i else i + 1) := by
        intro i hi
        by_cases e : i = 5
        · exact ⟨k, hk6, by rw [if_pos e], by rw [if_pos e]⟩
        · unfold shf
          by_cases e2 : i < k
          · exact ⟨i, hi, by rw [if_neg e, if_pos e2], by rw [if_neg e, if_pos e2]⟩
          · exact ⟨i + 1, by omega, by rw [if_neg e, if_neg e2, if_pos (by omega)], by rw [if_neg e, if_neg e2]⟩
      obtain ⟨i', i1, i2, i3⟩ := key i hi
      obtain ⟨j', j1, j2, j3⟩ := key j hj
      simp only [i2, j2] at hij
      have := hP i' j' i1 j1 hij
      split at i3 <;> split at j3 <;> (try split at i3) <;> (try split at j3) <;> omega
    · intro i hi
      have key : ∃ i', i' < 6 ∧ (if i = 5 then P k else shf P k 5 i) = P i' ∧ (if i = 5 then Fn k else shf Fn k 5 i) = Fn i' := by
        by_cases e : i = 5
        · exact ⟨k, hk6, by rw [if_pos e], by rw [if_pos e]⟩
        · unfold shf
          by_cases e2 : i < k
          · exact ⟨i, hi, by rw [if_neg e, if_pos e2], by rw [if_neg e, if_pos e2]⟩
          · exact ⟨i + 1, by omega, by rw [if_neg e, if_neg e2, if_pos (by omega)], by rw [if_neg e, if_neg e2, if_pos (by omega)]⟩
      obtain ⟨i', i1, i2, i3⟩ := key
      simp only [i2, i3]
      exact CF.eq (hCF i' i1) (fun q z1 z2 => h56 _ _ q (by omega))
    · intro i hi
      simp only [hlen] at hi
      rw [getElem?_eraseIdx']
      show _ = some (if i = 5 then Fn k else shf Fn k 5 i)
      rw [if_neg (by omega : ¬ i = 5)]
      unfold shf
      by_cases e2 : i < k
      · rw [if_pos e2, if_pos e2]; exact hFn i (by omega)
      · rw [if_neg e2, if_neg e2, if_pos (by omega)]; exact hFn (i + 1) (by omega)
end DROP
end
section
/-! what a file tells -/
def q_file (z : Fl) (w : Int32) : Int32 :=
  if w = 0 then nI z.1.length else if w = 1 then nI (65536 * b2 z.1 6 + b2 z.1 4) else if w = 2 then nI z.2.2.1 else if w = 3 then nI (b2 z.1 z.2.2.2.1) else if w = 4 then nI (b2 z.1 (z.2.2.2.1 + 6)) else if w = 5 then nI z.2.2.2.2.2.1.length else if w = 6 then nI z.2.2.2.2.2.2.1.length else if w = 7 then nI (b2 z.1 z.2.2.2.2.1) else -2
def q_entry (z : Fl) (i w : Int32) : Int32 := if i < 0 ∨ z.2.2.1 ≤ i.toNatClampNeg then -1 else if w = 0 then nI (tg z.1 z.2.1 z.2.2.1 i.toNatClampNeg) else if w = 1 then nI (fst1 z.1 z.2.1 z.2.2.1 i.toNatClampNeg) else if w = 2 then nI (snd1 z.1 z.2.1 z.2.2.1 i.toNatClampNeg) else if w = 3 then nI (tz z.1 z.2.1 z.2.2.1 i.toNatClampNeg) else -2
/-- an int that tells what is thrown, or a long -/
def q_num (o : Option Fl) (i : Int32) : Nat × Int64 := match o with
  | none => (1, 0)
  | some z => if i < 0 ∨ z.2.2.1 ≤ i.toNatClampNeg then (2, 0) else if tg z.1 z.2.1 z.2.2.1 i.toNatClampNeg = 0 then (3, 0) else if 3 ≤ tg z.1 z.2.1 z.2.2.1 i.toNatClampNeg ∧ tg z.1 z.2.1 z.2.2.1 i.toNatClampNeg ≤ 6 then (0, bts z.1 z.2.1 z.2.2.1 i.toNatClampNeg) else (4, 0)
def vnum (r : Nat × Int64) : Value := if r.1 = 0 then .long r.2 else .int (nI r.1)
def txF (z : Fl) (p : Nat) : List Nat := tx z.1 z.2.1 z.2.2.1 p
def shw (T : List Nat) : Int32 × List Nat := (nI T.length, T)
def q_text (z : Fl) (i w : Int32) (O : List Nat) : Int32 × List Nat :=
  if w < 0 ∨ nI 2 < w then (-2, O) else
  if i < 0 then (-30 - nI 8, O) else
  if wrg z.1 z.2.1 z.2.2.1 i.toNatClampNeg (if w = 0 then 1 else if w = 1 then 7 else 8) ≠ 0 then (-30 - nI (wrg z.1 z.2.1 z.2.2.1 i.toNatClampNeg (if w = 0 then 1 else if w = 1 then 7 else 8)), O) else shw (txF z (tof z.1 z.2.1 z.2.2.1 i.toNatClampNeg 0))
def q_clsP (z : Fl) (k : Int32) : Nat := if k < 0 then 0 else cP z.1 z.2.2.2.1 k.toNatClampNeg
def q_memA (z : Fl) (kd : Nat) (k : Int32) : Option Nat := if k < 0 then none else mO (mK z.2.2.2.2.2.1 z.2.2.2.2.2.2.1 kd) k.toNatClampNeg
def q_member (z : Fl) (kd k w : Int32) (O : List Nat) : Int32 × List Nat :=
  if kd = 2 then (if q_clsP z k = 0 then (-1, O) else if w = 0 then shw (txF z (tof z.1 z.2.1 z.2.2.1 (q_clsP z k) 0)) else (-2, O))
  else if kd = 0 ∨ kd = 1 then (match q_memA z kd.toNatClampNeg k with
    | none => (-1, O)
    | some m => if w = 0 then shw (txF z (b2 z.1 (m + 2))) else if w = 1 then shw (txF z (b2 z.1 (m + 4))) else (-2, O)) else (-2, O)
def q_told (z : Fl) (kd k w : Int32) : Int32 :=
  if kd = 0 ∨ kd = 1 then (match q_memA z kd.toNatClampNeg k with
    | none => -1
    | some m => if w = 0 then nI (b2 z.1 m) else if w = 1 then nI (b2 z.1 (m + 6)) else if w = 2 then (if kd = 0 then nI (wdT (b1 (txF z (b2 z.1 (m + 4))) 0)) else nI (sumM (txF z (b2 z.1 (m + 4)))).1) else if w = 3 then (if kd = 0 then 0 else nI (sumM (txF z (b2 z.1 (m + 4)))).2) else -2) else -2
def q_attA (z : Fl) (kd : Nat) (k a : Int32) : Option Nat := if k < 0 ∨ a < 0 then none else aT z.1 (aO z.2.2.2.2.1 z.2.2.2.2.2.1 z.2.2.2.2.2.2.1 kd k.toNatClampNeg) a.toNatClampNeg
def q_attr (z : Fl) (kd k a w : Int32) (O : List Nat) : Int32 × List Nat :=
  if kd = 0 ∨ kd = 1 ∨ kd = 2 then (match q_attA z kd.toNatClampNeg k a with
    | none => (-1, O)
    | some p => if w = 0 then shw (txF z (b2 z.1 p)) else if w = 1 then shw (sl z.1 (p + 6) (b4 z.1 (p + 2))) else (-2, O)) else (-2, O)
section TELL0
variable {B : List Nat} {x : Fs}
theorem AttG_at : ∀ d p i, AttG B d p → i < d → atP B i p + 6 + b4 B (atP B i p + 2) ≤ B.length ∧ b4 B (atP B i p + 2) < 2 ^ 31 ∧ (atP B i p, 1) ∈ attT B d p
  | 0, p, i, _, hi => by omega
  | d + 1, p, 0, h, hi => ⟨h.1, h.2.1, List.mem_cons_self⟩
  | d + 1, p, i + 1, h, hi => by
    obtain ⟨h1, h2, h3⟩ := AttG_at d _ i h.2.2 (by omega)
    exact ⟨h1, h2, List.mem_cons_of_mem _ h3⟩
theorem MemG_at {m : Nat} : ∀ d p, MemG B d p → m ∈ memL B d p → m + 8 ≤ B.length ∧ b2 B (m + 6) ≤ 6 ∧ AttG B (b2 B (m + 6)) (m + 8) ∧ ∀ y ∈ attT B (b2 B (m + 6)) (m + 8), y ∈ memT B d p
  | 0, p, _, hm => by cases hm
  | d + 1, p, h, hm => by
    obtain ⟨h1, h2, h3, h4⟩ := h
    rcases List.mem_cons.mp hm with z | z
    · subst z; exact ⟨h1, h2, h3, fun y hy => by unfold memT; simp [hy]⟩
    · obtain ⟨q1, q2, q3, q4⟩ := MemG_at d _ h4 z
      exact ⟨q1, q2, q3, fun y hy => by unfold memT; simp [q4 y hy]⟩
theorem GF.att (h : GF B x) {k j q : Nat} (e : aO x.2.2.2.1 x.2.2.2.2.1 x.2.2.2.2.2.1 k j = some q) : q + 2 ≤ B.length ∧ b2 B q ≤ 6 ∧ AttG B (b2 B q) (q + 2) ∧ ∀ y ∈ attT B (b2 B q) (q + 2), y ∈ x.2.2.2.2.2.2 := by
  obtain ⟨h1, h2, h3, h4, h5, h6, h7, h8, h9, h10, h11, h12, h13, h14, h15, h16, h17, h18, h19⟩ := h
  unfold aO at e
  split at e
  · split at e
    · simp only [Option.some.injEq] at e
      rw [← e, h16]
      exact ⟨h12, h13, h14, fun y hy => by rw [h19]; unfold bT; simp [hy]⟩
    · cases e
  · unfold mO at e
    split at e
    · next hlt =>
      simp only [Option.map_some, Option.some.injEq] at e
      have hmem : (mK x.2.2.2.2.1 x.2.2.2.2.2.1 k).getD j 0 ∈ mK x.2.2.2.2.1 x.2.2.2.2.2.1 k := by
        rw [List.getD_eq_getElem?_getD, List.getElem?_eq_getElem hlt]; exact List.getElem_mem hlt
      rw [← e]
      generalize (mK x.2.2.2.2.1 x.2.2.2.2.2.1 k).getD j 0 = m at *
      unfold mK at hmem
      split at hmem
      · rw [h17] at hmem
        obtain ⟨q1, q2, q3, q4⟩ := MemG_at _ _ h8 hmem
        exact ⟨by omega, q2, q3, fun y hy => by rw [h19]; unfold bT; simp [q4 y hy]⟩
      · rw [h18] at hmem
        obtain ⟨q1, q2, q3, q4⟩ := MemG_at _ _ h11 hmem
        exact ⟨by omega, q2, q3, fun y hy => by rw [h19]; unfold bT; simp [q4 y hy]⟩
    · cases e
theorem GG.attN (h : GG B x) {k j q a : Nat} (e : aO x.2.2.2.1 x.2.2.2.2.1 x.2.2.2.2.2.1 k j = some q) (ha : a < b2 B q) : tg B x.1 x.2.1 (b2 B (atP B a (q + 2))) = 1 ∧ atP B a (q + 2) + 6 + b4 B (atP B a (q + 2) + 2) ≤ B.length ∧ b4 B (atP B a (q + 2) + 2) < 2 ^ 31 := by
  obtain ⟨h1, h2, h3, h4⟩ := h.1.att e
  obtain ⟨g1, g2, g3⟩ := AttG_at _ _ a h3 ha
  exact ⟨(wrg0 (h.2.1 _ (h4 _ g3))).2.1, g1, g2⟩
theorem GG.attV (h : GG B x) (hl : B.length ≤ 400) {k j : Nat} : ∀ q, aO x.2.2.2.1 x.2.2.2.2.1 x.2.2.2.2.2.1 k j = some q → q + 2 ≤ 400 ∧ ∀ i, i < b2 B q → atP B i (q + 2) + 6 + b4 B (atP B i (q + 2) + 2) ≤ 400 := by
  intro q e
  obtain ⟨h1, h2, h3, h4⟩ := h.1.att e
  exact ⟨by omega, fun i hi => by have := (AttG_at _ _ i h3 hi).1; omega⟩
theorem GF.cls (h : GF B x) {k : Nat} (hk : k < b2 B (x.2.2.1 + 6) + 2) : (k = 1 ∧ b2 B (x.2.2.1 + 4) = 0) ∨ (x.2.2.1 + (if k < 2 then 2 + 2 * k else 4 + 2 * k), 7) ∈ x.2.2.2.2.2.2 := by
  obtain ⟨h1, h2, h3, h4, h5, h6, h7, h8, h9, h10, h11, h12, h13, h14, h15, h16, h17, h18, h19⟩ := h
  rw [h19]
  have hf : ∀ d p j, j < d → (p + 2 * j, 7) ∈ facT d p := by
    intro d
    induction d with
    | zero => intro p j hj; omega
    | succ d ih =>
      intro p j hj
      cases j with
      | zero => exact List.mem_cons_self
      | succ j => exact List.mem_cons_of_mem _ (by have := ih (p + 2) j (by omega); rw [show p + 2 * (j + 1) = p + 2 + 2 * j by omega]; exact this)
  by_cases k0 : k = 0
  · subst k0; right; unfold bT; simp
  · by_cases k1 : k = 1
    · subst k1
      by_cases hz : b2 B (x.2.2.1 + 4) = 0
      · exact Or.inl ⟨rfl, hz⟩
      · right; unfold bT; simp [hz]
    · right
      have := hf (b2 B (x.2.2.1 + 6)) (x.2.2.1 + 8) (k - 2) (by omega)
      rw [if_neg (by omega), show x.2.2.1 + (4 + 2 * k) = x.2.2.1 + 8 + 2 * (k - 2) by omega]
      unfold bT; simp [this]
end TELL0
section TELL
variable {nb sa : Nat} {h : Hp} {c0 : Nat} {s : Sg}
theorem c_CP_showText (hS : CPs h c0 s) {c : Nat} {z : Fl} (hC : CFs h c z.1 z.2) (h1 : c0 + 65 ≤ c) (hV : TV z.1 z.2.1 z.2.2.1) {p : Nat} (hp : p < 2 ^ 31) (ht : tg z.1 z.2.1 z.2.2.1 p = 1) : EvQ (prog nb sa) m_CP_showText [.ref c0, .ref c, .int (nI p)] h (fun v h' => v = some (.int (shw (txF z p)).1) ∧ CPs h' c0 (s.1, (shw (txF z p)).2, s.2.2) ∧ FC c0 h h') := by
  obtain ⟨kr, kt, hc⟩ := hS.cell
  obtain ⟨hT, hO⟩ := hS.rows
  have hcc := hC.1
  have hpo := (CF.po hC).1
  obtain ⟨f2, hr2, -⟩ := id hO
  have hb := hV p ht
  obtain ⟨_, h1', e1, rfl, R1, F1⟩ := c_RW_take (nb := nb) (sa := sa) hO (CF.row hC) (by omega) hb
  have hlen : (txF z p).length = tz z.1 z.2.1 z.2.2.1 p := sl_len hb
  refine EvQ_of k_CP_showText 3 [some (.ref c0), some (.ref c), some (.int (nI p))] rfl (Nat.le_of_ble_eq_true rfl) rfl ?_
  refine Ex_mv rfl rfl ?_; refine Ex_getf rfl (by assumption) rfl ?_; refine Ex_mv rfl rfl ?_; refine Ex_getf rfl (by assumption) rfl ?_; refine Ex_mv rfl rfl ?_; refine Ex_getf rfl (by assumption) rfl ?_; refine Ex_mv rfl rfl ?_; refine Ex_invV rfl (by rfl) (by rfl) (by assumption) (by rfl) (c_PL_textAt (CF.po hC) hp) ?_; refine Ex_mv rfl rfl ?_; refine Ex_getf rfl (by assumption) rfl ?_; refine Ex_mv rfl rfl ?_; refine Ex_invV rfl (by rfl) (by rfl) (by assumption) (by rfl) (c_PL_textSize (CF.po hC) hp) ?_; refine Ex_invV rfl (by rfl) (by rfl) (by assumption) (by rfl) (e1) ?_
  refine Ex_rt rfl rfl ?_
  exact ⟨by rw [shw, hlen], hS.shown R1 F1, FC.of F1 (by omega) (by omega)⟩
theorem c_CP_file (hS : CPs h c0 s) (f w : Int32) : Ev (prog nb sa) m_CP_file [.ref c0, .int f, .int w] h (some (.int (match fA s.2.2.1 f with | none => -1 | some z => q_file z w))) h := by
  obtain ⟨kr, kt, hc⟩ := hS.cell
  rcases c_CP_fileAt (nb := nb) (sa := sa) hS f with ⟨e0, e1⟩ | ⟨z, c, e0, e1, hC, h1, h2, hz⟩
  · rw [e0]
    refine Ev_ofL k_CP_file 4 [some (.ref c0), some (.int f), some (.int w), none] rfl (Nat.le_of_ble_eq_true rfl) rfl ?_
    refine Ex_mv rfl rfl ?_; refine Ex_mv rfl rfl ?_; refine Ex_invV rfl (by rfl) (by rfl) (by assumption) (by rfl) (e1) ?_; refine Ex_mv rfl rfl ?_; refine Ex_mv rfl rfl ?_; refine Ex_mv rfl rfl ?_; refine Ex_mv rfl rfl ?_
    exact Ex_rt rfl rfl ⟨rfl, rfl⟩
  · rw [e0]
    have hcc := hC.1
    have hpo := (CF.po hC).1
    have hrow : RW h (c + 2) z.1 := CF.row hC
    obtain ⟨f2, hr2, -⟩ := id hrow
    have hbh : z.2.2.2.1 ≤ 400 := hC.2.2.2.2.2.2.2.2.2.2.2.1
    have haa : z.2.2.2.2.1 ≤ 400 := hC.2.2.2.2.2.2.2.2.2.2.2.2.1
    have b6 := b2_lt hrow.lt 6
    refine Ev_ofL k_CP_file 4 [some (.ref c0), some (.int f), some (.int w), none] rfl (Nat.le_of_ble_eq_true rfl) rfl ?_
    refine Ex_mv rfl rfl ?_; refine Ex_mv rfl rfl ?_; refine Ex_invV rfl (by rfl) (by rfl) (by assumption) (by rfl) (e1) ?_; refine Ex_mv rfl rfl ?_; refine Ex_mv rfl rfl ?_; refine Ex_mv rfl rfl ?_; refine Ex_mv rfl rfl ?_; refine Ex_mv rfl rfl ?_
    (first | refine Ex_swN (k := 0) rfl (by omega) (by omega) (fun b13 => ?_) (fun b13_0 => ?_) | refine Ex_sw (fun b13 => ?_) (fun b13_0 => ?_))
    · refine Ex_mv rfl rfl ?_; refine Ex_getf rfl (by assumption) rfl ?_; refine Ex_invV rfl (by rfl) (by rfl) (by assumption) (by rfl) (c_RW_size hrow) ?_
      refine Ex_rt rfl rfl ⟨?_, rfl⟩
      rw [b13]; rfl
    (first | refine Ex_swN (k := 1) rfl (by omega) (by omega) (fun b13 => ?_) (fun b13_1 => ?_) | refine Ex_sw (fun b13 => ?_) (fun b13_1 => ?_))
    · refine Ex_mv rfl rfl ?_; refine Ex_getf rfl (by assumption) rfl ?_; refine Ex_mv rfl rfl ?_; refine Ex_invV rfl (by rfl) (by rfl) (by assumption) (by rfl) (c_RW_two hrow (by decide)) ?_; refine Ex_mv rfl rfl ?_; refine Ex_ishl rfl ?_
      rw [shl16 b6]
      refine Ex_mv rfl rfl ?_; refine Ex_getf rfl (by assumption) rfl ?_; refine Ex_mv rfl rfl ?_; refine Ex_invV rfl (by rfl) (by rfl) (by assumption) (by rfl) (c_RW_two hrow (by decide)) ?_; (first | refine Ex_addN rfl ?_ | refine Ex_mv rfl rfl ?_)
      refine Ex_rt rfl rfl ⟨?_, rfl⟩
      rw [b13, Nat.mul_comm (b2 z.1 6)]; rfl
    (first | refine Ex_swN (k := 2) rfl (by omega) (by omega) (fun b13 => ?_) (fun b13_2 => ?_) | refine Ex_sw (fun b13 => ?_) (fun b13_2 => ?_))
    · refine Ex_mv rfl rfl ?_; refine Ex_getf rfl (by assumption) rfl ?_; refine Ex_invV rfl (by rfl) (by rfl) (by assumption) (by rfl) (c_PL_places (CF.po hC)) ?_
      refine Ex_rt rfl rfl ⟨?_, rfl⟩
      rw [b13]; rfl
    (first | refine Ex_swN (k := 3) rfl (by omega) (by omega) (fun b13 => ?_) (fun b13_3 => ?_) | refine Ex_sw (fun b13 => ?_) (fun b13_3 => ?_))
    · refine Ex_mv rfl rfl ?_; refine Ex_getf rfl (by assumption) rfl ?_; refine Ex_mv rfl rfl ?_; refine Ex_getf rfl (by assumption) rfl ?_; refine Ex_invV rfl (by rfl) (by rfl) (by assumption) (by rfl) (c_RW_two hrow (by omega)) ?_
      refine Ex_rt rfl rfl ⟨?_, rfl⟩
      rw [b13]; rfl
    (first | refine Ex_swN (k := 4) rfl (by omega) (by omega) (fun b13 => ?_) (fun b13_4 => ?_) | refine Ex_sw (fun b13 => ?_) (fun b13_4 => ?_))
    · refine Ex_mv rfl rfl ?_; refine Ex_invV rfl (by rfl) (by rfl) (by assumption) (by rfl) (c_CF_faces hC) ?_
      refine Ex_rt rfl rfl ⟨?_, rfl⟩
      rw [b13]; rfl
    (first | refine Ex_swN (k := 5) rfl (by omega) (by omega) (fun b13 => ?_) (fun b13_5 => ?_) | refine Ex_sw (fun b13 => ?_) (fun b13_5 => ?_))
    · refine Ex_mv rfl rfl ?_; refine Ex_mv rfl rfl ?_; refine Ex_invV rfl (by rfl) (by rfl) (by assumption) (by rfl) (c_CF_members hC (by decide)) ?_
      refine Ex_rt rfl rfl ⟨?_, rfl⟩
      rw [b13]; rfl
    (first | refine Ex_swN (k := 6) rfl (by omega) (by omega) (fun b13 => ?_) (fun b13_6 => ?_) | refine Ex_sw (fun b13 => ?_) (fun b13_6 => ?_))
    · refine Ex_mv rfl rfl ?_; refine Ex_mv rfl rfl ?_; refine Ex_invV rfl (by rfl) (by rfl) (by assumption) (by rfl) (c_CF_members hC (by decide)) ?_
      refine Ex_rt rfl rfl ⟨?_, rfl⟩
      rw [b13]; rfl
    (first | refine Ex_swN (k := 7) rfl (by omega) (by omega) (fun b13 => ?_) (fun b13_7 => ?_) | refine Ex_sw (fun b13 => ?_) (fun b13_7 => ?_))
    · refine Ex_mv rfl rfl ?_; refine Ex_getf rfl (by assumption) rfl ?_; refine Ex_mv rfl rfl ?_; refine Ex_getf rfl (by assumption) rfl ?_; refine Ex_invV rfl (by rfl) (by rfl) (by assumption) (by rfl) (c_RW_two hrow (by omega)) ?_
      refine Ex_rt rfl rfl ⟨?_, rfl⟩
      rw [b13]; rfl
    refine Ex_sw0 ?_
    refine Ex_mv rfl rfl ?_
    refine Ex_rt rfl rfl ⟨?_, rfl⟩
    simp only [q_file]; rw [if_neg b13_0, if_neg b13_1, if_neg b13_2, if_neg b13_3, if_neg b13_4, if_neg b13_5, if_neg b13_6, if_neg b13_7]
theorem c_CP_entry (hS : CPs h c0 s) (f i w : Int32) : Ev (prog nb sa) m_CP_entry [.ref c0, .int f, .int i, .int w] h (some (.int (match fA s.2.2.1 f with | none => -1 | some z => q_entry z i w))) h := by
  obtain ⟨kr, kt, hc⟩ := hS.cell
  rcases c_CP_fileAt (nb := nb) (sa := sa) hS f with ⟨e0, e1⟩ | ⟨z, c, e0, e1, hC, h1, h2, hz⟩
  · rw [e0]
    refine Ev_ofL k_CP_entry 5 [some (.ref c0), some (.int f), some (.int i), some (.int w), none] rfl (Nat.le_of_ble_eq_true rfl) rfl ?_
    refine Ex_mv rfl rfl ?_; refine Ex_mv rfl rfl ?_; refine Ex_invV rfl (by rfl) (by rfl) (by assumption) (by rfl) (e1) ?_; refine Ex_mv rfl rfl ?_; refine Ex_mv rfl rfl ?_; refine Ex_mv rfl rfl ?_; refine Ex_mv rfl rfl ?_
    exact Ex_rt rfl rfl ⟨rfl, rfl⟩
  · rw [e0]
    have hcc := hC.1
    have hP := CF.po hC
    have hpo := hP.1
    rcases i32_cases i with hn | ⟨k, hk, rfl⟩
    · refine Ev_ofL k_CP_entry 5 [some (.ref c0), some (.int f), some (.int i), some (.int w), none] rfl (Nat.le_of_ble_eq_true rfl) rfl ?_
      refine Ex_mv rfl rfl ?_; refine Ex_mv rfl rfl ?_; refine Ex_invV rfl (by rfl) (by rfl) (by assumption) (by rfl) (e1) ?_; refine Ex_mv rfl rfl ?_; refine Ex_mv rfl rfl ?_; refine Ex_mv rfl rfl ?_; refine Ex_mv rfl rfl ?_; refine Ex_getf rfl (by assumption) rfl ?_; refine Ex_mv rfl rfl ?_; refine Ex_invV rfl (by rfl) (by rfl) (by assumption) (by rfl) (c_PL_hasN hP hn) ?_; refine Ex_mv rfl rfl ?_; refine Ex_iff (by decide) ?_; refine Ex_mv rfl rfl ?_
      refine Ex_rt rfl rfl ⟨?_, rfl⟩
      simp only [q_entry]; rw [if_pos (Or.inl hn)]
    · by_cases hkn : k < z.2.2.1
      · have hq : ¬ (nI k < 0 ∨ z.2.2.1 ≤ (nI k).toNatClampNeg) := by rw [nI_clamp hk]; exact fun q => q.elim (nI_pos hk) (fun y => by omega)
        have ek : (nI k).toNatClampNeg = k := nI_clamp hk
        refine Ev_ofL k_CP_entry 5 [some (.ref c0), some (.int f), some (.int (nI k)), some (.int w), none] rfl (Nat.le_of_ble_eq_true rfl) rfl ?_
        refine Ex_mv rfl rfl ?_; refine Ex_mv rfl rfl ?_; refine Ex_invV rfl (by rfl) (by rfl) (by assumption) (by rfl) (e1) ?_; refine Ex_mv rfl rfl ?_; refine Ex_mv rfl rfl ?_; refine Ex_mv rfl rfl ?_; refine Ex_mv rfl rfl ?_; refine Ex_getf rfl (by assumption) rfl ?_; refine Ex_mv rfl rfl ?_; refine Ex_invV rfl (by rfl) (by rfl) (by assumption) (by rfl) (c_PL_has hP hk) ?_
        rw [if_pos hkn]
        refine Ex_mv rfl rfl ?_; refine Ex_ift (by decide) ?_; refine Ex_mv rfl rfl ?_; refine Ex_mv rfl rfl ?_
        (first | refine Ex_swN (k := 0) rfl (by omega) (by omega) (fun b27 => ?_) (fun b27_0 => ?_) | refine Ex_sw (fun b27 => ?_) (fun b27_0 => ?_))
        · refine Ex_mv rfl rfl ?_; refine Ex_getf rfl (by assumption) rfl ?_; refine Ex_mv rfl rfl ?_; refine Ex_invV rfl (by rfl) (by rfl) (by assumption) (by rfl) (c_PL_tag hP hk) ?_
          refine Ex_rt rfl rfl ⟨?_, rfl⟩
          simp only [q_entry]; rw [if_neg hq, b27, ek]; rfl
        (first | refine Ex_swN (k := 1) rfl (by omega) (by omega) (fun b27 => ?_) (fun b27_1 => ?_) | refine Ex_sw (fun b27 => ?_) (fun b27_1 => ?_))
        · refine Ex_mv rfl rfl ?_; refine Ex_getf rfl (by assumption) rfl ?_; refine Ex_mv rfl rfl ?_; refine Ex_invV rfl (by rfl) (by rfl) (by assumption) (by rfl) (c_PL_first hP hk) ?_
          refine Ex_rt rfl rfl ⟨?_, rfl⟩
          simp only [q_entry]; rw [if_neg hq, b27, ek]; rfl
        (first | refine Ex_swN (k := 2) rfl (by omega) (by omega) (fun b27 => ?_) (fun b27_2 => ?_) | refine Ex_sw (fun b27 => ?_) (fun b27_2 => ?_))
        · refine Ex_mv rfl rfl ?_; refine Ex_getf rfl (by assumption) rfl ?_; refine Ex_mv rfl rfl ?_; refine Ex_invV rfl (by rfl) (by rfl) (by assumption) (by rfl) (c_PL_second hP hk) ?_
          refine Ex_rt rfl rfl ⟨?_, rfl⟩
          simp only [q_entry]; rw [if_neg hq, b27, ek]; rfl
        (first | refine Ex_swN (k := 3) rfl (by omega) (by omega) (fun b27 => ?_) (fun b27_3 => ?_) | refine Ex_sw (fun b27 => ?_) (fun b27_3 => ?_))
        · refine Ex_mv rfl rfl ?_; refine Ex_getf rfl (by assumption) rfl ?_; refine Ex_mv rfl rfl ?_; refine Ex_invV rfl (by rfl) (by rfl) (by assumption) (by rfl) (c_PL_textSize hP hk) ?_
          refine Ex_rt rfl rfl ⟨?_, rfl⟩
          simp only [q_entry]; rw [if_neg hq, b27, ek]; rfl
        refine Ex_sw0 ?_
        refine Ex_mv rfl rfl ?_
        refine Ex_rt rfl rfl ⟨?_, rfl⟩
        simp only [q_entry]; rw [if_neg hq, if_neg b27_0, if_neg b27_1, if_neg b27_2, if_neg b27_3]
      · refine Ev_ofL k_CP_entry 5 [some (.ref c0), some (.int f), some (.int (nI k)), some (.int w), none] rfl (Nat.le_of_ble_eq_true rfl) rfl ?_
        refine Ex_mv rfl rfl ?_; refine Ex_mv rfl rfl ?_; refine Ex_invV rfl (by rfl) (by rfl) (by assumption) (by rfl) (e1) ?_; refine Ex_mv rfl rfl ?_; refine Ex_mv rfl rfl ?_; refine Ex_mv rfl rfl ?_; refine Ex_mv rfl rfl ?_; refine Ex_getf rfl (by assumption) rfl ?_; refine Ex_mv rfl rfl ?_; refine Ex_invV rfl (by rfl) (by rfl) (by assumption) (by rfl) (c_PL_has hP hk) ?_
        rw [if_neg hkn]
        refine Ex_mv rfl rfl ?_; refine Ex_iff (by decide) ?_; refine Ex_mv rfl rfl ?_
        refine Ex_rt rfl rfl ⟨?_, rfl⟩
        simp only [q_entry]; rw [if_pos (Or.inr (by rw [nI_clamp hk]; omega))]
theorem FC.thr {sl : Nat} (h1 : sl ≤ 8) : FC c0 h (hskip h 1 sl) := ⟨by simp [hskip], by simp [hskip], by simp [hskip], by simp [hskip]; omega, fun _ _ _ => rfl⟩
theorem Ex_thr {P : Pg} {cd : Cd} {pc : Nat} {ls : Ls} {st : List Value} {kd : Int32} {sl : Nat} {R : Option Value → Hp → Prop} (hc : cd pc = some (o_thr kd sl)) (hR : R (some (.int kd)) (hskip h 1 sl)) : Ex P cd pc ls st h R := by
  refine ⟨1, _, _, ?_, hR⟩
  have hl : hle h (hskip h 1 sl) = true := by simp [hle, hskip]
  rw [xexec_eq, hc]
  simp only [o_thr, hl, cond_true]
theorem c_CP_number (hS : CPs h c0 s) (f i : Int32) : EvQ (prog nb sa) m_CP_number [.ref c0, .int f, .int i] h (fun v h' => v = some (vnum (q_num (fA s.2.2.1 f) i)) ∧ CPs h' c0 s ∧ FC c0 h h') := by
  obtain ⟨kr, kt, hc⟩ := hS.cell
  have hth : ∀ sl, sl ≤ 8 → CPs (hskip h 1 sl) c0 s ∧ FC c0 h (hskip h 1 sl) := fun sl hs => ⟨hS.eq (fun _ _ _ => rfl), FC.thr hs⟩
  rcases c_CP_fileAt (nb := nb) (sa := sa) hS f with ⟨e0, e1⟩ | ⟨z, c, e0, e1, hC, h1, h2, hz⟩
  · rw [e0]
    refine EvQ_of k_CP_number 5 [some (.ref c0), some (.int f), some (.int i), none, none] rfl (Nat.le_of_ble_eq_true rfl) rfl ?_
    refine Ex_mv rfl rfl ?_; refine Ex_mv rfl rfl ?_; refine Ex_invV rfl (by rfl) (by rfl) (by assumption) (by rfl) (e1) ?_; refine Ex_mv rfl rfl ?_; refine Ex_mv rfl rfl ?_; refine Ex_mv rfl rfl ?_
    exact Ex_thr rfl ⟨rfl, hth 6 (by decide)⟩
  · rw [e0]
    have hcc := hC.1
    have hP := CF.po hC
    have hpo := hP.1
    rcases i32_cases i with hn | ⟨k, hk, rfl⟩
    · refine EvQ_of k_CP_number 5 [some (.ref c0), some (.int f), some (.int i), none, none] rfl (Nat.le_of_ble_eq_true rfl) rfl ?_
      refine Ex_mv rfl rfl ?_; refine Ex_mv rfl rfl ?_; refine Ex_invV rfl (by rfl) (by rfl) (by assumption) (by rfl) (e1) ?_; refine Ex_mv rfl rfl ?_; refine Ex_mv rfl rfl ?_; refine Ex_mv rfl rfl ?_; refine Ex_mv rfl rfl ?_; refine Ex_getf rfl (by assumption) rfl ?_; refine Ex_mv rfl rfl ?_; refine Ex_invV rfl (by rfl) (by rfl) (by assumption) (by rfl) (c_PL_hasN hP hn) ?_; refine Ex_mv rfl rfl ?_; refine Ex_iff (by decide) ?_
      exact Ex_thr rfl ⟨by simp only [q_num]; rw [if_pos (Or.inl hn)]; rfl, hth 6 (by decide)⟩
    · have ek : (nI k).toNatClampNeg = k := nI_clamp hk
      have ht := tg_lt (S := z.2.1) (n := z.2.2.1) hP.row.lt k
      by_cases hkn : k < z.2.2.1
      · have hq : ¬ (nI k < 0 ∨ z.2.2.1 ≤ (nI k).toNatClampNeg) := by rw [nI_clamp hk]; exact fun q => q.elim (nI_pos hk) (fun y => by omega)
        simp only [q_num]
        rw [if_neg hq, ek]
        by_cases t0 : tg z.1 z.2.1 z.2.2.1 k = 0
        · refine EvQ_of k_CP_number 5 [some (.ref c0), some (.int f), some (.int (nI k)), none, none] rfl (Nat.le_of_ble_eq_true rfl) rfl ?_
          refine Ex_mv rfl rfl ?_; refine Ex_mv rfl rfl ?_; refine Ex_invV rfl (by rfl) (by rfl) (by assumption) (by rfl) (e1) ?_; refine Ex_mv rfl rfl ?_; refine Ex_mv rfl rfl ?_; refine Ex_mv rfl rfl ?_; refine Ex_mv rfl rfl ?_; refine Ex_getf rfl (by assumption) rfl ?_; refine Ex_mv rfl rfl ?_; refine Ex_invV rfl (by rfl) (by rfl) (by assumption) (by rfl) (c_PL_has hP hk) ?_
          rw [if_pos hkn]
          refine Ex_mv rfl rfl ?_; refine Ex_ift (by decide) ?_; refine Ex_mv rfl rfl ?_; refine Ex_getf rfl (by assumption) rfl ?_; refine Ex_mv rfl rfl ?_; refine Ex_invV rfl (by rfl) (by rfl) (by assumption) (by rfl) (c_PL_tag hP hk) ?_; refine Ex_mv rfl rfl ?_; refine Ex_mv rfl rfl ?_; refine Ex_mv rfl rfl ?_; refine Ex_iff (by rw [t0]; decide) ?_
          exact Ex_thr rfl ⟨by rw [if_pos t0]; rfl, hth 8 (by decide)⟩
        · rw [if_neg t0]
          by_cases t3 : 3 ≤ tg z.1 z.2.1 z.2.2.1 k ∧ tg z.1 z.2.1 z.2.2.1 k ≤ 6
          · rw [if_pos t3]
            refine EvQ_of k_CP_number 5 [some (.ref c0), some (.int f), some (.int (nI k)), none, none] rfl (Nat.le_of_ble_eq_true rfl) rfl ?_
            refine Ex_mv rfl rfl ?_; refine Ex_mv rfl rfl ?_; refine Ex_invV rfl (by rfl) (by rfl) (by assumption) (by rfl) (e1) ?_; refine Ex_mv rfl rfl ?_; refine Ex_mv rfl rfl ?_; refine Ex_mv rfl rfl ?_; refine Ex_mv rfl rfl ?_; refine Ex_getf rfl (by assumption) rfl ?_; refine Ex_mv rfl rfl ?_; refine Ex_invV rfl (by rfl) (by rfl) (by assumption) (by rfl) (c_PL_has hP hk) ?_
            rw [if_pos hkn]
            refine Ex_mv rfl rfl ?_; refine Ex_ift (by decide) ?_; refine Ex_mv rfl rfl ?_; refine Ex_getf rfl (by assumption) rfl ?_; refine Ex_mv rfl rfl ?_; refine Ex_invV rfl (by rfl) (by rfl) (by assumption) (by rfl) (c_PL_tag hP hk) ?_; refine Ex_mv rfl rfl ?_; refine Ex_mv rfl rfl ?_; refine Ex_mv rfl rfl ?_; refine Ex_ift (nI_nz t0 (by omega)) ?_; refine Ex_mv rfl rfl ?_; refine Ex_inv rfl (by rfl) (by rfl) (by rfl) (c_CP_isNumber (by omega)) ?_
            rw [if_pos t3]
            refine Ex_mv rfl rfl ?_; refine Ex_ift (by decide) ?_; refine Ex_mv rfl rfl ?_; refine Ex_getf rfl (by assumption) rfl ?_; refine Ex_mv rfl rfl ?_; refine Ex_invV rfl (by rfl) (by rfl) (by assumption) (by rfl) (c_PL_bits hP hk) ?_
            refine Ex_rt rfl rfl ?_
            exact ⟨rfl, hS, FC.rf⟩
          · rw [if_neg t3]
            refine EvQ_of k_CP_number 5 [some (.ref c0), some (.int f), some (.int (nI k)), none, none] rfl (Nat.le_of_ble_eq_true rfl) rfl ?_
            refine Ex_mv rfl rfl ?_; refine Ex_mv rfl rfl ?_; refine Ex_invV rfl (by rfl) (by rfl) (by assumption) (by rfl) (e1) ?_; refine Ex_mv rfl rfl ?_; refine Ex_mv rfl rfl ?_; refine Ex_mv rfl rfl ?_; refine Ex_mv rfl rfl ?_; refine Ex_getf rfl (by assumption) rfl ?_; refine Ex_mv rfl rfl ?_; refine Ex_invV rfl (by rfl) (by rfl) (by assumption) (by rfl) (c_PL_has hP hk) ?_
            rw [if_pos hkn]
            refine Ex_mv rfl rfl ?_; refine Ex_ift (by decide) ?_; refine Ex_mv rfl rfl ?_; refine Ex_getf rfl (by assumption) rfl ?_; refine Ex_mv rfl rfl ?_; refine Ex_invV rfl (by rfl) (by rfl) (by assumption) (by rfl) (c_PL_tag hP hk) ?_; refine Ex_mv rfl rfl ?_; refine Ex_mv rfl rfl ?_; refine Ex_mv rfl rfl ?_; refine Ex_ift (nI_nz t0 (by omega)) ?_; refine Ex_mv rfl rfl ?_; refine Ex_inv rfl (by rfl) (by rfl) (by rfl) (c_CP_isNumber (by omega)) ?_
            rw [if_neg t3]
            refine Ex_mv rfl rfl ?_; refine Ex_iff (by decide) ?_
            exact Ex_thr rfl ⟨rfl, hth 6 (by decide)⟩
      · refine EvQ_of k_CP_number 5 [some (.ref c0), some (.int f), some (.int (nI k)), none, none] rfl (Nat.le_of_ble_eq_true rfl) rfl ?_
        refine Ex_mv rfl rfl ?_; refine Ex_mv rfl rfl ?_; refine Ex_invV rfl (by rfl) (by rfl) (by assumption) (by rfl) (e1) ?_; refine Ex_mv rfl rfl ?_; refine Ex_mv rfl rfl ?_; refine Ex_mv rfl rfl ?_; refine Ex_mv rfl rfl ?_; refine Ex_getf rfl (by assumption) rfl ?_; refine Ex_mv rfl rfl ?_; refine Ex_invV rfl (by rfl) (by rfl) (by assumption) (by rfl) (c_PL_has hP hk) ?_
        rw [if_neg hkn]
        refine Ex_mv rfl rfl ?_; refine Ex_iff (by decide) ?_
        exact Ex_thr rfl ⟨by simp only [q_num]; rw [if_pos (Or.inr (by rw [nI_clamp hk]; omega))]; rfl, hth 6 (by decide)⟩
end TELL
end
