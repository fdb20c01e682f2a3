section
-- ===== PART A: goes FIRST, ahead of the names: the tables' words, and 'selects' of the private methods out of them =====
/-- a private method of a class that the tables say can be made, by its rows of tables_1 -/
def lw_okq (q : MethodName × Nat) : Prop := (q.1.cls ≠ "java/lang/invoke/MethodHandle" ∧ q.1.cls ≠ "java/lang/invoke/VarHandle") ∧ Cond.instantiable q.1.cls q.2 ∈ tables_1 ∧ Cond.privateMethod q.1 ∈ tables_1 ∧ Cond.instanceMethod q.1 ∈ tables_1
theorem lw_p0 : lw_okq (⟨"ClassPools$Reader", "magic", "()V"⟩, 5) := ⟨⟨by decide +kernel, by decide +kernel⟩, List.mem_of_getElem? (i := 239) (by decide +kernel), List.mem_of_getElem? (i := 267) (by decide +kernel), List.mem_of_getElem? (i := 268) (by decide +kernel)⟩
theorem lw_p1 : lw_okq (⟨"ClassPools$Reader", "skip", "(I)V"⟩, 5) := ⟨⟨by decide +kernel, by decide +kernel⟩, List.mem_of_getElem? (i := 239) (by decide +kernel), List.mem_of_getElem? (i := 271) (by decide +kernel), List.mem_of_getElem? (i := 272) (by decide +kernel)⟩
theorem lw_p2 : lw_okq (⟨"ClassPools$Reader", "fail", "(II)V"⟩, 5) := ⟨⟨by decide +kernel, by decide +kernel⟩, List.mem_of_getElem? (i := 239) (by decide +kernel), List.mem_of_getElem? (i := 277) (by decide +kernel), List.mem_of_getElem? (i := 278) (by decide +kernel)⟩
theorem lw_p3 : lw_okq (⟨"ClassPools$Reader", "entries", "()V"⟩, 5) := ⟨⟨by decide +kernel, by decide +kernel⟩, List.mem_of_getElem? (i := 239) (by decide +kernel), List.mem_of_getElem? (i := 286) (by decide +kernel), List.mem_of_getElem? (i := 287) (by decide +kernel)⟩
theorem lw_p4 : lw_okq (⟨"ClassPools$Reader", "many", "(I)I"⟩, 5) := ⟨⟨by decide +kernel, by decide +kernel⟩, List.mem_of_getElem? (i := 239) (by decide +kernel), List.mem_of_getElem? (i := 290) (by decide +kernel), List.mem_of_getElem? (i := 291) (by decide +kernel)⟩
theorem lw_p5 : lw_okq (⟨"ClassPools$Reader", "anEntry", "(Z)V"⟩, 5) := ⟨⟨by decide +kernel, by decide +kernel⟩, List.mem_of_getElem? (i := 239) (by decide +kernel), List.mem_of_getElem? (i := 307) (by decide +kernel), List.mem_of_getElem? (i := 308) (by decide +kernel)⟩
theorem lw_p6 : lw_okq (⟨"ClassPools$Reader", "two", "()I"⟩, 5) := ⟨⟨by decide +kernel, by decide +kernel⟩, List.mem_of_getElem? (i := 239) (by decide +kernel), List.mem_of_getElem? (i := 317) (by decide +kernel), List.mem_of_getElem? (i := 318) (by decide +kernel)⟩
theorem lw_p7 : lw_okq (⟨"ClassPools$Reader", "tell", "(I)V"⟩, 5) := ⟨⟨by decide +kernel, by decide +kernel⟩, List.mem_of_getElem? (i := 239) (by decide +kernel), List.mem_of_getElem? (i := 324) (by decide +kernel), List.mem_of_getElem? (i := 325) (by decide +kernel)⟩
theorem lw_p8 : lw_okq (⟨"ClassPools$Reader", "classAbove", "()V"⟩, 5) := ⟨⟨by decide +kernel, by decide +kernel⟩, List.mem_of_getElem? (i := 239) (by decide +kernel), List.mem_of_getElem? (i := 332) (by decide +kernel), List.mem_of_getElem? (i := 333) (by decide +kernel)⟩
theorem lw_p9 : lw_okq (⟨"ClassPools$Reader", "members", "(I)V"⟩, 5) := ⟨⟨by decide +kernel, by decide +kernel⟩, List.mem_of_getElem? (i := 239) (by decide +kernel), List.mem_of_getElem? (i := 336) (by decide +kernel), List.mem_of_getElem? (i := 337) (by decide +kernel)⟩
theorem lw_p10 : lw_okq (⟨"ClassPools$Reader", "attributes", "()V"⟩, 5) := ⟨⟨by decide +kernel, by decide +kernel⟩, List.mem_of_getElem? (i := 239) (by decide +kernel), List.mem_of_getElem? (i := 348) (by decide +kernel), List.mem_of_getElem? (i := 349) (by decide +kernel)⟩
theorem lw_p11 : lw_okq (⟨"ClassPools$Pool", "twoOf", "(II)I"⟩, 3) := ⟨⟨by decide +kernel, by decide +kernel⟩, List.mem_of_getElem? (i := 64) (by decide +kernel), List.mem_of_getElem? (i := 403) (by decide +kernel), List.mem_of_getElem? (i := 404) (by decide +kernel)⟩
theorem lw_p12 : lw_okq (⟨"ClassPools", "fileAt", "(I)LClassPools$ClassFile;"⟩, 8) := ⟨⟨by decide +kernel, by decide +kernel⟩, List.mem_of_getElem? (i := 33) (by decide +kernel), List.mem_of_getElem? (i := 433) (by decide +kernel), List.mem_of_getElem? (i := 434) (by decide +kernel)⟩
theorem lw_p13 : lw_okq (⟨"ClassPools", "showText", "(LClassPools$ClassFile;I)I"⟩, 8) := ⟨⟨by decide +kernel, by decide +kernel⟩, List.mem_of_getElem? (i := 33) (by decide +kernel), List.mem_of_getElem? (i := 476) (by decide +kernel), List.mem_of_getElem? (i := 477) (by decide +kernel)⟩
theorem lw_p14 : lw_okq (⟨"ClassPools", "showClass", "(LClassPools$ClassFile;II)I"⟩, 8) := ⟨⟨by decide +kernel, by decide +kernel⟩, List.mem_of_getElem? (i := 33) (by decide +kernel), List.mem_of_getElem? (i := 486) (by decide +kernel), List.mem_of_getElem? (i := 487) (by decide +kernel)⟩
theorem lw_p15 : lw_okq (⟨"ClassPools$ClassFile", "attributesOf", "(II)I"⟩, 9) := ⟨⟨by decide +kernel, by decide +kernel⟩, List.mem_of_getElem? (i := 116) (by decide +kernel), List.mem_of_getElem? (i := 515) (by decide +kernel), List.mem_of_getElem? (i := 516) (by decide +kernel)⟩
def lw_privs_1 : List (MethodName × Nat) := [(⟨"ClassPools$Reader", "magic", "()V"⟩, 5), (⟨"ClassPools$Reader", "skip", "(I)V"⟩, 5), (⟨"ClassPools$Reader", "fail", "(II)V"⟩, 5), (⟨"ClassPools$Reader", "entries", "()V"⟩, 5), (⟨"ClassPools$Reader", "many", "(I)I"⟩, 5), (⟨"ClassPools$Reader", "anEntry", "(Z)V"⟩, 5), (⟨"ClassPools$Reader", "two", "()I"⟩, 5), (⟨"ClassPools$Reader", "tell", "(I)V"⟩, 5), (⟨"ClassPools$Reader", "classAbove", "()V"⟩, 5), (⟨"ClassPools$Reader", "members", "(I)V"⟩, 5), (⟨"ClassPools$Reader", "attributes", "()V"⟩, 5), (⟨"ClassPools$Pool", "twoOf", "(II)I"⟩, 3), (⟨"ClassPools", "fileAt", "(I)LClassPools$ClassFile;"⟩, 8), (⟨"ClassPools", "showText", "(LClassPools$ClassFile;I)I"⟩, 8), (⟨"ClassPools", "showClass", "(LClassPools$ClassFile;II)I"⟩, 8), (⟨"ClassPools$ClassFile", "attributesOf", "(II)I"⟩, 9)]
theorem lw_r1 : ∀ q ∈ lw_privs_1, lw_okq q := List.forall_mem_cons.mpr ⟨lw_p0, List.forall_mem_cons.mpr ⟨lw_p1, List.forall_mem_cons.mpr ⟨lw_p2, List.forall_mem_cons.mpr ⟨lw_p3, List.forall_mem_cons.mpr ⟨lw_p4, List.forall_mem_cons.mpr ⟨lw_p5, List.forall_mem_cons.mpr ⟨lw_p6, List.forall_mem_cons.mpr ⟨lw_p7, List.forall_mem_cons.mpr ⟨lw_p8, List.forall_mem_cons.mpr ⟨lw_p9, List.forall_mem_cons.mpr ⟨lw_p10, List.forall_mem_cons.mpr ⟨lw_p11, List.forall_mem_cons.mpr ⟨lw_p12, List.forall_mem_cons.mpr ⟨lw_p13, List.forall_mem_cons.mpr ⟨lw_p14, List.forall_mem_cons.mpr ⟨lw_p15, fun _ h => absurd h List.not_mem_nil⟩⟩⟩⟩⟩⟩⟩⟩⟩⟩⟩⟩⟩⟩⟩⟩
theorem lw_p16 : lw_okq (⟨"ClassPools$Ranking", "firstNotBelow", "(LClassPools$Pool;I)I"⟩, 5) := ⟨⟨by decide +kernel, by decide +kernel⟩, List.mem_of_getElem? (i := 57) (by decide +kernel), List.mem_of_getElem? (i := 549) (by decide +kernel), List.mem_of_getElem? (i := 550) (by decide +kernel)⟩
theorem lw_p17 : lw_okq (⟨"ClassPools$Ranking", "poolOf", "(I)LClassPools$Pool;"⟩, 5) := ⟨⟨by decide +kernel, by decide +kernel⟩, List.mem_of_getElem? (i := 57) (by decide +kernel), List.mem_of_getElem? (i := 553) (by decide +kernel), List.mem_of_getElem? (i := 554) (by decide +kernel)⟩
theorem lw_p18 : lw_okq (⟨"ClassPools$Ranking", "orderOf", "(ILClassPools$Pool;I)I"⟩, 5) := ⟨⟨by decide +kernel, by decide +kernel⟩, List.mem_of_getElem? (i := 57) (by decide +kernel), List.mem_of_getElem? (i := 591) (by decide +kernel), List.mem_of_getElem? (i := 592) (by decide +kernel)⟩
theorem lw_p19 : lw_okq (⟨"ClassPools$Ranking", "insert", "(II)Z"⟩, 5) := ⟨⟨by decide +kernel, by decide +kernel⟩, List.mem_of_getElem? (i := 57) (by decide +kernel), List.mem_of_getElem? (i := 595) (by decide +kernel), List.mem_of_getElem? (i := 596) (by decide +kernel)⟩
theorem lw_p20 : lw_okq (⟨"ClassPools", "placesOf", "(I)I"⟩, 8) := ⟨⟨by decide +kernel, by decide +kernel⟩, List.mem_of_getElem? (i := 33) (by decide +kernel), List.mem_of_getElem? (i := 620) (by decide +kernel), List.mem_of_getElem? (i := 621) (by decide +kernel)⟩
theorem lw_p21 : lw_okq (⟨"ClassPools$Writer", "pushEntry", "(LClassPools$Pool;I)V"⟩, 3) := ⟨⟨by decide +kernel, by decide +kernel⟩, List.mem_of_getElem? (i := 101) (by decide +kernel), List.mem_of_getElem? (i := 669) (by decide +kernel), List.mem_of_getElem? (i := 670) (by decide +kernel)⟩
theorem lw_p22 : lw_okq (⟨"ClassPools$Writer", "movedTo", "(I)I"⟩, 3) := ⟨⟨by decide +kernel, by decide +kernel⟩, List.mem_of_getElem? (i := 101) (by decide +kernel), List.mem_of_getElem? (i := 681) (by decide +kernel), List.mem_of_getElem? (i := 682) (by decide +kernel)⟩
theorem lw_p23 : lw_okq (⟨"ClassPools$Writer", "pushRest", "(LClassPools$ClassFile;)V"⟩, 3) := ⟨⟨by decide +kernel, by decide +kernel⟩, List.mem_of_getElem? (i := 101) (by decide +kernel), List.mem_of_getElem? (i := 690) (by decide +kernel), List.mem_of_getElem? (i := 691) (by decide +kernel)⟩
theorem lw_p24 : lw_okq (⟨"java/lang/NullPointerException", "getExtendedNPEMessage", "()Ljava/lang/String;"⟩, 8) := ⟨⟨by decide +kernel, by decide +kernel⟩, List.mem_of_getElem? (i := 739) (by decide +kernel), List.mem_of_getElem? (i := 737) (by decide +kernel), List.mem_of_getElem? (i := 738) (by decide +kernel)⟩
theorem lw_p25 : lw_okq (⟨"java/lang/Throwable", "fillInStackTrace", "(I)Ljava/lang/Throwable;"⟩, 6) := ⟨⟨by decide +kernel, by decide +kernel⟩, List.mem_of_getElem? (i := 748) (by decide +kernel), List.mem_of_getElem? (i := 746) (by decide +kernel), List.mem_of_getElem? (i := 747) (by decide +kernel)⟩
theorem lw_p26 : lw_okq (⟨"ClassPoolsModel", "parse", "()V"⟩, 17) := ⟨⟨by decide +kernel, by decide +kernel⟩, List.mem_of_getElem? (i := 877) (by decide +kernel), List.mem_of_getElem? (i := 1006) (by decide +kernel), List.mem_of_getElem? (i := 1007) (by decide +kernel)⟩
theorem lw_p27 : lw_okq (⟨"ClassPoolsModel", "goes", "(I)Z"⟩, 17) := ⟨⟨by decide +kernel, by decide +kernel⟩, List.mem_of_getElem? (i := 877) (by decide +kernel), List.mem_of_getElem? (i := 1010) (by decide +kernel), List.mem_of_getElem? (i := 1011) (by decide +kernel)⟩
theorem lw_p28 : lw_okq (⟨"ClassPoolsModel", "fails", "(II)V"⟩, 17) := ⟨⟨by decide +kernel, by decide +kernel⟩, List.mem_of_getElem? (i := 877) (by decide +kernel), List.mem_of_getElem? (i := 1014) (by decide +kernel), List.mem_of_getElem? (i := 1015) (by decide +kernel)⟩
theorem lw_p29 : lw_okq (⟨"ClassPoolsModel", "nextTwo", "()I"⟩, 17) := ⟨⟨by decide +kernel, by decide +kernel⟩, List.mem_of_getElem? (i := 877) (by decide +kernel), List.mem_of_getElem? (i := 1018) (by decide +kernel), List.mem_of_getElem? (i := 1019) (by decide +kernel)⟩
theorem lw_p30 : lw_okq (⟨"ClassPoolsModel", "entry", "(I)I"⟩, 17) := ⟨⟨by decide +kernel, by decide +kernel⟩, List.mem_of_getElem? (i := 877) (by decide +kernel), List.mem_of_getElem? (i := 1026) (by decide +kernel), List.mem_of_getElem? (i := 1027) (by decide +kernel)⟩
theorem lw_p31 : lw_okq (⟨"ClassPoolsModel", "many", "(I)I"⟩, 17) := ⟨⟨by decide +kernel, by decide +kernel⟩, List.mem_of_getElem? (i := 877) (by decide +kernel), List.mem_of_getElem? (i := 1030) (by decide +kernel), List.mem_of_getElem? (i := 1031) (by decide +kernel)⟩
def lw_privs_2 : List (MethodName × Nat) := [(⟨"ClassPools$Ranking", "firstNotBelow", "(LClassPools$Pool;I)I"⟩, 5), (⟨"ClassPools$Ranking", "poolOf", "(I)LClassPools$Pool;"⟩, 5), (⟨"ClassPools$Ranking", "orderOf", "(ILClassPools$Pool;I)I"⟩, 5), (⟨"ClassPools$Ranking", "insert", "(II)Z"⟩, 5), (⟨"ClassPools", "placesOf", "(I)I"⟩, 8), (⟨"ClassPools$Writer", "pushEntry", "(LClassPools$Pool;I)V"⟩, 3), (⟨"ClassPools$Writer", "movedTo", "(I)I"⟩, 3), (⟨"ClassPools$Writer", "pushRest", "(LClassPools$ClassFile;)V"⟩, 3), (⟨"java/lang/NullPointerException", "getExtendedNPEMessage", "()Ljava/lang/String;"⟩, 8), (⟨"java/lang/Throwable", "fillInStackTrace", "(I)Ljava/lang/Throwable;"⟩, 6), (⟨"ClassPoolsModel", "parse", "()V"⟩, 17), (⟨"ClassPoolsModel", "goes", "(I)Z"⟩, 17), (⟨"ClassPoolsModel", "fails", "(II)V"⟩, 17), (⟨"ClassPoolsModel", "nextTwo", "()I"⟩, 17), (⟨"ClassPoolsModel", "entry", "(I)I"⟩, 17), (⟨"ClassPoolsModel", "many", "(I)I"⟩, 17)]
theorem lw_r2 : ∀ q ∈ lw_privs_2, lw_okq q := List.forall_mem_cons.mpr ⟨lw_p16, List.forall_mem_cons.mpr ⟨lw_p17, List.forall_mem_cons.mpr ⟨lw_p18, List.forall_mem_cons.mpr ⟨lw_p19, List.forall_mem_cons.mpr ⟨lw_p20, List.forall_mem_cons.mpr ⟨lw_p21, List.forall_mem_cons.mpr ⟨lw_p22, List.forall_mem_cons.mpr ⟨lw_p23, List.forall_mem_cons.mpr ⟨lw_p24, List.forall_mem_cons.mpr ⟨lw_p25, List.forall_mem_cons.mpr ⟨lw_p26, List.forall_mem_cons.mpr ⟨lw_p27, List.forall_mem_cons.mpr ⟨lw_p28, List.forall_mem_cons.mpr ⟨lw_p29, List.forall_mem_cons.mpr ⟨lw_p30, List.forall_mem_cons.mpr ⟨lw_p31, fun _ h => absurd h List.not_mem_nil⟩⟩⟩⟩⟩⟩⟩⟩⟩⟩⟩⟩⟩⟩⟩⟩
theorem lw_p32 : lw_okq (⟨"ClassPoolsModel", "attributes", "()LClassPoolsModel$Attributes;"⟩, 17) := ⟨⟨by decide +kernel, by decide +kernel⟩, List.mem_of_getElem? (i := 877) (by decide +kernel), List.mem_of_getElem? (i := 1047) (by decide +kernel), List.mem_of_getElem? (i := 1048) (by decide +kernel)⟩
theorem lw_p33 : lw_okq (⟨"ClassPoolsModel", "places", "()V"⟩, 17) := ⟨⟨by decide +kernel, by decide +kernel⟩, List.mem_of_getElem? (i := 877) (by decide +kernel), List.mem_of_getElem? (i := 1070) (by decide +kernel), List.mem_of_getElem? (i := 1071) (by decide +kernel)⟩
theorem lw_p34 : lw_okq (⟨"ClassPoolsModel", "place", "(II)V"⟩, 17) := ⟨⟨by decide +kernel, by decide +kernel⟩, List.mem_of_getElem? (i := 877) (by decide +kernel), List.mem_of_getElem? (i := 1074) (by decide +kernel), List.mem_of_getElem? (i := 1075) (by decide +kernel)⟩
theorem lw_p35 : lw_okq (⟨"ClassPoolsModel", "names", "(LClassPoolsModel$Attributes;)V"⟩, 17) := ⟨⟨by decide +kernel, by decide +kernel⟩, List.mem_of_getElem? (i := 877) (by decide +kernel), List.mem_of_getElem? (i := 1081) (by decide +kernel), List.mem_of_getElem? (i := 1082) (by decide +kernel)⟩
theorem lw_p36 : lw_okq (⟨"ClassPoolsModel", "sortOf", "(LClassPoolsModel$HeldFile;II)[B"⟩, 17) := ⟨⟨by decide +kernel, by decide +kernel⟩, List.mem_of_getElem? (i := 877) (by decide +kernel), List.mem_of_getElem? (i := 1085) (by decide +kernel), List.mem_of_getElem? (i := 1086) (by decide +kernel)⟩
theorem lw_p37 : lw_okq (⟨"ClassPoolsModel", "isFile", "(I)Z"⟩, 17) := ⟨⟨by decide +kernel, by decide +kernel⟩, List.mem_of_getElem? (i := 877) (by decide +kernel), List.mem_of_getElem? (i := 1188) (by decide +kernel), List.mem_of_getElem? (i := 1189) (by decide +kernel)⟩
theorem lw_p38 : lw_okq (⟨"ClassPoolsModel", "shows", "([B)I"⟩, 17) := ⟨⟨by decide +kernel, by decide +kernel⟩, List.mem_of_getElem? (i := 877) (by decide +kernel), List.mem_of_getElem? (i := 1222) (by decide +kernel), List.mem_of_getElem? (i := 1223) (by decide +kernel)⟩
theorem lw_p39 : lw_okq (⟨"ClassPoolsModel", "lay", "(LClassPoolsModel$HeldFile;[LClassPoolsModel$Meaning;I)I"⟩, 17) := ⟨⟨by decide +kernel, by decide +kernel⟩, List.mem_of_getElem? (i := 877) (by decide +kernel), List.mem_of_getElem? (i := 1249) (by decide +kernel), List.mem_of_getElem? (i := 1250) (by decide +kernel)⟩
theorem lw_p40 : lw_okq (⟨"ClassPoolsModel", "meaningOf", "(LClassPoolsModel$HeldFile;I)LClassPoolsModel$Meaning;"⟩, 17) := ⟨⟨by decide +kernel, by decide +kernel⟩, List.mem_of_getElem? (i := 877) (by decide +kernel), List.mem_of_getElem? (i := 1253) (by decide +kernel), List.mem_of_getElem? (i := 1254) (by decide +kernel)⟩
theorem lw_p41 : lw_okq (⟨"ClassPoolsModel", "isEntry", "(II)Z"⟩, 17) := ⟨⟨by decide +kernel, by decide +kernel⟩, List.mem_of_getElem? (i := 877) (by decide +kernel), List.mem_of_getElem? (i := 1297) (by decide +kernel), List.mem_of_getElem? (i := 1298) (by decide +kernel)⟩
theorem lw_p42 : lw_okq (⟨"ClassPoolsModel", "isAlike", "(LClassPoolsModel$HeldFile;LClassPoolsModel$HeldFile;)Z"⟩, 17) := ⟨⟨by decide +kernel, by decide +kernel⟩, List.mem_of_getElem? (i := 877) (by decide +kernel), List.mem_of_getElem? (i := 1310) (by decide +kernel), List.mem_of_getElem? (i := 1311) (by decide +kernel)⟩
theorem lw_p43 : lw_okq (⟨"ClassPoolsModel", "samePlace", "(LClassPoolsModel$HeldFile;ILClassPoolsModel$HeldFile;I)Z"⟩, 17) := ⟨⟨by decide +kernel, by decide +kernel⟩, List.mem_of_getElem? (i := 877) (by decide +kernel), List.mem_of_getElem? (i := 1314) (by decide +kernel), List.mem_of_getElem? (i := 1315) (by decide +kernel)⟩
theorem lw_p44 : lw_okq (⟨"ClassPoolsModel", "same", "(LClassPoolsModel$HeldFile;LClassPoolsModel$Attributes;LClassPoolsModel$HeldFile;LClassPoolsModel$Attributes;)Z"⟩, 17) := ⟨⟨by decide +kernel, by decide +kernel⟩, List.mem_of_getElem? (i := 877) (by decide +kernel), List.mem_of_getElem? (i := 1318) (by decide +kernel), List.mem_of_getElem? (i := 1319) (by decide +kernel)⟩
theorem lw_p45 : lw_okq (⟨"ClassPoolsModel", "sameBytes", "(LClassPoolsModel$HeldFile;ILClassPoolsModel$HeldFile;II)Z"⟩, 17) := ⟨⟨by decide +kernel, by decide +kernel⟩, List.mem_of_getElem? (i := 877) (by decide +kernel), List.mem_of_getElem? (i := 1322) (by decide +kernel), List.mem_of_getElem? (i := 1323) (by decide +kernel)⟩
theorem lw_p46 : lw_okq (⟨"ClassPoolsModel", "inOrder", "(LClassPoolsModel$HeldFile;)I"⟩, 17) := ⟨⟨by decide +kernel, by decide +kernel⟩, List.mem_of_getElem? (i := 877) (by decide +kernel), List.mem_of_getElem? (i := 1330) (by decide +kernel), List.mem_of_getElem? (i := 1331) (by decide +kernel)⟩
theorem lw_p47 : lw_okq (⟨"ClassPoolsModel", "addBytes", "([BII)V"⟩, 17) := ⟨⟨by decide +kernel, by decide +kernel⟩, List.mem_of_getElem? (i := 877) (by decide +kernel), List.mem_of_getElem? (i := 1334) (by decide +kernel), List.mem_of_getElem? (i := 1335) (by decide +kernel)⟩
def lw_privs_3 : List (MethodName × Nat) := [(⟨"ClassPoolsModel", "attributes", "()LClassPoolsModel$Attributes;"⟩, 17), (⟨"ClassPoolsModel", "places", "()V"⟩, 17), (⟨"ClassPoolsModel", "place", "(II)V"⟩, 17), (⟨"ClassPoolsModel", "names", "(LClassPoolsModel$Attributes;)V"⟩, 17), (⟨"ClassPoolsModel", "sortOf", "(LClassPoolsModel$HeldFile;II)[B"⟩, 17), (⟨"ClassPoolsModel", "isFile", "(I)Z"⟩, 17), (⟨"ClassPoolsModel", "shows", "([B)I"⟩, 17), (⟨"ClassPoolsModel", "lay", "(LClassPoolsModel$HeldFile;[LClassPoolsModel$Meaning;I)I"⟩, 17), (⟨"ClassPoolsModel", "meaningOf", "(LClassPoolsModel$HeldFile;I)LClassPoolsModel$Meaning;"⟩, 17), (⟨"ClassPoolsModel", "isEntry", "(II)Z"⟩, 17), (⟨"ClassPoolsModel", "isAlike", "(LClassPoolsModel$HeldFile;LClassPoolsModel$HeldFile;)Z"⟩, 17), (⟨"ClassPoolsModel", "samePlace", "(LClassPoolsModel$HeldFile;ILClassPoolsModel$HeldFile;I)Z"⟩, 17), (⟨"ClassPoolsModel", "same", "(LClassPoolsModel$HeldFile;LClassPoolsModel$Attributes;LClassPoolsModel$HeldFile;LClassPoolsModel$Attributes;)Z"⟩, 17), (⟨"ClassPoolsModel", "sameBytes", "(LClassPoolsModel$HeldFile;ILClassPoolsModel$HeldFile;II)Z"⟩, 17), (⟨"ClassPoolsModel", "inOrder", "(LClassPoolsModel$HeldFile;)I"⟩, 17), (⟨"ClassPoolsModel", "addBytes", "([BII)V"⟩, 17)]
theorem lw_r3 : ∀ q ∈ lw_privs_3, lw_okq q := List.forall_mem_cons.mpr ⟨lw_p32, List.forall_mem_cons.mpr ⟨lw_p33, List.forall_mem_cons.mpr ⟨lw_p34, List.forall_mem_cons.mpr ⟨lw_p35, List.forall_mem_cons.mpr ⟨lw_p36, List.forall_mem_cons.mpr ⟨lw_p37, List.forall_mem_cons.mpr ⟨lw_p38, List.forall_mem_cons.mpr ⟨lw_p39, List.forall_mem_cons.mpr ⟨lw_p40, List.forall_mem_cons.mpr ⟨lw_p41, List.forall_mem_cons.mpr ⟨lw_p42, List.forall_mem_cons.mpr ⟨lw_p43, List.forall_mem_cons.mpr ⟨lw_p44, List.forall_mem_cons.mpr ⟨lw_p45, List.forall_mem_cons.mpr ⟨lw_p46, List.forall_mem_cons.mpr ⟨lw_p47, fun _ h => absurd h List.not_mem_nil⟩⟩⟩⟩⟩⟩⟩⟩⟩⟩⟩⟩⟩⟩⟩⟩
theorem lw_p48 : lw_okq (⟨"ClassPoolsModel", "add", "(I)V"⟩, 17) := ⟨⟨by decide +kernel, by decide +kernel⟩, List.mem_of_getElem? (i := 877) (by decide +kernel), List.mem_of_getElem? (i := 1338) (by decide +kernel), List.mem_of_getElem? (i := 1339) (by decide +kernel)⟩
theorem lw_p49 : lw_okq (⟨"ClassPoolsModel", "addTwo", "(I)V"⟩, 17) := ⟨⟨by decide +kernel, by decide +kernel⟩, List.mem_of_getElem? (i := 877) (by decide +kernel), List.mem_of_getElem? (i := 1342) (by decide +kernel), List.mem_of_getElem? (i := 1343) (by decide +kernel)⟩
theorem lw_p50 : lw_okq (⟨"ClassPoolsModel", "addEntry", "(LClassPoolsModel$Meaning;)V"⟩, 17) := ⟨⟨by decide +kernel, by decide +kernel⟩, List.mem_of_getElem? (i := 877) (by decide +kernel), List.mem_of_getElem? (i := 1346) (by decide +kernel), List.mem_of_getElem? (i := 1347) (by decide +kernel)⟩
theorem lw_p51 : lw_okq (⟨"ClassPoolsModel", "addFour", "(I)V"⟩, 17) := ⟨⟨by decide +kernel, by decide +kernel⟩, List.mem_of_getElem? (i := 877) (by decide +kernel), List.mem_of_getElem? (i := 1351) (by decide +kernel), List.mem_of_getElem? (i := 1352) (by decide +kernel)⟩
theorem lw_p52 : lw_okq (⟨"ClassPoolsModel", "placeOf", "(I[B[B)I"⟩, 17) := ⟨⟨by decide +kernel, by decide +kernel⟩, List.mem_of_getElem? (i := 877) (by decide +kernel), List.mem_of_getElem? (i := 1355) (by decide +kernel), List.mem_of_getElem? (i := 1356) (by decide +kernel)⟩
theorem lw_p53 : lw_okq (⟨"ClassPoolsModel", "moved", "(LClassPoolsModel$HeldFile;I)I"⟩, 17) := ⟨⟨by decide +kernel, by decide +kernel⟩, List.mem_of_getElem? (i := 877) (by decide +kernel), List.mem_of_getElem? (i := 1359) (by decide +kernel), List.mem_of_getElem? (i := 1360) (by decide +kernel)⟩
theorem lw_p54 : lw_okq (⟨"ClassPoolsModel", "addAttributes", "(LClassPoolsModel$HeldFile;LClassPoolsModel$Attributes;)V"⟩, 17) := ⟨⟨by decide +kernel, by decide +kernel⟩, List.mem_of_getElem? (i := 877) (by decide +kernel), List.mem_of_getElem? (i := 1363) (by decide +kernel), List.mem_of_getElem? (i := 1364) (by decide +kernel)⟩
def lw_privs_4 : List (MethodName × Nat) := [(⟨"ClassPoolsModel", "add", "(I)V"⟩, 17), (⟨"ClassPoolsModel", "addTwo", "(I)V"⟩, 17), (⟨"ClassPoolsModel", "addEntry", "(LClassPoolsModel$Meaning;)V"⟩, 17), (⟨"ClassPoolsModel", "addFour", "(I)V"⟩, 17), (⟨"ClassPoolsModel", "placeOf", "(I[B[B)I"⟩, 17), (⟨"ClassPoolsModel", "moved", "(LClassPoolsModel$HeldFile;I)I"⟩, 17), (⟨"ClassPoolsModel", "addAttributes", "(LClassPoolsModel$HeldFile;LClassPoolsModel$Attributes;)V"⟩, 17)]
theorem lw_r4 : ∀ q ∈ lw_privs_4, lw_okq q := List.forall_mem_cons.mpr ⟨lw_p48, List.forall_mem_cons.mpr ⟨lw_p49, List.forall_mem_cons.mpr ⟨lw_p50, List.forall_mem_cons.mpr ⟨lw_p51, List.forall_mem_cons.mpr ⟨lw_p52, List.forall_mem_cons.mpr ⟨lw_p53, List.forall_mem_cons.mpr ⟨lw_p54, fun _ h => absurd h List.not_mem_nil⟩⟩⟩⟩⟩⟩⟩
def lw_privs : List (MethodName × Nat) := lw_privs_1 ++ (lw_privs_2 ++ (lw_privs_3 ++ (lw_privs_4)))
def lw_tbl : List Cond := k2_sels lw_privs ++ tables_1
theorem lw_privs_ok : ∀ q ∈ lw_privs, lw_okq q := by
  show ∀ q ∈ lw_privs_1 ++ (lw_privs_2 ++ (lw_privs_3 ++ (lw_privs_4))), lw_okq q
  exact List.forall_mem_append.mpr ⟨lw_r1, List.forall_mem_append.mpr ⟨lw_r2, List.forall_mem_append.mpr ⟨lw_r3, lw_r4⟩⟩⟩
theorem u01_end : True := trivial
end
section
/-! the abstract machine: cells by address, a step a function -/
abbrev Ce : Type := (Nat × vp_A) ⊕ (Nat × List Value)
abbrev Hp : Type := Nat × Nat × (Nat → Option (Bool × Ce))
abbrev hM (h : Hp) (a : Nat) : Option (Bool × Ce) := h.2.2 a
def hset (h : Hp) (a : Nat) (c : Ce) : Hp := (h.1, h.2.1, fun q => if q = a then some (true, c) else h.2.2 q)
def hnew (h : Hp) (k : Nat) (c : Ce) : Hp := (h.1 + 1, h.2.1 + k, fun q => if q = h.1 then some (true, c) else h.2.2 q)
def hskip (h : Hp) (n k : Nat) : Hp := (h.1 + n, h.2.1 + k, h.2.2)
def stw (st : List Value) : Nat := (st.map fun v => v.category).sum
abbrev Ls : Type := List (Option Value)
abbrev XStp : Type := (Nat × Ls × List Value × Hp) ⊕ (Option Value × Hp) ⊕ (Nat × List Value × Nat × Ls × List Value × Hp)
abbrev XOp : Type := Ls → List Value → Hp → Option XStp
abbrev Cd : Type := Nat → Option XOp
abbrev xgo (pc : Nat) (ls : Ls) (st : List Value) (h : Hp) : Option XStp := some (.inl (pc, ls, st, h))
def nd (k : Nat) (f g : Cd) : Cd := fun pc => cond (Nat.blt pc k) (f pc) (g pc)
def lf (k : Nat) (o : XOp) : Cd := fun pc => cond (Nat.beq pc k) (some o) none
def lget : Ls → Nat → Option Value
  | [], _ => none
  | x :: _, 0 => x
  | _ :: r, n + 1 => lget r n
def lclr (x : Option Value) : Option Value := match x with
  | some (.long _) => none
  | some (.double _) => none
  | y => y
def lset : Ls → Nat → Value → Ls
  | [], _, _ => []
  | _ :: r, 0, v => some v :: r
  | x :: r, 1, v => lclr x :: lset r 0 v
  | x :: r, n + 2, v => x :: lset r (n + 1) v
def lset2 : Ls → Nat → Value → Ls
  | [], _, _ => []
  | [_], 0, v => [some v]
  | _ :: _ :: r, 0, v => some v :: none :: r
  | x :: r, 1, v => lclr x :: lset2 r 0 v
  | x :: r, n + 2, v => x :: lset2 r (n + 1) v
/-- the arguments laid into locals -/
def lent : List Value → Ls
  | [] => []
  | .long v :: r => some (.long v) :: none :: lent r
  | .double v :: r => some (.double v) :: none :: lent r
  | v :: r => some v :: lent r
def lpad : Nat → Ls → Ls
  | 0, l => l
  | n + 1, [] => none :: lpad n []
  | n + 1, x :: l => x :: lpad n l
def o_il (k nx : Nat) : XOp := fun ls st h => match lget ls k with
  | some (.int x) => xgo nx ls (.int x :: st) h
  | _ => none
def o_ll (k nx : Nat) : XOp := fun ls st h => match lget ls k with
  | some (.long x) => xgo nx ls (.long x :: st) h
  | _ => none
def o_al (k nx : Nat) : XOp := fun ls st h => match lget ls k with
  | some (.ref x) => xgo nx ls (.ref x :: st) h
  | some .null => xgo nx ls (.null :: st) h
  | _ => none
def o_is (k nx : Nat) : XOp := fun ls st h => match st with
  | .int x :: r => xgo nx (lset ls k (.int x)) r h
  | _ => none
def o_ls (k nx : Nat) : XOp := fun ls st h => match st with
  | .long x :: r => xgo nx (lset2 ls k (.long x)) r h
  | _ => none
def o_as (k nx : Nat) : XOp := fun ls st h => match st with
  | .ref x :: r => xgo nx (lset ls k (.ref x)) r h
  | .null :: r => xgo nx (lset ls k .null) r h
  | _ => none
def o_inc (k : Nat) (n : Int32) (nx : Nat) : XOp := fun ls st h => match lget ls k with
  | some (.int x) => xgo nx (lset ls k (.int (x + n))) st h
  | _ => none
def o_ic (v : Int32) (nx : Nat) : XOp := fun ls st h => xgo nx ls (.int v :: st) h
def o_lc (v : Int64) (nx : Nat) : XOp := fun ls st h => xgo nx ls (.long v :: st) h
def o_nul (nx : Nat) : XOp := fun ls st h => xgo nx ls (.null :: st) h
def o_ref (a : Nat) (nx : Nat) : XOp := fun ls st h => xgo nx ls (.ref a :: st) h
def o_b (f : Int32 → Int32 → Int32) (nx : Nat) : XOp := fun ls st h => match st with
  | .int y :: .int x :: r => xgo nx ls (.int (f x y) :: r) h
  | _ => none
def o_iadd (nx : Nat) : XOp := o_b (fun x y => x + y) nx
def o_isub (nx : Nat) : XOp := o_b (fun x y => x - y) nx
def o_imul (nx : Nat) : XOp := o_b (fun x y => x * y) nx
def o_iand (nx : Nat) : XOp := o_b (fun x y => x &&& y) nx
def o_ior (nx : Nat) : XOp := o_b (fun x y => x ||| y) nx
def o_ishl (nx : Nat) : XOp := o_b (fun x y => x <<< (y &&& 31)) nx
def o_ishr (nx : Nat) : XOp := o_b (fun x y => x >>> (y &&& 31)) nx
def o_ineg (nx : Nat) : XOp := fun ls st h => match st with
  | .int x :: r => xgo nx ls (.int (-x) :: r) h
  | _ => none
def o_i2b (nx : Nat) : XOp := fun ls st h => match st with
  | .int x :: r => xgo nx ls (.int x.toInt8.toInt32 :: r) h
  | _ => none
def o_i2l (nx : Nat) : XOp := fun ls st h => match st with
  | .int x :: r => xgo nx ls (.long x.toInt64 :: r) h
  | _ => none
def o_l2i (nx : Nat) : XOp := fun ls st h => match st with
  | .long x :: r => xgo nx ls (.int x.toInt32 :: r) h
  | _ => none
def o_lb (f : Int64 → Int64 → Int64) (nx : Nat) : XOp := fun ls st h => match st with
  | .long y :: .long x :: r => xgo nx ls (.long (f x y) :: r) h
  | _ => none
def o_land (nx : Nat) : XOp := o_lb (fun x y => x &&& y) nx
def o_lor (nx : Nat) : XOp := o_lb (fun x y => x ||| y) nx
def o_lsh (f : Int64 → Int64 → Int64) (nx : Nat) : XOp := fun ls st h => match st with
  | .int y :: .long x :: r => xgo nx ls (.long (f x (y.toInt64 &&& 63)) :: r) h
  | _ => none
def o_lshl (nx : Nat) : XOp := o_lsh (fun x y => x <<< y) nx
def o_lshr (nx : Nat) : XOp := o_lsh (fun x y => x >>> y) nx

def o_lcmp (nx : Nat) : XOp := fun ls st h => match st with
  | .long y :: .long x :: r => xgo nx ls (.int (lg_cmp x y) :: r) h
  | _ => none
def o_dup (nx : Nat) : XOp := fun ls st h => match st with
  | .int x :: r => xgo nx ls (.int x :: .int x :: r) h
  | .ref x :: r => xgo nx ls (.ref x :: .ref x :: r) h
  | _ => none
def o_pop (nx : Nat) : XOp := fun ls st h => match st with
  | .int _ :: r => xgo nx ls r h
  | .ref _ :: r => xgo nx ls r h
  | _ => none
/-- a branch on the top, on the top two -/
def o_if (f : Int32 → Bool) (t nx : Nat) : XOp := fun ls st h => match st with
  | .int x :: r => xgo (cond (f x) t nx) ls r h
  | _ => none
def o_cmp (f : Int32 → Int32 → Bool) (t nx : Nat) : XOp := fun ls st h => match st with
  | .int y :: .int x :: r => xgo (cond (f x y) t nx) ls r h
  | _ => none
def o_ifeq (t nx : Nat) : XOp := o_if (fun x => decide (x = 0)) t nx
def o_ifne (t nx : Nat) : XOp := o_if (fun x => decide (¬ x = 0)) t nx
def o_iflt (t nx : Nat) : XOp := o_if (fun x => decide (x < 0)) t nx
def o_ifge (t nx : Nat) : XOp := o_if (fun x => decide (0 ≤ x)) t nx
def o_ifgt (t nx : Nat) : XOp := o_if (fun x => decide (0 < x)) t nx
def o_ifle (t nx : Nat) : XOp := o_if (fun x => decide (x ≤ 0)) t nx
def o_ceq (t nx : Nat) : XOp := o_cmp (fun x y => decide (x = y)) t nx
def o_cne (t nx : Nat) : XOp := o_cmp (fun x y => decide (¬ x = y)) t nx
def o_clt (t nx : Nat) : XOp := o_cmp (fun x y => decide (x < y)) t nx
def o_cge (t nx : Nat) : XOp := o_cmp (fun x y => decide (y ≤ x)) t nx
def o_cgt (t nx : Nat) : XOp := o_cmp (fun x y => decide (y < x)) t nx
def o_cle (t nx : Nat) : XOp := o_cmp (fun x y => decide (x ≤ y)) t nx
def o_ifn (t nx : Nat) : XOp := fun ls st h => match st with
  | .ref _ :: r => xgo nx ls r h
  | .null :: r => xgo t ls r h
  | _ => none
def o_ifnn (t nx : Nat) : XOp := fun ls st h => match st with
  | .ref _ :: r => xgo t ls r h
  | .null :: r => xgo nx ls r h
  | _ => none
def o_goto (t : Nat) : XOp := fun ls st h => xgo t ls st h
def o_swp (x : Int32) : List (Int32 × Nat) → Nat → Nat
  | [], d => d
  | (k, t) :: r, d => cond (decide (x = k)) t (o_swp x r d)
def o_sw (ps : List (Int32 × Nat)) (d : Nat) : XOp := fun ls st h => match st with
  | .int x :: r => xgo (o_swp x ps d) ls r h
  | _ => none
def o_getf (ci k nx : Nat) : XOp := fun ls st h => match st with
  | .ref a :: r => match h.2.2 a with
    | some (_, .inr (c, fs)) => cond (Nat.beq c ci) (match fs[k]? with
      | some v => xgo nx ls (v :: r) h
      | none => none) none
    | _ => none
  | _ => none
/-- what a field of a kind takes: 0 int, 1 long, 2 a reference -/
def o_ok (kd : Nat) (v : Value) : Bool := match v with
  | .int _ => Nat.beq kd 0
  | .long _ => Nat.beq kd 1
  | .ref _ => Nat.beq kd 2
  | .null => Nat.beq kd 2
  | _ => false
def o_putf (ci k kd nx : Nat) : XOp := fun ls st h => match st with
  | v :: .ref a :: r => match h.2.2 a with
    | some (true, .inr (c, fs)) => cond (Nat.beq c ci && o_ok kd v && Nat.blt k fs.length) (xgo nx ls r (hset h a (.inr (ci, fs.set k v)))) none
    | _ => none
  | _ => none
def o_alen (nx : Nat) : XOp := fun ls st h => match st with
  | .ref a :: r => match h.2.2 a with
    | some (_, .inl (k, n, _)) => cond (Nat.blt k 11) (xgo nx ls (.int (Int32.ofNat n) :: r) h) none
    | _ => none
  | _ => none
def inb (i : Int32) (n : Nat) : Bool := !(decide (i < 0)) && Nat.blt i.toNatClampNeg n
def o_iald (kd nx : Nat) : XOp := fun ls st h => match st with
  | .int i :: .ref a :: r => match h.2.2 a with
    | some (_, .inl (k, n, .inl f)) => cond (Nat.beq k kd && inb i n) (xgo nx ls (.int (f i.toNatClampNeg) :: r) h) none
    | _ => none
  | _ => none
def o_lald (nx : Nat) : XOp := fun ls st h => match st with
  | .int i :: .ref a :: r => match h.2.2 a with
    | some (_, .inl (k, n, .inr (.inl f))) => cond (Nat.beq k 2 && inb i n) (xgo nx ls (.long (f i.toNatClampNeg) :: r) h) none
    | _ => none
  | _ => none
def o_aald (nx : Nat) : XOp := fun ls st h => match st with
  | .int i :: .ref a :: r => match h.2.2 a with
    | some (_, .inl (k, n, .inr (.inr (.inr (.inr f))))) => cond (Nat.blt 2 k && Nat.blt k 11 && inb i n) (match f i.toNatClampNeg with
      | none => xgo nx ls (.null :: r) h
      | some q => xgo nx ls (.ref q :: r) h) none
    | _ => none
  | _ => none
def o_iast (nx : Nat) : XOp := fun ls st h => match st with
  | .int x :: .int i :: .ref a :: r => match h.2.2 a with
    | some (true, .inl (k, n, .inl f)) => cond (Nat.beq k 1 && inb i n) (xgo nx ls r (hset h a (.inl (1, n, .inl (upd f i.toNatClampNeg x))))) none
    | _ => none
  | _ => none
def o_bast (nx : Nat) : XOp := fun ls st h => match st with
  | .int x :: .int i :: .ref a :: r => match h.2.2 a with
    | some (true, .inl (k, n, .inl f)) => cond (Nat.beq k 0 && inb i n) (xgo nx ls r (hset h a (.inl (0, n, .inl (upd f i.toNatClampNeg x.toInt8.toInt32))))) none
    | _ => none
  | _ => none
def o_last (nx : Nat) : XOp := fun ls st h => match st with
  | .long x :: .int i :: .ref a :: r => match h.2.2 a with
    | some (true, .inl (k, n, .inr (.inl f))) => cond (Nat.beq k 2 && inb i n) (xgo nx ls r (hset h a (.inl (2, n, .inr (.inl (vp_updL f i.toNatClampNeg x)))))) none
    | _ => none
  | _ => none
/-- the kind of what a cell is: an array's kind doubled, the class of an object doubled and one -/
def kof (c : Ce) : Nat := match c with
  | .inl (k, _) => 2 * k
  | .inr (c, _) => 2 * c + 1
/-- a store of a reference into an array of kind kd whose elements are of kind ek -/
def o_aast (kd ek nx : Nat) : XOp := fun ls st h => match st with
  | .ref v :: .int i :: .ref a :: r => match h.2.2 a, h.2.2 v with
    | some (true, .inl (k, n, .inr (.inr (.inr (.inr f))))), some (_, c) => cond (Nat.beq k kd && inb i n && Nat.beq (kof c) ek) (xgo nx ls r (hset h a (.inl (kd, n, .inr (.inr (.inr (.inr (va_up f i.toNatClampNeg (some v))))))))) none
    | _, _ => none
  | .null :: .int i :: .ref a :: r => match h.2.2 a with
    | some (true, .inl (k, n, .inr (.inr (.inr (.inr f))))) => cond (Nat.beq k kd && inb i n) (xgo nx ls r (hset h a (.inl (kd, n, .inr (.inr (.inr (.inr (va_up f i.toNatClampNeg none)))))))) none
    | _ => none
  | _ => none
def o_new (ci N : Nat) (fs : List Value) (nx : Nat) : XOp := fun ls st h => xgo nx ls (.ref h.1 :: st) (hnew h N (.inr (ci, fs)))
def o_newi (kd nx : Nat) : XOp := fun ls st h => match st with
  | .int n :: r => cond (inb n 100000) (xgo nx ls (.ref h.1 :: r) (hnew h n.toNatClampNeg (.inl (kd, n.toNatClampNeg, .inl (fun _ => 0))))) none
  | _ => none
def o_newl (nx : Nat) : XOp := fun ls st h => match st with
  | .int n :: r => cond (inb n 100000) (xgo nx ls (.ref h.1 :: r) (hnew h n.toNatClampNeg (.inl (2, n.toNatClampNeg, .inr (.inl (fun _ => 0)))))) none
  | _ => none
def o_newq (kd nx : Nat) : XOp := fun ls st h => match st with
  | .int n :: r => cond (inb n 100000) (xgo nx ls (.ref h.1 :: r) (hnew h n.toNatClampNeg (.inl (kd, n.toNatClampNeg, .inr (.inr (.inr (.inr (fun _ => none)))))))) none
  | _ => none
/-- new int[n][k] -/
def hrow (k : Nat) (h : Hp) : Hp := hnew h k (.inl (1, k, .inl (fun _ => 0)))
def o_mna (nx : Nat) : XOp := fun ls st h => match st with
  | .int k :: .int n :: r => cond (decide (n = 2) && decide (k = 12)) (xgo nx ls (.ref h.1 :: r) (hrow 12 (hrow 12 (hnew h 2 (.inl (3, 2, .inr (.inr (.inr (.inr (fun i => if i < 2 then some (h.1 + 1 + i) else none)))))))))) none
  | _ => none
/-- System.arraycopy of bytes or ints -/
def o_acp (nx : Nat) : XOp := fun ls st h => match st with
  | .int n :: .int dp :: .ref d :: .int sp :: .ref a :: r => match h.2.2 a, h.2.2 d with
    | some (_, .inl (ka, na, .inl f)), some (true, .inl (kd, nd, .inl g)) =>
      cond (Nat.ble (stw r) 8 && Nat.beq ka kd && Nat.blt kd 2 && !(decide (n < 0)) && !(decide (sp < 0)) && !(decide (dp < 0)) && Nat.ble (sp.toNatClampNeg + n.toNatClampNeg) na && Nat.ble (dp.toNatClampNeg + n.toNatClampNeg) nd)
        (xgo nx ls r (hset h d (.inl (kd, nd, .inl (va_cpy f g sp.toNatClampNeg dp.toNatClampNeg n.toNatClampNeg))))) none
    | _, _ => none
  | _ => none
def o_pop0 (nx : Nat) : XOp := fun ls st h => match st with
  | .ref _ :: r => cond (Nat.ble (stw r) 8) (xgo nx ls r h) none
  | _ => none
def o_call (mid : Nat) (As : List Value) (nx : Nat) (ls : Ls) (r : List Value) (h : Hp) : Option XStp := cond (Nat.ble (stw r) 8) (some (.inr (.inr (mid, As, nx, ls, r, h)))) none
/-- a call of a static method of n arguments -/
def o_inv (mid n nx : Nat) : XOp := fun ls st h => cond (Nat.ble n st.length) (o_call mid (st.take n).reverse nx ls (st.drop n) h) none
/-- a call on an object whose class counts -/
def o_invV (mid ci n nx : Nat) : XOp := fun ls st h => match st.drop n with
  | .ref a :: r => match h.2.2 a with
    | some (_, .inr (c, _)) => cond (Nat.beq c ci && Nat.ble n st.length) (o_call mid (.ref a :: (st.take n).reverse) nx ls r h) none
    | _ => none
  | _ => none
/-- a constructor's call -/
def o_invI (mid n nx : Nat) : XOp := fun ls st h => match st.drop n with
  | .ref a :: r => cond (Nat.ble n st.length) (o_call mid (.ref a :: (st.take n).reverse) nx ls r h) none
  | _ => none
def o_ret (v : Option Value) (h : Hp) : Option XStp := some (.inr (.inl (v, h)))
def o_iret : XOp := fun _ st h => match st with
  | [.int x] => o_ret (some (.int x)) h
  | _ => none
def o_zret : XOp := fun _ st h => match st with
  | [.int x] => cond (decide (x = 0) || decide (x = 1)) (o_ret (some (.int x)) h) none
  | _ => none
def o_lret : XOp := fun _ st h => match st with
  | [.long x] => o_ret (some (.long x)) h
  | _ => none
def o_aret : XOp := fun _ st h => match st with
  | [.ref x] => o_ret (some (.ref x)) h
  | [.null] => o_ret (some .null) h
  | _ => none
def o_vret : XOp := fun _ st h => match st with
  | [] => o_ret none h
  | _ => none
/-- throw new E(text): the kind of E, told as an int, its cell's slots -/
def o_thr (kd : Int32) (sl : Nat) : XOp := fun _ _ h => some (.inr (.inl (some (.int kd), hskip h 1 sl)))
/-- a program: code, how many locals; a method by its number -/
abbrev Pg : Type := Nat → Cd × Nat
def hle (h h' : Hp) : Bool := Nat.ble h.1 h'.1 && Nat.ble h.2.1 h'.2.1
def xexec (P : Pg) : Nat → Cd → Nat → Ls → List Value → Hp → Option (Option Value × Hp)
  | 0, _, _, _, _, _ => none
  | f + 1, cd, pc, ls, st, h => match cd pc with
    | none => none
    | some o => match o ls st h with
      | none => none
      | some (.inl (pc', ls', st', h')) => cond (hle h h') (xexec P f cd pc' ls' st' h') none
      | some (.inr (.inl (v, h'))) => cond (hle h h') (some (v, h')) none
      | some (.inr (.inr (mid, As, pc', ls', st', h'))) => cond (hle h h' && Nat.ble (lent As).length (P mid).2) (match xexec P f (P mid).1 0 (lpad (P mid).2 (lent As)) [] h' with
        | some (v, h2) => xexec P f cd pc' ls' (v.toList ++ st') h2
        | none => none) none
end
section
/-! names: classes, fields, methods -/
def RX0 : String := "ClassPools$ClassFile"
def TX0 : u_T := fun k => match k with
  | 0 => ("ClassPools$ClassFile", "pool", "LClassPools$Pool;", true)
  | 1 => ("ClassPools$ClassFile", "row", "LClassPools$Row;", true)
  | 2 => ("ClassPools$ClassFile", "behind", "I", false)
  | 3 => ("ClassPools$ClassFile", "attributesAt", "I", false)
  | 4 => ("ClassPools$ClassFile", "memberStarts", "[[I", true)
  | 5 => ("ClassPools$ClassFile", "memberCounts", "[I", true)
  | 6 => ("ClassPools$ClassFile", "tells", "[I", true)
  | 7 => ("ClassPools$ClassFile", "wants", "[I", true)
  | _ => ("ClassPools$ClassFile", "tellCount", "I", false)
def tyX0 : Nat → FieldType := fun k => match k with
  | 0 => .object "ClassPools$Pool"
  | 1 => .object "ClassPools$Row"
  | 2 => .int
  | 3 => .int
  | 4 => .array (.array .int)
  | 5 => .array .int
  | 6 => .array .int
  | 7 => .array .int
  | _ => .int
abbrev wsX00 : List Cond := u_ws RX0 TX0 9
theorem nmX0 : ∀ a, a < 9 → ∀ b, b < 9 → a ≠ b → (TX0 a).2.1 ≠ (TX0 b).2.1 := by decide +kernel
theorem tyX0_ok : ∀ k, k < 9 → parseFieldDescriptor (TX0 k).2.2.1 = some (tyX0 k) := by decide +kernel
abbrev cX0_init : ByteArray := prog_2_method_1_code
def yX0_init : MethodName := ⟨RX0, "<init>", "()V"⟩
abbrev cX0_begin : ByteArray := prog_2_method_2_code
def yX0_begin : MethodName := ⟨RX0, "begin", "(LClassPools$Row;)V"⟩
abbrev cX0_addTell : ByteArray := prog_2_method_3_code
def yX0_addTell : MethodName := ⟨RX0, "addTell", "(II)V"⟩
abbrev cX0_tellCount : ByteArray := prog_2_method_4_code
def yX0_tellCount : MethodName := ⟨RX0, "tellCount", "()I"⟩
abbrev cX0_tellAt : ByteArray := prog_2_method_5_code
def yX0_tellAt : MethodName := ⟨RX0, "tellAt", "(I)I"⟩
abbrev cX0_wanted : ByteArray := prog_2_method_6_code
def yX0_wanted : MethodName := ⟨RX0, "wanted", "(I)I"⟩
abbrev cX0_firstBehind : ByteArray := prog_2_method_7_code
def yX0_firstBehind : MethodName := ⟨RX0, "firstBehind", "()I"⟩
abbrev cX0_addMember : ByteArray := prog_2_method_8_code
def yX0_addMember : MethodName := ⟨RX0, "addMember", "(II)V"⟩
abbrev cX0_members : ByteArray := prog_2_method_9_code
def yX0_members : MethodName := ⟨RX0, "members", "(I)I"⟩
abbrev cX0_memberAt : ByteArray := prog_2_method_10_code
def yX0_memberAt : MethodName := ⟨RX0, "memberAt", "(II)I"⟩
abbrev cX0_faces : ByteArray := prog_2_method_11_code
def yX0_faces : MethodName := ⟨RX0, "faces", "()I"⟩
abbrev cX0_classPlace : ByteArray := prog_2_method_12_code
def yX0_classPlace : MethodName := ⟨RX0, "classPlace", "(I)I"⟩
abbrev cX0_attributesOf : ByteArray := prog_2_method_13_code
def yX0_attributesOf : MethodName := ⟨RX0, "attributesOf", "(II)I"⟩
abbrev cX0_attributeAt : ByteArray := prog_2_method_14_code
def yX0_attributeAt : MethodName := ⟨RX0, "attributeAt", "(III)I"⟩
abbrev cX0_meansAs : ByteArray := prog_2_method_15_code
def yX0_meansAs : MethodName := ⟨RX0, "meansAs", "(LClassPools$ClassFile;)Z"⟩
def RX1 : String := "ClassPools$Pool"
def TX1 : u_T := fun k => match k with
  | 0 => ("ClassPools$Pool", "row", "LClassPools$Row;", true)
  | 1 => ("ClassPools$Pool", "starts", "[I", true)
  | _ => ("ClassPools$Pool", "places", "I", false)
def tyX1 : Nat → FieldType := fun k => match k with
  | 0 => .object "ClassPools$Row"
  | 1 => .array .int
  | _ => .int
abbrev wsX10 : List Cond := u_ws RX1 TX1 3
theorem nmX1 : ∀ a, a < 3 → ∀ b, b < 3 → a ≠ b → (TX1 a).2.1 ≠ (TX1 b).2.1 := by decide +kernel
theorem tyX1_ok : ∀ k, k < 3 → parseFieldDescriptor (TX1 k).2.2.1 = some (tyX1 k) := by decide +kernel
abbrev cX1_init : ByteArray := prog_3_method_1_code
def yX1_init : MethodName := ⟨RX1, "<init>", "()V"⟩
abbrev cX1_places : ByteArray := prog_3_method_2_code
def yX1_places : MethodName := ⟨RX1, "places", "()I"⟩
abbrev cX1_has : ByteArray := prog_3_method_3_code
def yX1_has : MethodName := ⟨RX1, "has", "(I)Z"⟩
abbrev cX1_begin : ByteArray := prog_3_method_4_code
def yX1_begin : MethodName := ⟨RX1, "begin", "(I)V"⟩
abbrev cX1_set : ByteArray := prog_3_method_5_code
def yX1_set : MethodName := ⟨RX1, "set", "(II)V"⟩
abbrev cX1_copy : ByteArray := prog_3_method_6_code
def yX1_copy : MethodName := ⟨RX1, "copy", "(LClassPools$Pool;)V"⟩
abbrev cX1_start : ByteArray := prog_3_method_7_code
def yX1_start : MethodName := ⟨RX1, "start", "(I)I"⟩
abbrev cX1_tag : ByteArray := prog_3_method_8_code
def yX1_tag : MethodName := ⟨RX1, "tag", "(I)I"⟩
abbrev cX1_twoOf : ByteArray := prog_3_method_9_code
def yX1_twoOf : MethodName := ⟨RX1, "twoOf", "(II)I"⟩
abbrev cX1_first : ByteArray := prog_3_method_10_code
def yX1_first : MethodName := ⟨RX1, "first", "(I)I"⟩
abbrev cX1_second : ByteArray := prog_3_method_11_code
def yX1_second : MethodName := ⟨RX1, "second", "(I)I"⟩
abbrev cX1_textAt : ByteArray := prog_3_method_12_code
def yX1_textAt : MethodName := ⟨RX1, "textAt", "(I)I"⟩
abbrev cX1_textSize : ByteArray := prog_3_method_13_code
def yX1_textSize : MethodName := ⟨RX1, "textSize", "(I)I"⟩
abbrev cX1_bits : ByteArray := prog_3_method_14_code
def yX1_bits : MethodName := ⟨RX1, "bits", "(I)J"⟩
abbrev cX1_bytesOf : ByteArray := prog_3_method_15_code
def yX1_bytesOf : MethodName := ⟨RX1, "bytesOf", "(I)I"⟩
abbrev cX1_wrong : ByteArray := prog_3_method_16_code
def yX1_wrong : MethodName := ⟨RX1, "wrong", "(II)I"⟩
abbrev cX1_textOf : ByteArray := prog_3_method_17_code
def yX1_textOf : MethodName := ⟨RX1, "textOf", "(II)I"⟩
abbrev cX1_order : ByteArray := prog_3_method_18_code
def yX1_order : MethodName := ⟨RX1, "order", "(ILClassPools$Pool;I)I"⟩
def RX2 : String := "ClassPools$Ranking"
def TX2 : u_T := fun k => match k with
  | 0 => ("ClassPools$Ranking", "pools", "[LClassPools$Pool;", true)
  | 1 => ("ClassPools$Ranking", "poolCount", "I", false)
  | 2 => ("ClassPools$Ranking", "owners", "[I", true)
  | 3 => ("ClassPools$Ranking", "places", "[I", true)
  | _ => ("ClassPools$Ranking", "size", "I", false)
def tyX2 : Nat → FieldType := fun k => match k with
  | 0 => .array (.object "ClassPools$Pool")
  | 1 => .int
  | 2 => .array .int
  | 3 => .array .int
  | _ => .int
abbrev wsX20 : List Cond := u_ws RX2 TX2 5
theorem nmX2 : ∀ a, a < 5 → ∀ b, b < 5 → a ≠ b → (TX2 a).2.1 ≠ (TX2 b).2.1 := by decide +kernel
theorem tyX2_ok : ∀ k, k < 5 → parseFieldDescriptor (TX2 k).2.2.1 = some (tyX2 k) := by decide +kernel
abbrev cX2_init : ByteArray := prog_4_method_1_code
def yX2_init : MethodName := ⟨RX2, "<init>", "()V"⟩
abbrev cX2_clear : ByteArray := prog_4_method_2_code
def yX2_clear : MethodName := ⟨RX2, "clear", "()V"⟩
abbrev cX2_size : ByteArray := prog_4_method_3_code
def yX2_size : MethodName := ⟨RX2, "size", "()I"⟩
abbrev cX2_add : ByteArray := prog_4_method_4_code
def yX2_add : MethodName := ⟨RX2, "add", "(LClassPools$Pool;)Z"⟩
abbrev cX2_insert : ByteArray := prog_4_method_5_code
def yX2_insert : MethodName := ⟨RX2, "insert", "(II)Z"⟩
abbrev cX2_find : ByteArray := prog_4_method_6_code
def yX2_find : MethodName := ⟨RX2, "find", "(LClassPools$Pool;I)I"⟩
abbrev cX2_firstNotBelow : ByteArray := prog_4_method_7_code
def yX2_firstNotBelow : MethodName := ⟨RX2, "firstNotBelow", "(LClassPools$Pool;I)I"⟩
abbrev cX2_orderOf : ByteArray := prog_4_method_8_code
def yX2_orderOf : MethodName := ⟨RX2, "orderOf", "(ILClassPools$Pool;I)I"⟩
abbrev cX2_poolOf : ByteArray := prog_4_method_9_code
def yX2_poolOf : MethodName := ⟨RX2, "poolOf", "(I)LClassPools$Pool;"⟩
abbrev cX2_placeOf : ByteArray := prog_4_method_10_code
def yX2_placeOf : MethodName := ⟨RX2, "placeOf", "(I)I"⟩
abbrev cX2_tag : ByteArray := prog_4_method_11_code
def yX2_tag : MethodName := ⟨RX2, "tag", "(I)I"⟩
abbrev cX2_tally : ByteArray := prog_4_method_12_code
def yX2_tally : MethodName := ⟨RX2, "tally", "(ILClassPools$Pool;)I"⟩
def RX3 : String := "ClassPools$Reader"
def TX3 : u_T := fun k => match k with
  | 0 => ("ClassPools$Reader", "fault", "I", false)
  | 1 => ("ClassPools$Reader", "where", "I", false)
  | 2 => ("ClassPools$Reader", "file", "LClassPools$ClassFile;", true)
  | 3 => ("ClassPools$Reader", "row", "LClassPools$Row;", true)
  | _ => ("ClassPools$Reader", "at", "I", false)
def tyX3 : Nat → FieldType := fun k => match k with
  | 0 => .int
  | 1 => .int
  | 2 => .object "ClassPools$ClassFile"
  | 3 => .object "ClassPools$Row"
  | _ => .int
abbrev wsX30 : List Cond := u_ws RX3 TX3 5
theorem nmX3 : ∀ a, a < 5 → ∀ b, b < 5 → a ≠ b → (TX3 a).2.1 ≠ (TX3 b).2.1 := by decide +kernel
theorem tyX3_ok : ∀ k, k < 5 → parseFieldDescriptor (TX3 k).2.2.1 = some (tyX3 k) := by decide +kernel
abbrev cX3_init : ByteArray := prog_5_method_1_code
def yX3_init : MethodName := ⟨RX3, "<init>", "(LClassPools$ClassFile;)V"⟩
abbrev cX3_fail : ByteArray := prog_5_method_2_code
def yX3_fail : MethodName := ⟨RX3, "fail", "(II)V"⟩
abbrev cX3_scan : ByteArray := prog_5_method_3_code
def yX3_scan : MethodName := ⟨RX3, "scan", "()V"⟩
abbrev cX3_skip : ByteArray := prog_5_method_4_code
def yX3_skip : MethodName := ⟨RX3, "skip", "(I)V"⟩
abbrev cX3_tell : ByteArray := prog_5_method_5_code
def yX3_tell : MethodName := ⟨RX3, "tell", "(I)V"⟩
abbrev cX3_two : ByteArray := prog_5_method_6_code
def yX3_two : MethodName := ⟨RX3, "two", "()I"⟩
abbrev cX3_many : ByteArray := prog_5_method_7_code
def yX3_many : MethodName := ⟨RX3, "many", "(I)I"⟩
abbrev cX3_magic : ByteArray := prog_5_method_8_code
def yX3_magic : MethodName := ⟨RX3, "magic", "()V"⟩
abbrev cX3_entries : ByteArray := prog_5_method_9_code
def yX3_entries : MethodName := ⟨RX3, "entries", "()V"⟩
abbrev cX3_anEntry : ByteArray := prog_5_method_10_code
def yX3_anEntry : MethodName := ⟨RX3, "anEntry", "(Z)V"⟩
abbrev cX3_classAbove : ByteArray := prog_5_method_11_code
def yX3_classAbove : MethodName := ⟨RX3, "classAbove", "()V"⟩
abbrev cX3_members : ByteArray := prog_5_method_12_code
def yX3_members : MethodName := ⟨RX3, "members", "(I)V"⟩
abbrev cX3_attributes : ByteArray := prog_5_method_13_code
def yX3_attributes : MethodName := ⟨RX3, "attributes", "()V"⟩
abbrev cX3_checkTells : ByteArray := prog_5_method_14_code
def yX3_checkTells : MethodName := ⟨RX3, "checkTells", "()V"⟩
abbrev cX3_checkSorts : ByteArray := prog_5_method_15_code
def yX3_checkSorts : MethodName := ⟨RX3, "checkSorts", "(I)V"⟩
def RX4 : String := "ClassPools$Row"
def TX4 : u_T := fun k => match k with
  | 0 => ("ClassPools$Row", "bytes", "[B", true)
  | _ => ("ClassPools$Row", "size", "I", false)
def tyX4 : Nat → FieldType := fun k => match k with
  | 0 => .array .byte
  | _ => .int
abbrev wsX40 : List Cond := u_ws RX4 TX4 2
theorem nmX4 : ∀ a, a < 2 → ∀ b, b < 2 → a ≠ b → (TX4 a).2.1 ≠ (TX4 b).2.1 := by decide +kernel
theorem tyX4_ok : ∀ k, k < 2 → parseFieldDescriptor (TX4 k).2.2.1 = some (tyX4 k) := by decide +kernel
abbrev cX4_init : ByteArray := prog_6_method_1_code
def yX4_init : MethodName := ⟨RX4, "<init>", "()V"⟩
abbrev cX4_size : ByteArray := prog_6_method_2_code
def yX4_size : MethodName := ⟨RX4, "size", "()I"⟩
abbrev cX4_has : ByteArray := prog_6_method_3_code
def yX4_has : MethodName := ⟨RX4, "has", "(II)Z"⟩
abbrev cX4_one : ByteArray := prog_6_method_4_code
def yX4_one : MethodName := ⟨RX4, "one", "(I)I"⟩
abbrev cX4_two : ByteArray := prog_6_method_5_code
def yX4_two : MethodName := ⟨RX4, "two", "(I)I"⟩
abbrev cX4_four : ByteArray := prog_6_method_6_code
def yX4_four : MethodName := ⟨RX4, "four", "(I)I"⟩
abbrev cX4_clear : ByteArray := prog_6_method_7_code
def yX4_clear : MethodName := ⟨RX4, "clear", "()V"⟩
abbrev cX4_push : ByteArray := prog_6_method_8_code
def yX4_push : MethodName := ⟨RX4, "push", "(I)V"⟩
abbrev cX4_pushTwo : ByteArray := prog_6_method_9_code
def yX4_pushTwo : MethodName := ⟨RX4, "pushTwo", "(I)V"⟩
abbrev cX4_putTwo : ByteArray := prog_6_method_10_code
def yX4_putTwo : MethodName := ⟨RX4, "putTwo", "(II)V"⟩
abbrev cX4_append : ByteArray := prog_6_method_11_code
def yX4_append : MethodName := ⟨RX4, "append", "(LClassPools$Row;II)V"⟩
abbrev cX4_take : ByteArray := prog_6_method_12_code
def yX4_take : MethodName := ⟨RX4, "take", "(LClassPools$Row;II)I"⟩
abbrev cX4_order : ByteArray := prog_6_method_13_code
def yX4_order : MethodName := ⟨RX4, "order", "(IILClassPools$Row;II)I"⟩
def RX5 : String := "ClassPools$Sorts"
def TX5 : u_T := fun k => match k with
  | _ => ("", "", "", false)
def tyX5 : Nat → FieldType := fun k => match k with
  | _ => .int
abbrev wsX50 : List Cond := u_ws RX5 TX5 0
theorem nmX5 : ∀ a, a < 0 → ∀ b, b < 0 → a ≠ b → (TX5 a).2.1 ≠ (TX5 b).2.1 := by decide +kernel
theorem tyX5_ok : ∀ k, k < 0 → parseFieldDescriptor (TX5 k).2.2.1 = some (tyX5 k) := by decide +kernel
abbrev cX5_isType : ByteArray := prog_7_method_2_code
def yX5_isType : MethodName := ⟨RX5, "isType", "(LClassPools$Row;II)Z"⟩
abbrev cX5_isMethod : ByteArray := prog_7_method_3_code
def yX5_isMethod : MethodName := ⟨RX5, "isMethod", "(LClassPools$Row;II)Z"⟩
abbrev cX5_width : ByteArray := prog_7_method_4_code
def yX5_width : MethodName := ⟨RX5, "width", "(LClassPools$Row;I)I"⟩
abbrev cX5_sum : ByteArray := prog_7_method_5_code
def yX5_sum : MethodName := ⟨RX5, "sum", "(LClassPools$Row;IIZ)I"⟩
abbrev cX5_closing : ByteArray := prog_7_method_6_code
def yX5_closing : MethodName := ⟨RX5, "closing", "(LClassPools$Row;II)I"⟩
abbrev cX5_typeEnd : ByteArray := prog_7_method_7_code
def yX5_typeEnd : MethodName := ⟨RX5, "typeEnd", "(LClassPools$Row;II)I"⟩
abbrev cX5_nameEnd : ByteArray := prog_7_method_8_code
def yX5_nameEnd : MethodName := ⟨RX5, "nameEnd", "(LClassPools$Row;II)I"⟩
def RX6 : String := "ClassPools$Writer"
def TX6 : u_T := fun k => match k with
  | 0 => ("ClassPools$Writer", "row", "LClassPools$Row;", true)
  | 1 => ("ClassPools$Writer", "heads", "[I", true)
  | _ => ("ClassPools$Writer", "moved", "[I", true)
def tyX6 : Nat → FieldType := fun k => match k with
  | 0 => .object "ClassPools$Row"
  | 1 => .array .int
  | _ => .array .int
abbrev wsX60 : List Cond := u_ws RX6 TX6 3
theorem nmX6 : ∀ a, a < 3 → ∀ b, b < 3 → a ≠ b → (TX6 a).2.1 ≠ (TX6 b).2.1 := by decide +kernel
theorem tyX6_ok : ∀ k, k < 3 → parseFieldDescriptor (TX6 k).2.2.1 = some (tyX6 k) := by decide +kernel
abbrev cX6_init : ByteArray := prog_8_method_1_code
def yX6_init : MethodName := ⟨RX6, "<init>", "(LClassPools$Row;)V"⟩
abbrev cX6_movePlaces : ByteArray := prog_8_method_2_code
def yX6_movePlaces : MethodName := ⟨RX6, "movePlaces", "(LClassPools$ClassFile;LClassPools$Ranking;)I"⟩
abbrev cX6_push : ByteArray := prog_8_method_3_code
def yX6_push : MethodName := ⟨RX6, "push", "(LClassPools$ClassFile;LClassPools$Ranking;I)I"⟩
abbrev cX6_movedTo : ByteArray := prog_8_method_4_code
def yX6_movedTo : MethodName := ⟨RX6, "movedTo", "(I)I"⟩
abbrev cX6_pushEntry : ByteArray := prog_8_method_5_code
def yX6_pushEntry : MethodName := ⟨RX6, "pushEntry", "(LClassPools$Pool;I)V"⟩
abbrev cX6_pushRest : ByteArray := prog_8_method_6_code
def yX6_pushRest : MethodName := ⟨RX6, "pushRest", "(LClassPools$ClassFile;)V"⟩
def RX7 : String := "ClassPools"
def TX7 : u_T := fun k => match k with
  | 0 => ("ClassPools", "tape", "LClassPools$Row;", true)
  | 1 => ("ClassPools", "shown", "LClassPools$Row;", true)
  | 2 => ("ClassPools", "files", "[LClassPools$ClassFile;", true)
  | 3 => ("ClassPools", "count", "I", false)
  | 4 => ("ClassPools", "faultPlace", "I", false)
  | 5 => ("ClassPools", "reckoned", "LClassPools$Ranking;", false)
  | 6 => ("ClassPools", "trial", "LClassPools$Ranking;", false)
  | _ => ("ClassPools", "writer", "LClassPools$Writer;", true)
def tyX7 : Nat → FieldType := fun k => match k with
  | 0 => .object "ClassPools$Row"
  | 1 => .object "ClassPools$Row"
  | 2 => .array (.object "ClassPools$ClassFile")
  | 3 => .int
  | 4 => .int
  | 5 => .object "ClassPools$Ranking"
  | 6 => .object "ClassPools$Ranking"
  | _ => .object "ClassPools$Writer"
abbrev wsX70 : List Cond := u_ws RX7 TX7 8
theorem nmX7 : ∀ a, a < 8 → ∀ b, b < 8 → a ≠ b → (TX7 a).2.1 ≠ (TX7 b).2.1 := by decide +kernel
theorem tyX7_ok : ∀ k, k < 8 → parseFieldDescriptor (TX7 k).2.2.1 = some (tyX7 k) := by decide +kernel
abbrev cX7_init : ByteArray := prog_1_method_1_code
def yX7_init : MethodName := ⟨RX7, "<init>", "()V"⟩
abbrev cX7_feed : ByteArray := prog_1_method_2_code
def yX7_feed : MethodName := ⟨RX7, "feed", "(JI)I"⟩
abbrev cX7_read : ByteArray := prog_1_method_3_code
def yX7_read : MethodName := ⟨RX7, "read", "()I"⟩
abbrev cX7_place : ByteArray := prog_1_method_4_code
def yX7_place : MethodName := ⟨RX7, "place", "()I"⟩
abbrev cX7_drop : ByteArray := prog_1_method_5_code
def yX7_drop : MethodName := ⟨RX7, "drop", "(I)I"⟩
abbrev cX7_file : ByteArray := prog_1_method_6_code
def yX7_file : MethodName := ⟨RX7, "file", "(II)I"⟩
abbrev cX7_entry : ByteArray := prog_1_method_7_code
def yX7_entry : MethodName := ⟨RX7, "entry", "(III)I"⟩
abbrev cX7_number : ByteArray := prog_1_method_8_code
def yX7_number : MethodName := ⟨RX7, "number", "(II)J"⟩
abbrev cX7_text : ByteArray := prog_1_method_9_code
def yX7_text : MethodName := ⟨RX7, "text", "(III)I"⟩
abbrev cX7_member : ByteArray := prog_1_method_10_code
def yX7_member : MethodName := ⟨RX7, "member", "(IIII)I"⟩
abbrev cX7_told : ByteArray := prog_1_method_11_code
def yX7_told : MethodName := ⟨RX7, "told", "(IIII)I"⟩
abbrev cX7_attribute : ByteArray := prog_1_method_12_code
def yX7_attribute : MethodName := ⟨RX7, "attribute", "(IIIII)I"⟩
abbrev cX7_out : ByteArray := prog_1_method_13_code
def yX7_out : MethodName := ⟨RX7, "out", "(I)I"⟩
abbrev cX7_join : ByteArray := prog_1_method_14_code
def yX7_join : MethodName := ⟨RX7, "join", "()I"⟩
abbrev cX7_joined : ByteArray := prog_1_method_15_code
def yX7_joined : MethodName := ⟨RX7, "joined", "(II)I"⟩
abbrev cX7_meaning : ByteArray := prog_1_method_16_code
def yX7_meaning : MethodName := ⟨RX7, "meaning", "(II)I"⟩
abbrev cX7_alike : ByteArray := prog_1_method_17_code
def yX7_alike : MethodName := ⟨RX7, "alike", "(II)I"⟩
abbrev cX7_write : ByteArray := prog_1_method_18_code
def yX7_write : MethodName := ⟨RX7, "write", "(II)I"⟩
abbrev cX7_back : ByteArray := prog_1_method_19_code
def yX7_back : MethodName := ⟨RX7, "back", "()I"⟩
abbrev cX7_fileAt : ByteArray := prog_1_method_20_code
def yX7_fileAt : MethodName := ⟨RX7, "fileAt", "(I)LClassPools$ClassFile;"⟩
abbrev cX7_showText : ByteArray := prog_1_method_21_code
def yX7_showText : MethodName := ⟨RX7, "showText", "(LClassPools$ClassFile;I)I"⟩
abbrev cX7_showClass : ByteArray := prog_1_method_22_code
def yX7_showClass : MethodName := ⟨RX7, "showClass", "(LClassPools$ClassFile;II)I"⟩
abbrev cX7_placesOf : ByteArray := prog_1_method_23_code
def yX7_placesOf : MethodName := ⟨RX7, "placesOf", "(I)I"⟩
abbrev cX7_isNumber : ByteArray := prog_1_method_24_code
def yX7_isNumber : MethodName := ⟨RX7, "isNumber", "(I)Z"⟩
abbrev cX7_isWide : ByteArray := prog_1_method_25_code
def yX7_isWide : MethodName := ⟨RX7, "isWide", "(I)Z"⟩
abbrev cX7_isTag : ByteArray := prog_1_method_26_code
def yX7_isTag : MethodName := ⟨RX7, "isTag", "(I)Z"⟩
def RX8 : String := "ClassPoolsModel$Attributes"
def TX8 : u_T := fun k => match k with
  | 0 => ("ClassPoolsModel$Attributes", "count", "I", false)
  | _ => ("ClassPoolsModel$Attributes", "at", "[I", true)
def tyX8 : Nat → FieldType := fun k => match k with
  | 0 => .int
  | _ => .array .int
abbrev wsX80 : List Cond := u_ws RX8 TX8 2
theorem nmX8 : ∀ a, a < 2 → ∀ b, b < 2 → a ≠ b → (TX8 a).2.1 ≠ (TX8 b).2.1 := by decide +kernel
theorem tyX8_ok : ∀ k, k < 2 → parseFieldDescriptor (TX8 k).2.2.1 = some (tyX8 k) := by decide +kernel
abbrev cX8_init : ByteArray := prog_11_method_1_code
def yX8_init : MethodName := ⟨RX8, "<init>", "()V"⟩
def RX9 : String := "ClassPoolsModel$HeldFile"
def TX9 : u_T := fun k => match k with
  | 0 => ("ClassPoolsModel$HeldFile", "b", "[B", false)
  | 1 => ("ClassPoolsModel$HeldFile", "places", "I", false)
  | 2 => ("ClassPoolsModel$HeldFile", "tags", "[I", true)
  | 3 => ("ClassPoolsModel$HeldFile", "at", "[I", true)
  | 4 => ("ClassPoolsModel$HeldFile", "texts", "[[B", true)
  | 5 => ("ClassPoolsModel$HeldFile", "behind", "I", false)
  | 6 => ("ClassPoolsModel$HeldFile", "faces", "I", false)
  | 7 => ("ClassPoolsModel$HeldFile", "members", "[[LClassPoolsModel$Member;", true)
  | 8 => ("ClassPoolsModel$HeldFile", "counts", "[I", true)
  | _ => ("ClassPoolsModel$HeldFile", "own", "LClassPoolsModel$Attributes;", false)
def tyX9 : Nat → FieldType := fun k => match k with
  | 0 => .array .byte
  | 1 => .int
  | 2 => .array .int
  | 3 => .array .int
  | 4 => .array (.array .byte)
  | 5 => .int
  | 6 => .int
  | 7 => .array (.array (.object "ClassPoolsModel$Member"))
  | 8 => .array .int
  | _ => .object "ClassPoolsModel$Attributes"
abbrev wsX90 : List Cond := u_ws RX9 TX9 10
theorem nmX9 : ∀ a, a < 10 → ∀ b, b < 10 → a ≠ b → (TX9 a).2.1 ≠ (TX9 b).2.1 := by decide +kernel
theorem tyX9_ok : ∀ k, k < 10 → parseFieldDescriptor (TX9 k).2.2.1 = some (tyX9 k) := by decide +kernel
abbrev cX9_init : ByteArray := prog_12_method_1_code
def yX9_init : MethodName := ⟨RX9, "<init>", "()V"⟩
abbrev cX9_two : ByteArray := prog_12_method_2_code
def yX9_two : MethodName := ⟨RX9, "two", "(I)I"⟩
abbrev cX9_four : ByteArray := prog_12_method_3_code
def yX9_four : MethodName := ⟨RX9, "four", "(I)I"⟩
abbrev cX9_bits : ByteArray := prog_12_method_4_code
def yX9_bits : MethodName := ⟨RX9, "bits", "(I)J"⟩
abbrev cX9_first : ByteArray := prog_12_method_5_code
def yX9_first : MethodName := ⟨RX9, "first", "(I)I"⟩
abbrev cX9_second : ByteArray := prog_12_method_6_code
def yX9_second : MethodName := ⟨RX9, "second", "(I)I"⟩
def RX10 : String := "ClassPoolsModel$Meaning"
def TX10 : u_T := fun k => match k with
  | 0 => ("ClassPoolsModel$Meaning", "tag", "I", false)
  | 1 => ("ClassPoolsModel$Meaning", "bits", "J", false)
  | 2 => ("ClassPoolsModel$Meaning", "a", "[B", false)
  | 3 => ("ClassPoolsModel$Meaning", "b", "[B", false)
  | _ => ("ClassPoolsModel$Meaning", "c", "[B", false)
def tyX10 : Nat → FieldType := fun k => match k with
  | 0 => .int
  | 1 => .long
  | 2 => .array .byte
  | 3 => .array .byte
  | _ => .array .byte
abbrev wsX100 : List Cond := u_ws RX10 TX10 5
theorem nmX10 : ∀ a, a < 5 → ∀ b, b < 5 → a ≠ b → (TX10 a).2.1 ≠ (TX10 b).2.1 := by decide +kernel
theorem tyX10_ok : ∀ k, k < 5 → parseFieldDescriptor (TX10 k).2.2.1 = some (tyX10 k) := by decide +kernel
abbrev cX10_init : ByteArray := prog_13_method_1_code
def yX10_init : MethodName := ⟨RX10, "<init>", "()V"⟩
def RX11 : String := "ClassPoolsModel$Member"
def TX11 : u_T := fun k => match k with
  | 0 => ("ClassPoolsModel$Member", "at", "I", false)
  | _ => ("ClassPoolsModel$Member", "attributes", "LClassPoolsModel$Attributes;", false)
def tyX11 : Nat → FieldType := fun k => match k with
  | 0 => .int
  | _ => .object "ClassPoolsModel$Attributes"
abbrev wsX110 : List Cond := u_ws RX11 TX11 2
theorem nmX11 : ∀ a, a < 2 → ∀ b, b < 2 → a ≠ b → (TX11 a).2.1 ≠ (TX11 b).2.1 := by decide +kernel
theorem tyX11_ok : ∀ k, k < 2 → parseFieldDescriptor (TX11 k).2.2.1 = some (tyX11 k) := by decide +kernel
abbrev cX11_init : ByteArray := prog_14_method_1_code
def yX11_init : MethodName := ⟨RX11, "<init>", "()V"⟩
def RX12 : String := "ClassPoolsModel"
def TX12 : u_T := fun k => match k with
  | 0 => ("ClassPoolsModel", "code", "I", false)
  | 1 => ("ClassPoolsModel", "files", "[LClassPoolsModel$HeldFile;", true)
  | 2 => ("ClassPoolsModel", "count", "I", false)
  | 3 => ("ClassPoolsModel", "tape", "[B", true)
  | 4 => ("ClassPoolsModel", "taped", "I", false)
  | 5 => ("ClassPoolsModel", "out", "[B", false)
  | 6 => ("ClassPoolsModel", "now", "LClassPoolsModel$HeldFile;", false)
  | 7 => ("ClassPoolsModel", "at", "I", false)
  | 8 => ("ClassPoolsModel", "fault", "I", false)
  | 9 => ("ClassPoolsModel", "faultPlace", "I", false)
  | 10 => ("ClassPoolsModel", "joined", "[LClassPoolsModel$Meaning;", false)
  | 11 => ("ClassPoolsModel", "joinedCount", "I", false)
  | 12 => ("ClassPoolsModel", "made", "[B", true)
  | 13 => ("ClassPoolsModel", "madeSize", "I", false)
  | 14 => ("ClassPoolsModel", "ordered", "[LClassPoolsModel$Meaning;", false)
  | 15 => ("ClassPoolsModel", "orderedCount", "I", false)
  | _ => ("ClassPoolsModel", "newPlaces", "[I", true)
def tyX12 : Nat → FieldType := fun k => match k with
  | 0 => .int
  | 1 => .array (.object "ClassPoolsModel$HeldFile")
  | 2 => .int
  | 3 => .array .byte
  | 4 => .int
  | 5 => .array .byte
  | 6 => .object "ClassPoolsModel$HeldFile"
  | 7 => .int
  | 8 => .int
  | 9 => .int
  | 10 => .array (.object "ClassPoolsModel$Meaning")
  | 11 => .int
  | 12 => .array .byte
  | 13 => .int
  | 14 => .array (.object "ClassPoolsModel$Meaning")
  | 15 => .int
  | _ => .array .int
abbrev wsX120 : List Cond := u_ws RX12 TX12 17
theorem nmX12 : ∀ a, a < 17 → ∀ b, b < 17 → a ≠ b → (TX12 a).2.1 ≠ (TX12 b).2.1 := by decide +kernel
theorem tyX12_ok : ∀ k, k < 17 → parseFieldDescriptor (TX12 k).2.2.1 = some (tyX12 k) := by decide +kernel
abbrev cX12_init : ByteArray := prog_10_method_1_code
def yX12_init : MethodName := ⟨RX12, "<init>", "()V"⟩
abbrev cX12_thrown : ByteArray := prog_10_method_2_code
def yX12_thrown : MethodName := ⟨RX12, "thrown", "()I"⟩
abbrev cX12_isIn : ByteArray := prog_10_method_3_code
def yX12_isIn : MethodName := ⟨RX12, "isIn", "(III)Z"⟩
abbrev cX12_isFile : ByteArray := prog_10_method_4_code
def yX12_isFile : MethodName := ⟨RX12, "isFile", "(I)Z"⟩
abbrev cX12_feed : ByteArray := prog_10_method_5_code
def yX12_feed : MethodName := ⟨RX12, "feed", "(JI)I"⟩
abbrev cX12_fails : ByteArray := prog_10_method_6_code
def yX12_fails : MethodName := ⟨RX12, "fails", "(II)V"⟩
abbrev cX12_goes : ByteArray := prog_10_method_7_code
def yX12_goes : MethodName := ⟨RX12, "goes", "(I)Z"⟩
abbrev cX12_nextTwo : ByteArray := prog_10_method_8_code
def yX12_nextTwo : MethodName := ⟨RX12, "nextTwo", "()I"⟩
abbrev cX12_many : ByteArray := prog_10_method_9_code
def yX12_many : MethodName := ⟨RX12, "many", "(I)I"⟩
abbrev cX12_parse : ByteArray := prog_10_method_10_code
def yX12_parse : MethodName := ⟨RX12, "parse", "()V"⟩
abbrev cX12_attributes : ByteArray := prog_10_method_11_code
def yX12_attributes : MethodName := ⟨RX12, "attributes", "()LClassPoolsModel$Attributes;"⟩
abbrev cX12_entry : ByteArray := prog_10_method_12_code
def yX12_entry : MethodName := ⟨RX12, "entry", "(I)I"⟩
abbrev cX12_part : ByteArray := prog_10_method_13_code
def yX12_part : MethodName := ⟨RX12, "part", "([BII)[B"⟩
abbrev cX12_wrongPlace : ByteArray := prog_10_method_14_code
def yX12_wrongPlace : MethodName := ⟨RX12, "wrongPlace", "(LClassPoolsModel$HeldFile;II)I"⟩
abbrev cX12_place : ByteArray := prog_10_method_15_code
def yX12_place : MethodName := ⟨RX12, "place", "(II)V"⟩
abbrev cX12_names : ByteArray := prog_10_method_16_code
def yX12_names : MethodName := ⟨RX12, "names", "(LClassPoolsModel$Attributes;)V"⟩
abbrev cX12_places : ByteArray := prog_10_method_17_code
def yX12_places : MethodName := ⟨RX12, "places", "()V"⟩
abbrev cX12_type : ByteArray := prog_10_method_18_code
def yX12_type : MethodName := ⟨RX12, "type", "([BI)I"⟩
abbrev cX12_slotsOf : ByteArray := prog_10_method_19_code
def yX12_slotsOf : MethodName := ⟨RX12, "slotsOf", "([BI)I"⟩
abbrev cX12_isSort : ByteArray := prog_10_method_20_code
def yX12_isSort : MethodName := ⟨RX12, "isSort", "([BI)Z"⟩
abbrev cX12_sortOf : ByteArray := prog_10_method_21_code
def yX12_sortOf : MethodName := ⟨RX12, "sortOf", "(LClassPoolsModel$HeldFile;II)[B"⟩
abbrev cX12_read : ByteArray := prog_10_method_22_code
def yX12_read : MethodName := ⟨RX12, "read", "()I"⟩
abbrev cX12_place_ : ByteArray := prog_10_method_23_code
def yX12_place_ : MethodName := ⟨RX12, "place", "()I"⟩
abbrev cX12_drop : ByteArray := prog_10_method_24_code
def yX12_drop : MethodName := ⟨RX12, "drop", "(I)I"⟩
abbrev cX12_file : ByteArray := prog_10_method_25_code
def yX12_file : MethodName := ⟨RX12, "file", "(II)I"⟩
abbrev cX12_entry_ : ByteArray := prog_10_method_26_code
def yX12_entry_ : MethodName := ⟨RX12, "entry", "(III)I"⟩
abbrev cX12_number : ByteArray := prog_10_method_27_code
def yX12_number : MethodName := ⟨RX12, "number", "(II)J"⟩
abbrev cX12_shows : ByteArray := prog_10_method_28_code
def yX12_shows : MethodName := ⟨RX12, "shows", "([B)I"⟩
abbrev cX12_text : ByteArray := prog_10_method_29_code
def yX12_text : MethodName := ⟨RX12, "text", "(III)I"⟩
abbrev cX12_member : ByteArray := prog_10_method_30_code
def yX12_member : MethodName := ⟨RX12, "member", "(IIII)I"⟩
abbrev cX12_told : ByteArray := prog_10_method_31_code
def yX12_told : MethodName := ⟨RX12, "told", "(IIII)I"⟩
abbrev cX12_attribute : ByteArray := prog_10_method_32_code
def yX12_attribute : MethodName := ⟨RX12, "attribute", "(IIIII)I"⟩
abbrev cX12_out : ByteArray := prog_10_method_33_code
def yX12_out : MethodName := ⟨RX12, "out", "(I)I"⟩
abbrev cX12_meaningOf : ByteArray := prog_10_method_34_code
def yX12_meaningOf : MethodName := ⟨RX12, "meaningOf", "(LClassPoolsModel$HeldFile;I)LClassPoolsModel$Meaning;"⟩
abbrev cX12_compare : ByteArray := prog_10_method_35_code
def yX12_compare : MethodName := ⟨RX12, "compare", "([B[B)I"⟩
abbrev cX12_compare_ : ByteArray := prog_10_method_36_code
def yX12_compare_ : MethodName := ⟨RX12, "compare", "(LClassPoolsModel$Meaning;LClassPoolsModel$Meaning;)I"⟩
abbrev cX12_find : ByteArray := prog_10_method_37_code
def yX12_find : MethodName := ⟨RX12, "find", "([LClassPoolsModel$Meaning;ILClassPoolsModel$Meaning;)I"⟩
abbrev cX12_lay : ByteArray := prog_10_method_38_code
def yX12_lay : MethodName := ⟨RX12, "lay", "(LClassPoolsModel$HeldFile;[LClassPoolsModel$Meaning;I)I"⟩
abbrev cX12_join : ByteArray := prog_10_method_39_code
def yX12_join : MethodName := ⟨RX12, "join", "()I"⟩
abbrev cX12_isEntry : ByteArray := prog_10_method_40_code
def yX12_isEntry : MethodName := ⟨RX12, "isEntry", "(II)Z"⟩
abbrev cX12_joined : ByteArray := prog_10_method_41_code
def yX12_joined : MethodName := ⟨RX12, "joined", "(II)I"⟩
abbrev cX12_meaning : ByteArray := prog_10_method_42_code
def yX12_meaning : MethodName := ⟨RX12, "meaning", "(II)I"⟩
abbrev cX12_sameBytes : ByteArray := prog_10_method_43_code
def yX12_sameBytes : MethodName := ⟨RX12, "sameBytes", "(LClassPoolsModel$HeldFile;ILClassPoolsModel$HeldFile;II)Z"⟩
abbrev cX12_samePlace : ByteArray := prog_10_method_44_code
def yX12_samePlace : MethodName := ⟨RX12, "samePlace", "(LClassPoolsModel$HeldFile;ILClassPoolsModel$HeldFile;I)Z"⟩
abbrev cX12_same : ByteArray := prog_10_method_45_code
def yX12_same : MethodName := ⟨RX12, "same", "(LClassPoolsModel$HeldFile;LClassPoolsModel$Attributes;LClassPoolsModel$HeldFile;LClassPoolsModel$Attributes;)Z"⟩
abbrev cX12_isAlike : ByteArray := prog_10_method_46_code
def yX12_isAlike : MethodName := ⟨RX12, "isAlike", "(LClassPoolsModel$HeldFile;LClassPoolsModel$HeldFile;)Z"⟩
abbrev cX12_alike : ByteArray := prog_10_method_47_code
def yX12_alike : MethodName := ⟨RX12, "alike", "(II)I"⟩
abbrev cX12_add : ByteArray := prog_10_method_48_code
def yX12_add : MethodName := ⟨RX12, "add", "(I)V"⟩
abbrev cX12_addTwo : ByteArray := prog_10_method_49_code
def yX12_addTwo : MethodName := ⟨RX12, "addTwo", "(I)V"⟩
abbrev cX12_addFour : ByteArray := prog_10_method_50_code
def yX12_addFour : MethodName := ⟨RX12, "addFour", "(I)V"⟩
abbrev cX12_addBytes : ByteArray := prog_10_method_51_code
def yX12_addBytes : MethodName := ⟨RX12, "addBytes", "([BII)V"⟩
abbrev cX12_moved : ByteArray := prog_10_method_52_code
def yX12_moved : MethodName := ⟨RX12, "moved", "(LClassPoolsModel$HeldFile;I)I"⟩
abbrev cX12_placeOf : ByteArray := prog_10_method_53_code
def yX12_placeOf : MethodName := ⟨RX12, "placeOf", "(I[B[B)I"⟩
abbrev cX12_addEntry : ByteArray := prog_10_method_54_code
def yX12_addEntry : MethodName := ⟨RX12, "addEntry", "(LClassPoolsModel$Meaning;)V"⟩
abbrev cX12_addAttributes : ByteArray := prog_10_method_55_code
def yX12_addAttributes : MethodName := ⟨RX12, "addAttributes", "(LClassPoolsModel$HeldFile;LClassPoolsModel$Attributes;)V"⟩
abbrev cX12_inOrder : ByteArray := prog_10_method_56_code
def yX12_inOrder : MethodName := ⟨RX12, "inOrder", "(LClassPoolsModel$HeldFile;)I"⟩
abbrev cX12_write : ByteArray := prog_10_method_57_code
def yX12_write : MethodName := ⟨RX12, "write", "(II)I"⟩
abbrev cX12_back : ByteArray := prog_10_method_58_code
def yX12_back : MethodName := ⟨RX12, "back", "()I"⟩
def RJ6 : String := "java/lang/Integer"
abbrev cJ6_compare_7cf53 : ByteArray := prog_21_method_40_code
def yJ6_compare_7cf53 : MethodName := ⟨RJ6, "compare", "(II)I"⟩
def RJ13 : String := "java/lang/Long"
abbrev cJ13_compare_74951 : ByteArray := prog_22_method_42_code
def yJ13_compare_74951 : MethodName := ⟨RJ13, "compare", "(JJ)I"⟩
def RJ9 : String := "java/lang/Math"
abbrev cJ9_max_7cf53 : ByteArray := prog_23_method_65_code
def yJ9_max_7cf53 : MethodName := ⟨RJ9, "max", "(II)I"⟩
abbrev cJ9_min_7cf53 : ByteArray := prog_23_method_69_code
def yJ9_min_7cf53 : MethodName := ⟨RJ9, "min", "(II)I"⟩
def RJ7 : String := "java/util/Arrays"
abbrev cJ7_fill_53178 : ByteArray := prog_31_method_103_code
def yJ7_fill_53178 : MethodName := ⟨RJ7, "fill", "([II)V"⟩
def RJ0 : String := "java/lang/String"
def TJ0 : u_T := fun k => match k with
  | 0 => ("java/lang/String", "value", "[B", true)
  | _ => ("java/lang/String", "coder", "B", true)
def tyJ0 : Nat → FieldType := fun k => match k with
  | 0 => .array .byte
  | _ => .byte
abbrev wsJ00 : List Cond := u_ws RJ0 TJ0 2
theorem nmJ0 : ∀ a, a < 2 → ∀ b, b < 2 → a ≠ b → (TJ0 a).2.1 ≠ (TJ0 b).2.1 := by decide +kernel
theorem tyJ0_ok : ∀ k, k < 2 → parseFieldDescriptor (TJ0 k).2.2.1 = some (tyJ0 k) := by decide +kernel
abbrev cJ0_length_8abf5 : ByteArray := prog_26_method_54_code
def yJ0_length_8abf5 : MethodName := ⟨RJ0, "length", "()I"⟩
abbrev cJ0_indexOf_0f7a4 : ByteArray := prog_26_method_79_code
def yJ0_indexOf_0f7a4 : MethodName := ⟨RJ0, "indexOf", "(I)I"⟩
abbrev cJ0_indexOf_7cf53 : ByteArray := prog_26_method_80_code
def yJ0_indexOf_7cf53 : MethodName := ⟨RJ0, "indexOf", "(II)I"⟩
abbrev cJ0_coder_7d493 : ByteArray := prog_26_method_152_code
def yJ0_coder_7d493 : MethodName := ⟨RJ0, "coder", "()B"⟩
abbrev cJ0_isLatin1_aae02 : ByteArray := prog_26_method_154_code
def yJ0_isLatin1_aae02 : MethodName := ⟨RJ0, "isLatin1", "()Z"⟩
def RJ1 : String := "java/lang/StringLatin1"
abbrev cJ1_canEncode_9a6ad : ByteArray := prog_27_method_4_code
def yJ1_canEncode_9a6ad : MethodName := ⟨RJ1, "canEncode", "(I)Z"⟩
abbrev cJ1_indexOf_4cfef : ByteArray := prog_27_method_22_code
def yJ1_indexOf_4cfef : MethodName := ⟨RJ1, "indexOf", "([BIII)I"⟩
abbrev cJ1_indexOfChar_4cfef : ByteArray := prog_27_method_23_code
def yJ1_indexOfChar_4cfef : MethodName := ⟨RJ1, "indexOfChar", "([BIII)I"⟩
def RL : String := "ClassPoolsLaw"
abbrev cL_number : ByteArray := method_3_code
def yL_number : MethodName := ⟨RL, "number", "(LClassPools;II[J)I"⟩
abbrev cL_law : ByteArray := code
def yL_law : MethodName := ⟨RL, "law", "([I)Z"⟩
abbrev classes : List vw_C := [(RX0, TX0, 9), (RX1, TX1, 3), (RX2, TX2, 5), (RX3, TX3, 5), (RX4, TX4, 2), (RX6, TX6, 3), (RX7, TX7, 8), (RX8, TX8, 2), (RX9, TX9, 10), (RX10, TX10, 5), (RX11, TX11, 2), (RX12, TX12, 17), (RJ0, TJ0, 2)]
/-- a method: its name, its bytes, its locals, what it answers -/
abbrev MI : Type := MethodName × ByteArray × Nat × Option FieldType
abbrev m_CF_init : Nat := 0
abbrev m_CF_begin : Nat := 1
abbrev m_CF_addTell : Nat := 2
abbrev m_CF_tellCount : Nat := 3
abbrev m_CF_tellAt : Nat := 4
abbrev m_CF_wanted : Nat := 5
abbrev m_CF_firstBehind : Nat := 6
abbrev m_CF_addMember : Nat := 7
abbrev m_CF_members : Nat := 8
abbrev m_CF_memberAt : Nat := 9
abbrev m_CF_faces : Nat := 10
abbrev m_CF_classPlace : Nat := 11
abbrev m_CF_attributesOf : Nat := 12
abbrev m_CF_attributeAt : Nat := 13
abbrev m_CF_meansAs : Nat := 14
abbrev m_PL_init : Nat := 15
abbrev m_PL_places : Nat := 16
abbrev m_PL_has : Nat := 17
abbrev m_PL_begin : Nat := 18
abbrev m_PL_set : Nat := 19
abbrev m_PL_copy : Nat := 20
abbrev m_PL_start : Nat := 21
abbrev m_PL_tag : Nat := 22
abbrev m_PL_twoOf : Nat := 23
abbrev m_PL_first : Nat := 24
abbrev m_PL_second : Nat := 25
abbrev m_PL_textAt : Nat := 26
abbrev m_PL_textSize : Nat := 27
abbrev m_PL_bits : Nat := 28
abbrev m_PL_bytesOf : Nat := 29
abbrev m_PL_wrong : Nat := 30
abbrev m_PL_textOf : Nat := 31
abbrev m_PL_order : Nat := 32
abbrev m_RK_init : Nat := 33
abbrev m_RK_clear : Nat := 34
abbrev m_RK_size : Nat := 35
abbrev m_RK_add : Nat := 36
abbrev m_RK_insert : Nat := 37
abbrev m_RK_find : Nat := 38
abbrev m_RK_firstNotBelow : Nat := 39
abbrev m_RK_orderOf : Nat := 40
abbrev m_RK_poolOf : Nat := 41
abbrev m_RK_placeOf : Nat := 42
abbrev m_RK_tag : Nat := 43
abbrev m_RK_tally : Nat := 44
abbrev m_RD_init : Nat := 45
abbrev m_RD_fail : Nat := 46
abbrev m_RD_scan : Nat := 47
abbrev m_RD_skip : Nat := 48
abbrev m_RD_tell : Nat := 49
abbrev m_RD_two : Nat := 50
abbrev m_RD_many : Nat := 51
abbrev m_RD_magic : Nat := 52
abbrev m_RD_entries : Nat := 53
abbrev m_RD_anEntry : Nat := 54
abbrev m_RD_classAbove : Nat := 55
abbrev m_RD_members : Nat := 56
abbrev m_RD_attributes : Nat := 57
abbrev m_RD_checkTells : Nat := 58
abbrev m_RD_checkSorts : Nat := 59
abbrev m_RW_init : Nat := 60
abbrev m_RW_size : Nat := 61
abbrev m_RW_has : Nat := 62
abbrev m_RW_one : Nat := 63
abbrev m_RW_two : Nat := 64
abbrev m_RW_four : Nat := 65
abbrev m_RW_clear : Nat := 66
abbrev m_RW_push : Nat := 67
abbrev m_RW_pushTwo : Nat := 68
abbrev m_RW_putTwo : Nat := 69
abbrev m_RW_append : Nat := 70
abbrev m_RW_take : Nat := 71
abbrev m_RW_order : Nat := 72
abbrev m_SO_isType : Nat := 73
abbrev m_SO_isMethod : Nat := 74
abbrev m_SO_width : Nat := 75
abbrev m_SO_sum : Nat := 76
abbrev m_SO_closing : Nat := 77
abbrev m_SO_typeEnd : Nat := 78
abbrev m_SO_nameEnd : Nat := 79
abbrev m_WR_init : Nat := 80
abbrev m_WR_movePlaces : Nat := 81
abbrev m_WR_push : Nat := 82
abbrev m_WR_movedTo : Nat := 83
abbrev m_WR_pushEntry : Nat := 84
abbrev m_WR_pushRest : Nat := 85
abbrev m_CP_init : Nat := 86
abbrev m_CP_feed : Nat := 87
abbrev m_CP_read : Nat := 88
abbrev m_CP_place : Nat := 89
abbrev m_CP_drop : Nat := 90
abbrev m_CP_file : Nat := 91
abbrev m_CP_entry : Nat := 92
abbrev m_CP_number : Nat := 93
abbrev m_CP_text : Nat := 94
abbrev m_CP_member : Nat := 95
abbrev m_CP_told : Nat := 96
abbrev m_CP_attribute : Nat := 97
abbrev m_CP_out : Nat := 98
abbrev m_CP_join : Nat := 99
abbrev m_CP_joined : Nat := 100
abbrev m_CP_meaning : Nat := 101
abbrev m_CP_alike : Nat := 102
abbrev m_CP_write : Nat := 103
abbrev m_CP_back : Nat := 104
abbrev m_CP_fileAt : Nat := 105
abbrev m_CP_showText : Nat := 106
abbrev m_CP_showClass : Nat := 107
abbrev m_CP_placesOf : Nat := 108
abbrev m_CP_isNumber : Nat := 109
abbrev m_CP_isWide : Nat := 110
abbrev m_CP_isTag : Nat := 111
abbrev m_MA_init : Nat := 112
abbrev m_MH_init : Nat := 113
abbrev m_MH_two : Nat := 114
abbrev m_MH_four : Nat := 115
abbrev m_MH_bits : Nat := 116
abbrev m_MH_first : Nat := 117
abbrev m_MH_second : Nat := 118
abbrev m_MM_init : Nat := 119
abbrev m_MB_init : Nat := 120
abbrev m_MO_init : Nat := 121
abbrev m_MO_thrown : Nat := 122
abbrev m_MO_isIn : Nat := 123
abbrev m_MO_isFile : Nat := 124
abbrev m_MO_feed : Nat := 125
abbrev m_MO_fails : Nat := 126
abbrev m_MO_goes : Nat := 127
abbrev m_MO_nextTwo : Nat := 128
abbrev m_MO_many : Nat := 129
abbrev m_MO_parse : Nat := 130
abbrev m_MO_attributes : Nat := 131
abbrev m_MO_entry : Nat := 132
abbrev m_MO_part : Nat := 133
abbrev m_MO_wrongPlace : Nat := 134
abbrev m_MO_place : Nat := 135
abbrev m_MO_names : Nat := 136
abbrev m_MO_places : Nat := 137
abbrev m_MO_type : Nat := 138
abbrev m_MO_slotsOf : Nat := 139
abbrev m_MO_isSort : Nat := 140
abbrev m_MO_sortOf : Nat := 141
abbrev m_MO_read : Nat := 142
abbrev m_MO_place_ : Nat := 143
abbrev m_MO_drop : Nat := 144
abbrev m_MO_file : Nat := 145
abbrev m_MO_entry_ : Nat := 146
abbrev m_MO_number : Nat := 147
abbrev m_MO_shows : Nat := 148
abbrev m_MO_text : Nat := 149
abbrev m_MO_member : Nat := 150
abbrev m_MO_told : Nat := 151
abbrev m_MO_attribute : Nat := 152
abbrev m_MO_out : Nat := 153
abbrev m_MO_meaningOf : Nat := 154
abbrev m_MO_compare : Nat := 155
abbrev m_MO_compare_ : Nat := 156
abbrev m_MO_find : Nat := 157
abbrev m_MO_lay : Nat := 158
abbrev m_MO_join : Nat := 159
abbrev m_MO_isEntry : Nat := 160
abbrev m_MO_joined : Nat := 161
abbrev m_MO_meaning : Nat := 162
abbrev m_MO_sameBytes : Nat := 163
abbrev m_MO_samePlace : Nat := 164
abbrev m_MO_same : Nat := 165
abbrev m_MO_isAlike : Nat := 166
abbrev m_MO_alike : Nat := 167
abbrev m_MO_add : Nat := 168
abbrev m_MO_addTwo : Nat := 169
abbrev m_MO_addFour : Nat := 170
abbrev m_MO_addBytes : Nat := 171
abbrev m_MO_moved : Nat := 172
abbrev m_MO_placeOf : Nat := 173
abbrev m_MO_addEntry : Nat := 174
abbrev m_MO_addAttributes : Nat := 175
abbrev m_MO_inOrder : Nat := 176
abbrev m_MO_write : Nat := 177
abbrev m_MO_back : Nat := 178
abbrev m_JI_compare : Nat := 179
abbrev m_JL_compare : Nat := 180
abbrev m_JM_max : Nat := 181
abbrev m_JM_min : Nat := 182
abbrev m_JS_length : Nat := 183
abbrev m_JS_indexOf : Nat := 184
abbrev m_JS_indexOf_ : Nat := 185
abbrev m_JS_coder : Nat := 186
abbrev m_JS_isLatin1 : Nat := 187
abbrev m_JT_canEncode : Nat := 188
abbrev m_JT_indexOf : Nat := 189
abbrev m_JT_indexOfChar : Nat := 190
abbrev m_JA_fill : Nat := 191
abbrev m_LW_number : Nat := 192
abbrev m_LW_law : Nat := 193
def mtab : List MI := [(yX0_init, cX0_init, 1, none), (yX0_begin, cX0_begin, 2, none), (yX0_addTell, cX0_addTell, 3, none), (yX0_tellCount, cX0_tellCount, 1, some .int), (yX0_tellAt, cX0_tellAt, 2, some .int), (yX0_wanted, cX0_wanted, 2, some .int), (yX0_firstBehind, cX0_firstBehind, 2, some .int), (yX0_addMember, cX0_addMember, 4, none), (yX0_members, cX0_members, 2, some .int), (yX0_memberAt, cX0_memberAt, 3, some .int), (yX0_faces, cX0_faces, 1, some .int), (yX0_classPlace, cX0_classPlace, 2, some .int), (yX0_attributesOf, cX0_attributesOf, 4, some .int), (yX0_attributeAt, cX0_attributeAt, 7, some .int), (yX0_meansAs, cX0_meansAs, 10, some .boolean), (yX1_init, cX1_init, 1, none), (yX1_places, cX1_places, 1, some .int), (yX1_has, cX1_has, 2, some .boolean), (yX1_begin, cX1_begin, 2, none), (yX1_set, cX1_set, 3, none), (yX1_copy, cX1_copy, 2, none), (yX1_start, cX1_start, 2, some .int), (yX1_tag, cX1_tag, 3, some .int), (yX1_twoOf, cX1_twoOf, 4, some .int), (yX1_first, cX1_first, 2, some .int), (yX1_second, cX1_second, 2, some .int), (yX1_textAt, cX1_textAt, 2, some .int), (yX1_textSize, cX1_textSize, 2, some .int), (yX1_bits, cX1_bits, 5, some .long), (yX1_bytesOf, cX1_bytesOf, 2, some .int), (yX1_wrong, cX1_wrong, 4, some .int), (yX1_textOf, cX1_textOf, 3, some .int), (yX1_order, cX1_order, 10, some .int), (yX2_init, cX2_init, 2, none), (yX2_clear, cX2_clear, 1, none), (yX2_size, cX2_size, 1, some .int), (yX2_add, cX2_add, 6, some .boolean), (yX2_insert, cX2_insert, 3, some .boolean), (yX2_find, cX2_find, 4, some .int), (yX2_firstNotBelow, cX2_firstNotBelow, 8, some .int), (yX2_orderOf, cX2_orderOf, 5, some .int), (yX2_poolOf, cX2_poolOf, 3, some (.object "ClassPools$Pool")), (yX2_placeOf, cX2_placeOf, 2, some .int), (yX2_tag, cX2_tag, 3, some .int), (yX2_tally, cX2_tally, 5, some .int), (yX3_init, cX3_init, 2, none), (yX3_fail, cX3_fail, 3, none), (yX3_scan, cX3_scan, 3, none), (yX3_skip, cX3_skip, 2, none), (yX3_tell, cX3_tell, 3, none), (yX3_two, cX3_two, 2, some .int), (yX3_many, cX3_many, 4, some .int), (yX3_magic, cX3_magic, 2, none), (yX3_entries, cX3_entries, 5, none), (yX3_anEntry, cX3_anEntry, 4, none), (yX3_classAbove, cX3_classAbove, 1, none), (yX3_members, cX3_members, 4, none), (yX3_attributes, cX3_attributes, 5, none), (yX3_checkTells, cX3_checkTells, 4, none), (yX3_checkSorts, cX3_checkSorts, 8, none), (yX4_init, cX4_init, 1, none), (yX4_size, cX4_size, 1, some .int), (yX4_has, cX4_has, 3, some .boolean), (yX4_one, cX4_one, 2, some .int), (yX4_two, cX4_two, 2, some .int), (yX4_four, cX4_four, 2, some .int), (yX4_clear, cX4_clear, 1, none), (yX4_push, cX4_push, 2, none), (yX4_pushTwo, cX4_pushTwo, 2, none), (yX4_putTwo, cX4_putTwo, 3, none), (yX4_append, cX4_append, 4, none), (yX4_take, cX4_take, 4, some .int), (yX4_order, cX4_order, 9, some .int), (yX5_isType, cX5_isType, 3, some .boolean), (yX5_isMethod, cX5_isMethod, 5, some .boolean), (yX5_width, cX5_width, 3, some .int), (yX5_sum, cX5_sum, 7, some .int), (yX5_closing, cX5_closing, 5, some .int), (yX5_typeEnd, cX5_typeEnd, 4, some .int), (yX5_nameEnd, cX5_nameEnd, 4, some .int), (yX6_init, cX6_init, 2, none), (yX6_movePlaces, cX6_movePlaces, 6, some .int), (yX6_push, cX6_push, 5, some .int), (yX6_movedTo, cX6_movedTo, 2, some .int), (yX6_pushEntry, cX6_pushEntry, 5, none), (yX6_pushRest, cX6_pushRest, 5, none), (yX7_init, cX7_init, 2, none), (yX7_feed, cX7_feed, 5, some .int), (yX7_read, cX7_read, 3, some .int), (yX7_place, cX7_place, 1, some .int), (yX7_drop, cX7_drop, 4, some .int), (yX7_file, cX7_file, 4, some .int), (yX7_entry, cX7_entry, 5, some .int), (yX7_number, cX7_number, 5, some .long), (yX7_text, cX7_text, 7, some .int), (yX7_member, cX7_member, 7, some .int), (yX7_told, cX7_told, 10, some .int), (yX7_attribute, cX7_attribute, 8, some .int), (yX7_out, cX7_out, 2, some .int), (yX7_join, cX7_join, 4, some .int), (yX7_joined, cX7_joined, 4, some .int), (yX7_meaning, cX7_meaning, 3, some .int), (yX7_alike, cX7_alike, 5, some .int), (yX7_write, cX7_write, 5, some .int), (yX7_back, cX7_back, 1, some .int), (yX7_fileAt, cX7_fileAt, 2, some (.object "ClassPools$ClassFile")), (yX7_showText, cX7_showText, 3, some .int), (yX7_showClass, cX7_showClass, 5, some .int), (yX7_placesOf, cX7_placesOf, 5, some .int), (yX7_isNumber, cX7_isNumber, 1, some .boolean), (yX7_isWide, cX7_isWide, 1, some .boolean), (yX7_isTag, cX7_isTag, 1, some .boolean), (yX8_init, cX8_init, 1, none), (yX9_init, cX9_init, 1, none), (yX9_two, cX9_two, 2, some .int), (yX9_four, cX9_four, 2, some .int), (yX9_bits, cX9_bits, 3, some .long), (yX9_first, cX9_first, 2, some .int), (yX9_second, cX9_second, 2, some .int), (yX10_init, cX10_init, 1, none), (yX11_init, cX11_init, 1, none), (yX12_init, cX12_init, 1, none), (yX12_thrown, cX12_thrown, 1, some .int), (yX12_isIn, cX12_isIn, 3, some .boolean), (yX12_isFile, cX12_isFile, 2, some .boolean), (yX12_feed, cX12_feed, 5, some .int), (yX12_fails, cX12_fails, 3, none), (yX12_goes, cX12_goes, 2, some .boolean), (yX12_nextTwo, cX12_nextTwo, 1, some .int), (yX12_many, cX12_many, 3, some .int), (yX12_parse, cX12_parse, 7, none), (yX12_attributes, cX12_attributes, 5, some (.object "ClassPoolsModel$Attributes")), (yX12_entry, cX12_entry, 7, some .int), (yX12_part, cX12_part, 4, some (.array .byte)), (yX12_wrongPlace, cX12_wrongPlace, 3, some .int), (yX12_place, cX12_place, 4, none), (yX12_names, cX12_names, 3, none), (yX12_places, cX12_places, 5, none), (yX12_type, cX12_type, 4, some .int), (yX12_slotsOf, cX12_slotsOf, 2, some .int), (yX12_isSort, cX12_isSort, 4, some .boolean), (yX12_sortOf, cX12_sortOf, 4, some (.array .byte)), (yX12_read, cX12_read, 3, some .int), (yX12_place_, cX12_place_, 1, some .int), (yX12_drop, cX12_drop, 3, some .int), (yX12_file, cX12_file, 4, some .int), (yX12_entry_, cX12_entry_, 6, some .int), (yX12_number, cX12_number, 4, some .long), (yX12_shows, cX12_shows, 2, some .int), (yX12_text, cX12_text, 6, some .int), (yX12_member, cX12_member, 7, some .int), (yX12_told, cX12_told, 11, some .int), (yX12_attribute, cX12_attribute, 9, some .int), (yX12_out, cX12_out, 2, some .int), (yX12_meaningOf, cX12_meaningOf, 5, some (.object "ClassPoolsModel$Meaning")), (yX12_compare, cX12_compare, 3, some .int), (yX12_compare_, cX12_compare_, 3, some .int), (yX12_find, cX12_find, 5, some .int), (yX12_lay, cX12_lay, 9, some .int), (yX12_join, cX12_join, 4, some .int), (yX12_isEntry, cX12_isEntry, 3, some .boolean), (yX12_joined, cX12_joined, 3, some .int), (yX12_meaning, cX12_meaning, 6, some .int), (yX12_sameBytes, cX12_sameBytes, 8, some .boolean), (yX12_samePlace, cX12_samePlace, 7, some .boolean), (yX12_same, cX12_same, 8, some .boolean), (yX12_isAlike, cX12_isAlike, 8, some .boolean), (yX12_alike, cX12_alike, 5, some .int), (yX12_add, cX12_add, 2, none), (yX12_addTwo, cX12_addTwo, 2, none), (yX12_addFour, cX12_addFour, 2, none), (yX12_addBytes, cX12_addBytes, 5, none), (yX12_moved, cX12_moved, 3, some .int), (yX12_placeOf, cX12_placeOf, 5, some .int), (yX12_addEntry, cX12_addEntry, 3, none), (yX12_addAttributes, cX12_addAttributes, 5, none), (yX12_inOrder, cX12_inOrder, 7, some .int), (yX12_write, cX12_write, 3, some .int), (yX12_back, cX12_back, 2, some .int), (yJ6_compare_7cf53, cJ6_compare_7cf53, 2, some .int), (yJ13_compare_74951, cJ13_compare_74951, 4, some .int), (yJ9_max_7cf53, cJ9_max_7cf53, 2, some .int), (yJ9_min_7cf53, cJ9_min_7cf53, 2, some .int), (yJ0_length_8abf5, cJ0_length_8abf5, 1, some .int), (yJ0_indexOf_0f7a4, cJ0_indexOf_0f7a4, 2, some .int), (yJ0_indexOf_7cf53, cJ0_indexOf_7cf53, 3, some .int), (yJ0_coder_7d493, cJ0_coder_7d493, 1, some .byte), (yJ0_isLatin1_aae02, cJ0_isLatin1_aae02, 1, some .boolean), (yJ1_canEncode_9a6ad, cJ1_canEncode_9a6ad, 1, some .boolean), (yJ1_indexOf_4cfef, cJ1_indexOf_4cfef, 4, some .int), (yJ1_indexOfChar_4cfef, cJ1_indexOfChar_4cfef, 6, some .int), (yJ7_fill_53178, cJ7_fill_53178, 4, none), (yL_number, cL_number, 5, some .int), (yL_law, cL_law, 8, some .boolean)]
def mI (mid : Nat) : MI := mtab.getD mid (yX4_one, cX4_one, 0, none)
def lvtab : List (MethodName × Nat) := [(yX0_init, 3), (yX0_begin, 4), (yX0_addTell, 1), (yX0_tellCount, 1), (yX0_tellAt, 1), (yX0_wanted, 1), (yX0_firstBehind, 2), (yX0_addMember, 2), (yX0_members, 1), (yX0_memberAt, 2), (yX0_faces, 2), (yX0_classPlace, 3), (yX0_attributesOf, 3), (yX0_attributeAt, 4), (yX0_meansAs, 5), (yX1_init, 2), (yX1_places, 1), (yX1_has, 1), (yX1_begin, 2), (yX1_set, 2), (yX1_copy, 4), (yX1_start, 1), (yX1_tag, 2), (yX1_twoOf, 2), (yX1_first, 3), (yX1_second, 3), (yX1_textAt, 2), (yX1_textSize, 3), (yX1_bits, 3), (yX1_bytesOf, 4), (yX1_wrong, 3), (yX1_textOf, 3), (yX1_order, 4), (yX2_init, 3), (yX2_clear, 1), (yX2_size, 1), (yX2_add, 6), (yX2_insert, 1), (yX2_find, 6), (yX2_firstNotBelow, 5), (yX2_orderOf, 5), (yX2_poolOf, 1), (yX2_placeOf, 1), (yX2_tag, 3), (yX2_tally, 6), (yX3_init, 1), (yX3_fail, 1), (yX3_scan, 6), (yX3_skip, 2), (yX3_tell, 3), (yX3_two, 3), (yX3_many, 3), (yX3_magic, 3), (yX3_entries, 5), (yX3_anEntry, 4), (yX3_classAbove, 4), (yX3_members, 5), (yX3_attributes, 4), (yX3_checkTells, 4), (yX3_checkSorts, 6), (yX4_init, 1), (yX4_size, 1), (yX4_has, 1), (yX4_one, 1), (yX4_two, 1), (yX4_four, 2), (yX4_clear, 1), (yX4_push, 1), (yX4_pushTwo, 2), (yX4_putTwo, 2), (yX4_append, 2), (yX4_take, 3), (yX4_order, 2), (yX5_isType, 4), (yX5_isMethod, 5), (yX5_width, 2), (yX5_sum, 4), (yX5_closing, 4), (yX5_typeEnd, 3), (yX5_nameEnd, 2), (yX6_init, 1), (yX6_movePlaces, 7), (yX6_push, 6), (yX6_movedTo, 1), (yX6_pushEntry, 5), (yX6_pushRest, 3), (yX7_init, 4), (yX7_feed, 2), (yX7_read, 7), (yX7_place, 1), (yX7_drop, 2), (yX7_file, 3), (yX7_entry, 4), (yX7_number, 4), (yX7_text, 5), (yX7_member, 6), (yX7_told, 5), (yX7_attribute, 5), (yX7_out, 2), (yX7_join, 7), (yX7_joined, 7), (yX7_meaning, 8), (yX7_alike, 6), (yX7_write, 8), (yX7_back, 4), (yX7_fileAt, 1), (yX7_showText, 4), (yX7_showClass, 5), (yX7_placesOf, 7), (yX7_isNumber, 1), (yX7_isWide, 1), (yX7_isTag, 1), (yX8_init, 1), (yX9_init, 1), (yX9_two, 1), (yX9_four, 2), (yX9_bits, 3), (yX9_first, 2), (yX9_second, 2), (yX10_init, 1), (yX11_init, 1), (yX12_init, 1), (yX12_thrown, 1), (yX12_isIn, 1), (yX12_isFile, 2), (yX12_feed, 2), (yX12_fails, 1), (yX12_goes, 2), (yX12_nextTwo, 3), (yX12_many, 4), (yX12_parse, 6), (yX12_attributes, 5), (yX12_entry, 4), (yX12_part, 1), (yX12_wrongPlace, 1), (yX12_place, 2), (yX12_names, 3), (yX12_places, 4), (yX12_type, 5), (yX12_slotsOf, 1), (yX12_isSort, 6), (yX12_sortOf, 2), (yX12_read, 7), (yX12_place_, 1), (yX12_drop, 3), (yX12_file, 3), (yX12_entry_, 3), (yX12_number, 4), (yX12_shows, 1), (yX12_text, 3), (yX12_member, 3), (yX12_told, 6), (yX12_attribute, 3), (yX12_out, 2), (yX12_meaningOf, 4), (yX12_compare, 2), (yX12_compare_, 3), (yX12_find, 4), (yX12_lay, 5), (yX12_join, 6), (yX12_isEntry, 3), (yX12_joined, 5), (yX12_meaning, 5), (yX12_sameBytes, 1), (yX12_samePlace, 5), (yX12_same, 6), (yX12_isAlike, 7), (yX12_alike, 8), (yX12_add, 1), (yX12_addTwo, 2), (yX12_addFour, 3), (yX12_addBytes, 2), (yX12_moved, 5), (yX12_placeOf, 5), (yX12_addEntry, 6), (yX12_addAttributes, 6), (yX12_inOrder, 7), (yX12_write, 8), (yX12_back, 1), (yJ6_compare_7cf53, 1), (yJ13_compare_74951, 1), (yJ9_max_7cf53, 1), (yJ9_min_7cf53, 1), (yJ0_length_8abf5, 2), (yJ0_indexOf_0f7a4, 4), (yJ0_indexOf_7cf53, 3), (yJ0_coder_7d493, 1), (yJ0_isLatin1_aae02, 1), (yJ1_canEncode_9a6ad, 1), (yJ1_indexOf_4cfef, 2), (yJ1_indexOfChar_4cfef, 1), (yJ7_fill_53178, 1), (yL_number, 5), (yL_law, 9)]
def lvO (y : MethodName) : Nat := match lvtab.find? (fun q => decide (q.1 = y)) with
  | some q => q.2
  | none => 0
/-- the words that a callee may be told -/
def lwg : List Cond := lw_tbl.filter goodWord
theorem lwg_in {w : Cond} (h : w ∈ lwg) : w ∈ lw_tbl := (List.mem_filter.mp h).1
theorem lwg_good {w : Cond} (h : w ∈ lwg) : goodWord w = true := (List.mem_filter.mp h).2
theorem lwg_of (w : Cond) (k : Nat) (h : tables_1[k]? = some w) (g : goodWord w = true) : w ∈ lwg := List.mem_filter.mpr ⟨List.mem_append_right _ (List.mem_of_getElem? h), g⟩
theorem lwg_ofS (w : Cond) (k : Nat) (h : (k2_sels lw_privs)[k]? = some w) (g : goodWord w = true) : w ∈ lwg := List.mem_filter.mpr ⟨List.mem_append_left _ (List.mem_of_getElem? h), g⟩
end
section
/-! what a step says of the machine -/
theorem lget_lset : ∀ (L : Ls) (i : Nat) (v : Value) (j : Nat) (w : Value), lget (lset L i v) j = some w → (j = i ∧ w = v) ∨ (j ≠ i ∧ lget L j = some w ∧ ¬ (j + 1 = i ∧ w.category = 2))
  | [], i, v, j, w, h => by simp [lset, lget] at h
  | x :: r, 0, v, 0, w, h => by simp [lset, lget] at h; exact Or.inl ⟨rfl, h.symm⟩
  | x :: r, 0, v, j + 1, w, h => by simp [lset, lget] at h; exact Or.inr ⟨by omega, by simpa [lget] using h, by omega⟩
  | x :: r, 1, v, 0, w, h => by
    simp only [lset, lget] at h
    refine Or.inr ⟨by omega, ?_, ?_⟩
    · cases x with
      | none => simp [lclr] at h
      | some y => cases y <;> simp [lclr] at h <;> simp [lget, h]
    · rintro ⟨-, hc⟩
      cases x with
      | none => simp [lclr] at h
      | some y => cases y <;> simp [lclr] at h <;> subst h <;> simp [Value.category] at hc
  | x :: r, 1, v, j + 1, w, h => by
    simp only [lset, lget] at h
    rcases lget_lset r 0 v j w h with ⟨rfl, rfl⟩ | ⟨h1, h2, h3⟩
    · exact Or.inl ⟨rfl, rfl⟩
    · exact Or.inr ⟨by omega, by simpa [lget] using h2, by omega⟩
  | x :: r, n + 2, v, 0, w, h => by
    simp only [lset, lget] at h
    exact Or.inr ⟨by omega, by simpa [lget] using h, by omega⟩
  | x :: r, n + 2, v, j + 1, w, h => by
    simp only [lset, lget] at h
    rcases lget_lset r (n + 1) v j w h with ⟨rfl, rfl⟩ | ⟨h1, h2, h3⟩
    · exact Or.inl ⟨rfl, rfl⟩
    · exact Or.inr ⟨by omega, by simpa [lget] using h2, fun q => h3 ⟨by omega, q.2⟩⟩
theorem lget_lset2 : ∀ (L : Ls) (i : Nat) (v : Value) (j : Nat) (w : Value), lget (lset2 L i v) j = some w → (j = i ∧ w = v) ∨ (j ≠ i ∧ j ≠ i + 1 ∧ lget L j = some w ∧ ¬ (j + 1 = i ∧ w.category = 2))
  | [], i, v, j, w, h => by simp [lset2, lget] at h
  | [x], 0, v, 0, w, h => by simp [lset2, lget] at h; exact Or.inl ⟨rfl, h.symm⟩
  | [x], 0, v, j + 1, w, h => by simp [lset2, lget] at h
  | x :: y :: r, 0, v, 0, w, h => by simp [lset2, lget] at h; exact Or.inl ⟨rfl, h.symm⟩
  | x :: y :: r, 0, v, 1, w, h => by simp [lset2, lget] at h
  | x :: y :: r, 0, v, j + 2, w, h => by simp [lset2, lget] at h; exact Or.inr ⟨by omega, by omega, by simpa [lget] using h, by omega⟩
  | x :: r, 1, v, 0, w, h => by
    simp only [lset2, lget] at h
    refine Or.inr ⟨by omega, by omega, ?_, ?_⟩
    · cases x with
      | none => simp [lclr] at h
      | some y => cases y <;> simp [lclr] at h <;> simp [lget, h]
    · rintro ⟨-, hc⟩
      cases x with
      | none => simp [lclr] at h
      | some y => cases y <;> simp [lclr] at h <;> subst h <;> simp [Value.category] at hc
  | x :: r, 1, v, j + 1, w, h => by
    simp only [lset2, lget] at h
    rcases lget_lset2 r 0 v j w h with ⟨rfl, rfl⟩ | ⟨h1, h2, h3, h4⟩
    · exact Or.inl ⟨rfl, rfl⟩
    · exact Or.inr ⟨by omega, by omega, by simpa [lget] using h3, by omega⟩
  | x :: r, n + 2, v, 0, w, h => by
    simp only [lset2, lget] at h
    exact Or.inr ⟨by omega, by omega, by simpa [lget] using h, by omega⟩
  | x :: r, n + 2, v, j + 1, w, h => by
    simp only [lset2, lget] at h
    rcases lget_lset2 r (n + 1) v j w h with ⟨rfl, rfl⟩ | ⟨h1, h2, h3, h4⟩
    · exact Or.inl ⟨rfl, rfl⟩
    · exact Or.inr ⟨by omega, by omega, by simpa [lget] using h3, fun q => h4 ⟨by omega, q.2⟩⟩
theorem lset_len : ∀ (L : Ls) (i : Nat) (v : Value), (lset L i v).length = L.length
  | [], _, _ => rfl
  | _ :: r, 0, v => rfl
  | x :: r, 1, v => by simp [lset, lset_len r 0 v]
  | x :: r, n + 2, v => by simp [lset, lset_len r (n + 1) v]
theorem lset2_len : ∀ (L : Ls) (i : Nat) (v : Value), (lset2 L i v).length = L.length
  | [], _, _ => rfl
  | [_], 0, v => rfl
  | _ :: _ :: r, 0, v => rfl
  | x :: r, 1, v => by simp [lset2, lset2_len r 0 v]
  | x :: r, n + 2, v => by simp [lset2, lset2_len r (n + 1) v]
def toA : Nat → Ls → List (Nat × Value)
  | _, [] => []
  | i, none :: r => toA (i + 1) r
  | i, some v :: r => (i, v) :: toA (i + 1) r
theorem toA_mem : ∀ (L : Ls) (i : Nat) (q : Nat × Value), q ∈ toA i L ↔ ∃ k, q.1 = i + k ∧ lget L k = some q.2
  | [], i, q => by simp [toA, lget]
  | none :: r, i, q => by
    rw [toA, toA_mem r (i + 1) q]
    constructor
    · rintro ⟨k, h1, h2⟩; exact ⟨k + 1, by omega, by simpa [lget] using h2⟩
    · rintro ⟨k, h1, h2⟩
      cases k with
      | zero => simp [lget] at h2
      | succ k => exact ⟨k, by omega, by simpa [lget] using h2⟩
  | some v :: r, i, q => by
    rw [toA, List.mem_cons, toA_mem r (i + 1) q]
    constructor
    · rintro (rfl | ⟨k, h1, h2⟩)
      · exact ⟨0, by simp, by simp [lget]⟩
      · exact ⟨k + 1, by omega, by simpa [lget] using h2⟩
    · rintro ⟨k, h1, h2⟩
      cases k with
      | zero => left; simp [lget] at h2; exact Prod.ext (by simpa using h1) h2.symm
      | succ k => exact Or.inr ⟨k, by omega, by simpa [lget] using h2⟩
/-- the locals as the abstract ones say -/
def LV (ls : Array Slot) (nL : Nat) (L : Ls) : Prop := lv_has ls nL (toA 0 L) ∧ L.length = nL
theorem LV.get {ls : Array Slot} {nL : Nat} {L : Ls} (h : LV ls nL L) {i : Nat} {v : Value} (e : lget L i = some v) : ls[i]? = some (.val v) := h.1.2.2 (i, v) ((toA_mem L 0 (i, v)).mpr ⟨i, by simp, e⟩)
theorem lget_lt : ∀ (L : Ls) (i : Nat) (v : Value), lget L i = some v → i < L.length
  | [], i, v, h => by simp [lget] at h
  | x :: r, 0, v, h => by simp
  | x :: r, i + 1, v, h => by simp only [lget] at h; have := lget_lt r i v h; simp; omega
theorem LV.of1 {ls : Array Slot} {nL i : Nat} {L : Ls} {v : Value} (hn : L.length = nL) (h : lv_has ls nL ((i, v) :: (toA 0 L).filter (fun q => !(q.1 == i) && !(q.1 + 1 == i && q.2.category == 2)))) : LV ls nL (lset L i v) := by
  refine ⟨⟨h.1, h.2.1, fun q hq => h.2.2 q ?_⟩, by rw [lset_len]; exact hn⟩
  obtain ⟨k, h1, h2⟩ := (toA_mem _ 0 q).mp hq
  rcases lget_lset L i v k q.2 h2 with ⟨e1, e2⟩ | ⟨e1, e2, e3⟩
  · rw [show q = (i, v) from Prod.ext (by simp [h1, e1]) e2]; exact List.mem_cons_self
  · refine List.mem_cons_of_mem _ (List.mem_filter.mpr ⟨(toA_mem L 0 q).mpr ⟨k, h1, e2⟩, ?_⟩)
    have hk : q.1 = k := by omega
    simp only [hk, Bool.and_eq_true, Bool.not_eq_true', beq_eq_false_iff_ne, Bool.and_eq_false_iff]
    refine ⟨e1, ?_⟩
    by_cases hz : k + 1 = i
    · exact Or.inr (fun hc => e3 ⟨hz, hc⟩)
    · exact Or.inl hz
theorem LV.of2 {ls : Array Slot} {nL i : Nat} {L : Ls} {v : Value} (hn : L.length = nL) (h : lv_has ls nL ((i, v) :: (toA 0 L).filter (fun q => !(q.1 == i) && (!(q.1 == i + 1) && !(q.1 + 1 == i && q.2.category == 2))))) : LV ls nL (lset2 L i v) := by
  refine ⟨⟨h.1, h.2.1, fun q hq => h.2.2 q ?_⟩, by rw [lset2_len]; exact hn⟩
  obtain ⟨k, h1, h2⟩ := (toA_mem _ 0 q).mp hq
  rcases lget_lset2 L i v k q.2 h2 with ⟨e1, e2⟩ | ⟨e1, e1', e2, e3⟩
  · rw [show q = (i, v) from Prod.ext (by simp [h1, e1]) e2]; exact List.mem_cons_self
  · refine List.mem_cons_of_mem _ (List.mem_filter.mpr ⟨(toA_mem L 0 q).mpr ⟨k, h1, e2⟩, ?_⟩)
    have hk : q.1 = k := by omega
    simp only [hk, Bool.and_eq_true, Bool.not_eq_true', beq_eq_false_iff_ne, Bool.and_eq_false_iff]
    refine ⟨e1, e1', ?_⟩
    by_cases hz : k + 1 = i
    · exact Or.inr (fun hc => e3 ⟨hz, hc⟩)
    · exact Or.inl hz
theorem lent_args : ∀ (vs : List Value) (i k : Nat) (v : Value), lget (lent vs) k = some v → (i + k, v) ∈ lv_args i vs
  | [], i, k, v, h => by simp [lent, lget] at h
  | w :: r, i, k, v, h => by
    by_cases hc : w.category = 2
    · have e : lent (w :: r) = some w :: none :: lent r := by cases w <;> simp [Value.category] at hc <;> rfl
      rw [e] at h
      match k, h with
      | 0, h => simp [lget] at h; subst h; simp [lv_args]
      | 1, h => simp [lget] at h
      | k + 2, h =>
        simp only [lget] at h
        have := lent_args r (i + 2) k v h
        simp only [lv_args, hc, if_true]
        exact List.mem_cons_of_mem _ (by rw [show i + (k + 2) = i + 2 + k by omega]; exact this)
    · have e : lent (w :: r) = some w :: lent r := by cases w <;> simp [Value.category] at hc <;> rfl
      rw [e] at h
      match k, h with
      | 0, h => simp [lget] at h; subst h; simp [lv_args]
      | k + 1, h =>
        simp only [lget] at h
        have := lent_args r (i + 1) k v h
        simp only [lv_args, hc, if_false]
        exact List.mem_cons_of_mem _ (by rw [show i + (k + 1) = i + 1 + k by omega]; exact this)
theorem lpad_get : ∀ (n : Nat) (L : Ls) (k : Nat) (v : Value), lget (lpad n L) k = some v → lget L k = some v
  | 0, L, k, v, h => h
  | n + 1, [], 0, v, h => by simp [lpad, lget] at h
  | n + 1, [], k + 1, v, h => by simp only [lpad, lget] at h; have := lpad_get n [] k v h; simp [lget] at this
  | n + 1, x :: r, 0, v, h => by simpa [lpad, lget] using h
  | n + 1, x :: r, k + 1, v, h => by simp only [lpad, lget] at h ⊢; exact lpad_get n r k v h
theorem lpad_len : ∀ (n : Nat) (L : Ls), L.length ≤ n → (lpad n L).length = n
  | 0, [], _ => rfl
  | 0, _ :: _, h => by simp at h
  | n + 1, [], _ => by simp [lpad, lpad_len n [] (by simp)]
  | n + 1, x :: r, h => by simp [lpad]; exact lpad_len n r (by simpa using h)
theorem lent_len : ∀ (vs : List Value), (lent vs).length = (lg_sl vs).length
  | [] => rfl
  | w :: r => by
    have ih := lent_len r
    cases w <;> simp [lent, lg_sl, Value.category] at ih ⊢ <;> omega
theorem LV.entry (vs : List Value) {n : Nat} (h : (lent vs).length ≤ n) : LV ((lg_sl vs ++ List.replicate (n - (lg_sl vs).length) Slot.unset).toArray) n (lpad n (lent vs)) := by
  have h1 := lv_entry vs (n := n) (by rw [← lent_len]; exact h)
  refine ⟨⟨h1.1, h1.2.1, fun q hq => ?_⟩, lpad_len n _ h⟩
  obtain ⟨k, e1, e2⟩ := (toA_mem _ 0 q).mp hq
  have := lent_args vs 0 k q.2 (lpad_get _ _ _ _ e2)
  exact h1.2.2 q (by rw [show q = (0 + k, q.2) from Prod.ext e1 rfl]; exact this)
/-! the heap as the abstract one says; what is known of the tables -/
/-- base; the cells of NO_BYTES and of the text; classes, kinds of arrays -/
abbrev XE : Type := Nat × Nat × Nat × va_G × (Nat → ClassId)
def tysOf (dA : Nat → ClassId) : List (ClassId × FieldType) := [(dA 0, .byte), (dA 1, .int), (dA 2, .long), (dA 3, .array .int), (dA 4, .array .byte), (dA 5, .object RX0), (dA 6, .object RX1), (dA 7, .object RX9), (dA 8, .object RX11), (dA 9, .array (.object RX11)), (dA 10, .object RX10)]
def cvE (dA : Nat → ClassId) (c : Ce) : va_E := match c with
  | .inl (k, x) => .inl (dA k, x)
  | .inr o => .inr o
/-- an array of bytes holds bytes -/
def cok (c : Ce) : Prop := match c with
  | .inl (k, _, .inl f) => k = 0 → ∀ j, fits .byte (.int (f j)) = true
  | _ => True
def HR (E : XE) (h : Hp) (H : Heap) : Prop := H.size = h.1 ∧ ∀ (a : Nat) (w : Bool) (c : Ce), h.2.2 a = some (w, c) → va_at E.2.2.2.1 classes (a, cvE E.2.2.2.2 c) H ∧ (w = true → E.1 ≤ a) ∧ cok c
def nestW : List Cond := [.methodLinkNest RX7 11 yX4_init RX7, .methodLinkNest RX2 31 yX1_init RX7, .methodLinkNest RX1 11 yX4_init RX7, .methodLinkNest RX7 51 yX0_init RX7, .methodLinkNest RX0 11 yX1_init RX7, .methodLinkNest RX3 108 yX7_isTag RX7, .methodLinkNest RX3 104 yX7_isWide RX7, .methodLinkNest RX3 113 yX7_isNumber RX7, .methodLinkNest RX1 67 yX7_isNumber RX7, .methodLinkNest RX1 73 yX7_isWide RX7, .methodLinkNest RX6 32 yX7_isWide RX7, .methodLinkNest RX12 166 yX9_init RX12, .methodLinkNest RX12 101 yX11_init RX12, .methodLinkNest RX12 119 yX8_init RX12, .methodLinkNest RX12 200 yX10_init RX12]
abbrev XA (E : XE) : Nat → Prop := fun q => E.1 ≤ q
def KX (E : XE) (U : State) (H : Heap) : Prop := va_K E.2.2.2.1 classes (tysOf E.2.2.2.2) U ∧ (∀ w ∈ nestW, va_Nw w U) ∧ va_Nw (.fieldLinkNest RX10 7 RX12 "NO_BYTES" "[B" RX12) U ∧ va_Z RX12 "NO_BYTES" "[B" (.ref E.2.1) (XA E) U H ∧ va_Z RJ0 "COMPACT_STRINGS" "Z" (.int 1) (XA E) U H ∧ vk_R RX12 155 "BCDFIJSZ" E.2.2.1 U
end
section
/-! each step is sound -/
theorem KX.warm {E : XE} {s U : State} {H : Heap} (hW : s.WarmedH U.vm) (h : KX E s s.heap) (hq : ∀ q : Nat, q < s.heap.size → ¬ XA E q → H[q]? = s.heap[q]?) : KX E U H := by
  obtain ⟨h1, h2, h3, h4, h5, h6⟩ := h
  refine ⟨h1.moved hW.alike, ?_, h3.warmF hW, ((va_Z.moved hW.alike h4).kept hq), ((va_Z.moved hW.alike h5).kept hq), h6.warm hW⟩
  intro w hw
  have hz := h2 w hw
  simp only [nestW, List.mem_cons, List.not_mem_nil, or_false] at hw
  rcases hw with rfl | rfl | rfl | rfl | rfl | rfl | rfl | rfl | rfl | rfl | rfl | rfl | rfl | rfl | rfl <;> exact hz.warmM hW
theorem KX.same {E : XE} {u U : State} {H : Heap} (hv : u.vm = U.vm) (h : KX E u H) : KX E U H := by
  obtain ⟨h1, h2, h3, h4, h5, h6⟩ := h
  have ha : u.vm.Alike U.vm := by rw [hv]; exact Vm.Alike.refl _
  refine ⟨h1.moved ha, ?_, h3.same rfl hv, va_Z.moved ha h4, va_Z.moved ha h5, h6.same hv.symm⟩
  intro w hw
  have hz := h2 w hw
  simp only [nestW, List.mem_cons, List.not_mem_nil, or_false] at hw
  rcases hw with rfl | rfl | rfl | rfl | rfl | rfl | rfl | rfl | rfl | rfl | rfl | rfl | rfl | rfl | rfl <;> exact va_Nw.same rfl hv hz
/-- a method's frame of facts -/
def XC (E : XE) (I : MI) (R : Room) (p : Program) (s : State) (m : MethodId) (args : Array Value) (meth : Method) (c : Code) : Prop :=
  p.tables.exec = Jvm.exec ∧ c.code = I.2.1 ∧ c.maxLocals = I.2.2.1 ∧ s.vm.findClass I.1.cls = some m.cls ∧ meth.name = I.1.name ∧ meth.sig.returnType = I.2.2.2 ∧ meth.locks = false ∧ (∀ w ∈ lwg, w.before args s = true) ∧ KX E s s.heap ∧ E.1 ≤ s.heap.size ∧ 1 ≤ R.frames ∧ 64 ≤ R.locals
def wsOf (mid : Nat) : List Cond := Cond.code (mI mid).1 (mI mid).2.1 (mI mid).2.2.1 (mI mid).2.2.2 :: lwg
/-- from a state on, a step on -/
def SK (E : XE) (I : MI) (p : Program) (l : Launch) (e : Env) (R : Room) (s : State) (m : MethodId) (args : Array Value) (below : List Frame) (meth : Method) (c : Code) (pc : Nat) (L : Ls) (st : List Value) (h : Hp) (H : Heap) (ls : Array Slot) (locs : List Loc) (cells slots : Nat) (S : XStp) : Prop := match S with
  | .inl (pc', L', st', h') => h.1 ≤ h'.1 ∧ h.2.1 ≤ h'.2.1 ∧ ∀ Q : State → Prop, cells + (h'.1 - h.1) ≤ R.cells → slots + (h'.2.1 - h.2.1) ≤ R.slots → (∀ (H' : Heap) (ls' : Array Slot) (locs' : List Loc), HR E h' H' → LV ls' I.2.2.1 L' → va_S (XA E) s.heap H' locs' → W p l e R s m args below meth c H' locs' (cells + (h'.1 - h.1)) (slots + (h'.2.1 - h.2.1)) Q (F0 m pc' ls' st')) → W p l e R s m args below meth c H locs cells slots Q (F0 m pc ls st)
  | .inr (.inl (v, h')) => h' = h ∧ ∀ (Qc : Array Value → State → Outcome → State → Prop) (free : Addr → Prop), (∀ t : State, t.heap = H → s.WarmedH t.vm → Qc args s (.returned v) t) → (∀ q ∈ locs, free q.base) → W p l e R s m args below meth c H locs cells slots (MQ below Qc args s cells slots free) (F0 m pc ls st)
  | .inr (.inr (mid, As, pc', L', st', h')) => h' = h ∧ L' = L ∧ pc' = pc + 3 ∧ lvO (mI mid).1 < lvO I.1 ∧ ∀ (rm : Room) (Pc : Array Value → State → Prop) (Qc : Array Value → State → Outcome → State → Prop) (mc ms : Nat) (free : Addr → Prop), Met l (mI mid).1 (wsOf mid) rm Pc Qc mc ms free → rm.cells = mc → rm.slots = ms → rm.frames + 1 ≤ R.frames → 8 + ((mI mid).2.2.1 + 11) + rm.locals ≤ R.locals → FrameBlind Pc → (∀ U : State, U.heap = H → s.WarmedH U.vm → Pc As.toArray U) → cells + mc ≤ R.cells → slots + ms ≤ R.slots → va_Run p l e R s m args below meth c H locs cells slots mc ms (F0 m pc ls st) st' (Qc As.toArray) free
def SG (E : XE) (I : MI) (pc : Nat) (o : XOp) : Prop := ∀ (p : Program) (l : Launch) (e : Env) (R : Room) (s : State) (m : MethodId) (args : Array Value) (below : List Frame) (meth : Method) (c : Code), XC E I R p s m args meth c → ∀ (L : Ls) (st : List Value) (h : Hp) (S : XStp), o L st h = some S → ∀ (H : Heap) (ls : Array Slot) (locs : List Loc) (cells slots : Nat), HR E h H → LV ls I.2.2.1 L → va_S (XA E) s.heap H locs → SK E I p l e R s m args below meth c pc L st h H ls locs cells slots S
/-- a step that only moves values -/
theorem SG.mv {E : XE} {I : MI} {pc : Nat} {o : XOp} (hh : ∀ (p : Program) (l : Launch) (e : Env) (R : Room) (s : State) (m : MethodId) (args : Array Value) (below : List Frame) (meth : Method) (c : Code), XC E I R p s m args meth c → ∀ (L : Ls) (st : List Value) (h : Hp) (S : XStp), o L st h = some S → ∃ (pc' : Nat) (st' : List Value), S = .inl (pc', L, st', h) ∧ ∀ (H : Heap) (ls : Array Slot) (locs : List Loc) (cells slots : Nat) (Q : State → Prop), HR E h H → LV ls I.2.2.1 L → va_S (XA E) s.heap H locs → W p l e R s m args below meth c H locs cells slots Q (F0 m pc' ls st') → W p l e R s m args below meth c H locs cells slots Q (F0 m pc ls st)) : SG E I pc o := by
  intro p l e R s m args below meth c C L st h S hS H ls locs cells slots hH hL hs
  obtain ⟨pc', st', rfl, k⟩ := hh p l e R s m args below meth c C L st h S hS
  refine ⟨Nat.le_refl _, Nat.le_refl _, fun Q _ _ kk => k H ls locs cells slots Q hH hL hs ?_⟩
  have := kk H ls locs hH hL hs
  simpa using this
section SGS
variable {E : XE} {I : MI} {pc : Nat}
theorem sg_iconst {n : Int} {v : Int32} (d : decode I.2.1 pc = .ok (.iconst n, 1)) (hv : Int32.ofInt n = v) : SG E I pc (o_ic v (pc + 1)) := by
  refine SG.mv fun p l e R s m args below meth c C L st h S hS => ?_
  simp only [o_ic, Option.some.injEq] at hS; subst hS
  exact ⟨_, _, rfl, fun H ls locs cells slots Q hH hL hs k => lv_iconst C.1 C.2.1 d hv k⟩
theorem sg_bipush {n : Int} {v : Int32} (d : decode I.2.1 pc = .ok (.bipush n, 2)) (hv : (Int8.ofInt n).toInt32 = v) : SG E I pc (o_ic v (pc + 2)) := by
  refine SG.mv fun p l e R s m args below meth c C L st h S hS => ?_
  simp only [o_ic, Option.some.injEq] at hS; subst hS
  exact ⟨_, _, rfl, fun H ls locs cells slots Q hH hL hs k => lv_bipush C.1 C.2.1 d hv k⟩
theorem sg_sipush {n : Int} {v : Int32} (d : decode I.2.1 pc = .ok (.sipush n, 3)) (hv : (Int16.ofInt n).toInt32 = v) : SG E I pc (o_ic v (pc + 3)) := by
  refine SG.mv fun p l e R s m args below meth c C L st h S hS => ?_
  simp only [o_ic, Option.some.injEq] at hS; subst hS
  exact ⟨_, _, rfl, fun H ls locs cells slots Q hH hL hs k => lv_sipush C.1 C.2.1 d hv k⟩
theorem sg_ldc {i : Nat} {v : Int32} (d : decode I.2.1 pc = .ok (.ldc i, 2)) (hw : Cond.constant I.1.cls i v ∈ lwg) : SG E I pc (o_ic v (pc + 2)) := by
  refine SG.mv fun p l e R s m args below meth c C L st h S hS => ?_
  simp only [o_ic, Option.some.injEq] at hS; subst hS
  obtain ⟨hx, hb, hml, hown, hnm, hr, hlk, hts, hK, hbs⟩ := C
  exact ⟨_, _, rfl, fun H ls locs cells slots Q hH hL hs k => lv_ldc hx hb hown (hts _ hw) d k⟩
theorem sg_ldc2 {i : Nat} {v : Int64} (d : decode I.2.1 pc = .ok (.ldc2_w i, 3)) (hw : Cond.constantLong I.1.cls i v ∈ lwg) : SG E I pc (o_lc v (pc + 3)) := by
  refine SG.mv fun p l e R s m args below meth c C L st h S hS => ?_
  simp only [o_lc, Option.some.injEq] at hS; subst hS
  obtain ⟨hx, hb, hml, hown, hnm, hr, hlk, hts, hK, hbs⟩ := C
  exact ⟨_, _, rfl, fun H ls locs cells slots Q hH hL hs k => lv_ldc2 hx hb hown (hts _ hw) d k⟩
theorem sg_lconst {n : Fin 2} {v : Int64} (d : decode I.2.1 pc = .ok (.lconst n, 1)) (hv : Int64.ofNat (n : Nat) = v) : SG E I pc (o_lc v (pc + 1)) := by
  refine SG.mv fun p l e R s m args below meth c C L st h S hS => ?_
  simp only [o_lc, Option.some.injEq] at hS; subst hS
  exact ⟨_, _, rfl, fun H ls locs cells slots Q hH hL hs k => lv_lconst C.1 C.2.1 d hv k⟩
theorem sg_null (d : decode I.2.1 pc = .ok (.aconst_null, 1)) : SG E I pc (o_nul (pc + 1)) := by
  refine SG.mv fun p l e R s m args below meth c C L st h S hS => ?_
  simp only [o_nul, Option.some.injEq] at hS; subst hS
  exact ⟨_, _, rfl, fun H ls locs cells slots Q hH hL hs k => lv_null C.1 C.2.1 d k⟩
theorem sg_iload_n {k : Fin 4} {i : Nat} (d : decode I.2.1 pc = .ok (.iload_n k, 1)) (hi : (k : Nat) = i) : SG E I pc (o_il i (pc + 1)) := by
  refine SG.mv fun p l e R s m args below meth c C L st h S hS => ?_
  simp only [o_il] at hS; split at hS
  next x hx => simp only [Option.some.injEq] at hS; subst hS; exact ⟨_, _, rfl, fun H ls locs cells slots Q hH hL hs k => lv_iload_n C.1 C.2.1 d hi (hL.get hx) k⟩
  all_goals cases hS
theorem sg_iload {i : Nat} (d : decode I.2.1 pc = .ok (.iload i, 2)) : SG E I pc (o_il i (pc + 2)) := by
  refine SG.mv fun p l e R s m args below meth c C L st h S hS => ?_
  simp only [o_il] at hS; split at hS
  next x hx => simp only [Option.some.injEq] at hS; subst hS; exact ⟨_, _, rfl, fun H ls locs cells slots Q hH hL hs k => lv_iload C.1 C.2.1 d (hL.get hx) k⟩
  all_goals cases hS
theorem sg_lload_n {k : Fin 4} {i : Nat} (d : decode I.2.1 pc = .ok (.lload_n k, 1)) (hi : (k : Nat) = i) : SG E I pc (o_ll i (pc + 1)) := by
  refine SG.mv fun p l e R s m args below meth c C L st h S hS => ?_
  simp only [o_ll] at hS; split at hS
  next x hx => simp only [Option.some.injEq] at hS; subst hS; exact ⟨_, _, rfl, fun H ls locs cells slots Q hH hL hs k => lv_lload_n C.1 C.2.1 d hi (hL.get hx) k⟩
  all_goals cases hS
theorem sg_lload {i : Nat} (d : decode I.2.1 pc = .ok (.lload i, 2)) : SG E I pc (o_ll i (pc + 2)) := by
  refine SG.mv fun p l e R s m args below meth c C L st h S hS => ?_
  simp only [o_ll] at hS; split at hS
  next x hx => simp only [Option.some.injEq] at hS; subst hS; exact ⟨_, _, rfl, fun H ls locs cells slots Q hH hL hs k => lv_lload C.1 C.2.1 d (hL.get hx) k⟩
  all_goals cases hS
theorem sg_aload_n {k : Fin 4} {i : Nat} (d : decode I.2.1 pc = .ok (.aload_n k, 1)) (hi : (k : Nat) = i) : SG E I pc (o_al i (pc + 1)) := by
  refine SG.mv fun p l e R s m args below meth c C L st h S hS => ?_
  simp only [o_al] at hS; split at hS
  next x hx => simp only [Option.some.injEq] at hS; subst hS; exact ⟨_, _, rfl, fun H ls locs cells slots Q hH hL hs k => lv_aload_n C.1 C.2.1 d hi (hL.get hx) k⟩
  next hx => simp only [Option.some.injEq] at hS; subst hS; exact ⟨_, _, rfl, fun H ls locs cells slots Q hH hL hs k => lv_aload_nN C.1 C.2.1 d hi (hL.get hx) k⟩
  all_goals cases hS
theorem sg_aload {i : Nat} (d : decode I.2.1 pc = .ok (.aload i, 2)) : SG E I pc (o_al i (pc + 2)) := by
  refine SG.mv fun p l e R s m args below meth c C L st h S hS => ?_
  simp only [o_al] at hS; split at hS
  next x hx => simp only [Option.some.injEq] at hS; subst hS; exact ⟨_, _, rfl, fun H ls locs cells slots Q hH hL hs k => lv_aload C.1 C.2.1 d (hL.get hx) k⟩
  next hx => simp only [Option.some.injEq] at hS; subst hS; exact ⟨_, _, rfl, fun H ls locs cells slots Q hH hL hs k => lv_aloadN C.1 C.2.1 d (hL.get hx) k⟩
  all_goals cases hS
end SGS
end
section
/-! each step is sound: stores, arithmetic, branches -/
section SGT
variable {E : XE} {I : MI} {pc : Nat}
/-- a step that sets a local -/
theorem SG.lc {o : XOp} (hh : ∀ (p : Program) (l : Launch) (e : Env) (R : Room) (s : State) (m : MethodId) (args : Array Value) (below : List Frame) (meth : Method) (c : Code), XC E I R p s m args meth c → ∀ (L : Ls) (st : List Value) (h : Hp) (S : XStp), o L st h = some S → ∃ (pc' : Nat) (L' : Ls) (st' : List Value), S = .inl (pc', L', st', h) ∧ ∀ (H : Heap) (ls : Array Slot) (locs : List Loc) (cells slots : Nat) (Q : State → Prop), LV ls I.2.2.1 L → (∀ ls' : Array Slot, LV ls' I.2.2.1 L' → W p l e R s m args below meth c H locs cells slots Q (F0 m pc' ls' st')) → W p l e R s m args below meth c H locs cells slots Q (F0 m pc ls st)) : SG E I pc o := by
  intro p l e R s m args below meth c C L st h S hS H ls locs cells slots hH hL hs
  obtain ⟨pc', L', st', rfl, k⟩ := hh p l e R s m args below meth c C L st h S hS
  refine ⟨Nat.le_refl _, Nat.le_refl _, fun Q _ _ kk => k H ls locs cells slots Q hL fun ls' hl' => ?_⟩
  have := kk H ls' locs hH hl' hs
  simpa using this
theorem sg_istore_n {k : Fin 4} {i : Nat} (d : decode I.2.1 pc = .ok (.istore_n k, 1)) (hi : (k : Nat) = i) (hn : i < I.2.2.1) : SG E I pc (o_is i (pc + 1)) := by
  refine SG.lc fun p l e R s m args below meth c C L st h S hS => ?_
  simp only [o_is] at hS; split at hS
  next x r => simp only [Option.some.injEq] at hS; subst hS; exact ⟨_, _, _, rfl, fun H ls locs cells slots Q hL kk => lv_istore_n C.1 C.2.1 d hi hL.1 hn rfl (fun ls' hl' => kk ls' (LV.of1 hL.2 hl'))⟩
  all_goals cases hS
theorem sg_istore {i : Nat} (d : decode I.2.1 pc = .ok (.istore i, 2)) (hn : i < I.2.2.1) : SG E I pc (o_is i (pc + 2)) := by
  refine SG.lc fun p l e R s m args below meth c C L st h S hS => ?_
  simp only [o_is] at hS; split at hS
  next x r => simp only [Option.some.injEq] at hS; subst hS; exact ⟨_, _, _, rfl, fun H ls locs cells slots Q hL kk => lv_istore C.1 C.2.1 d hL.1 hn rfl (fun ls' hl' => kk ls' (LV.of1 hL.2 hl'))⟩
  all_goals cases hS
theorem sg_lstore_n {k : Fin 4} {i : Nat} (d : decode I.2.1 pc = .ok (.lstore_n k, 1)) (hi : (k : Nat) = i) (hn : i + 1 < I.2.2.1) : SG E I pc (o_ls i (pc + 1)) := by
  refine SG.lc fun p l e R s m args below meth c C L st h S hS => ?_
  simp only [o_ls] at hS; split at hS
  next x r => simp only [Option.some.injEq] at hS; subst hS; exact ⟨_, _, _, rfl, fun H ls locs cells slots Q hL kk => lv_lstore_n C.1 C.2.1 d hi hL.1 hn rfl (fun ls' hl' => kk ls' (LV.of2 hL.2 hl'))⟩
  all_goals cases hS
theorem sg_lstore {i : Nat} (d : decode I.2.1 pc = .ok (.lstore i, 2)) (hn : i + 1 < I.2.2.1) : SG E I pc (o_ls i (pc + 2)) := by
  refine SG.lc fun p l e R s m args below meth c C L st h S hS => ?_
  simp only [o_ls] at hS; split at hS
  next x r => simp only [Option.some.injEq] at hS; subst hS; exact ⟨_, _, _, rfl, fun H ls locs cells slots Q hL kk => lv_lstore C.1 C.2.1 d hL.1 hn rfl (fun ls' hl' => kk ls' (LV.of2 hL.2 hl'))⟩
  all_goals cases hS
theorem sg_astore_n {k : Fin 4} {i : Nat} (d : decode I.2.1 pc = .ok (.astore_n k, 1)) (hi : (k : Nat) = i) (hn : i < I.2.2.1) : SG E I pc (o_as i (pc + 1)) := by
  refine SG.lc fun p l e R s m args below meth c C L st h S hS => ?_
  simp only [o_as] at hS; split at hS
  next x r => simp only [Option.some.injEq] at hS; subst hS; exact ⟨_, _, _, rfl, fun H ls locs cells slots Q hL kk => lv_astore_n C.1 C.2.1 d hi hL.1 hn rfl (fun ls' hl' => kk ls' (LV.of1 hL.2 hl'))⟩
  next r => simp only [Option.some.injEq] at hS; subst hS; exact ⟨_, _, _, rfl, fun H ls locs cells slots Q hL kk => lv_astore_nN C.1 C.2.1 d hi hL.1 hn rfl (fun ls' hl' => kk ls' (LV.of1 hL.2 hl'))⟩
  all_goals cases hS
theorem sg_astore {i : Nat} (d : decode I.2.1 pc = .ok (.astore i, 2)) (hn : i < I.2.2.1) : SG E I pc (o_as i (pc + 2)) := by
  refine SG.lc fun p l e R s m args below meth c C L st h S hS => ?_
  simp only [o_as] at hS; split at hS
  next x r => simp only [Option.some.injEq] at hS; subst hS; exact ⟨_, _, _, rfl, fun H ls locs cells slots Q hL kk => lv_astore C.1 C.2.1 d hL.1 hn rfl (fun ls' hl' => kk ls' (LV.of1 hL.2 hl'))⟩
  next r => simp only [Option.some.injEq] at hS; subst hS; exact ⟨_, _, _, rfl, fun H ls locs cells slots Q hL kk => lv_astoreN C.1 C.2.1 d hL.1 hn rfl (fun ls' hl' => kk ls' (LV.of1 hL.2 hl'))⟩
  all_goals cases hS
theorem sg_iinc {i : Nat} {n : Int} {v : Int32} (d : decode I.2.1 pc = .ok (.iinc i n, 3)) (hv : Int32.ofInt n = v) (hn : i < I.2.2.1) : SG E I pc (o_inc i v (pc + 3)) := by
  refine SG.lc fun p l e R s m args below meth c C L st h S hS => ?_
  simp only [o_inc] at hS; split at hS
  next x hx =>
    simp only [Option.some.injEq] at hS; subst hS
    refine ⟨_, _, _, rfl, fun H ls locs cells slots Q hL kk => ?_⟩
    obtain ⟨k, hk⟩ := List.getElem?_of_mem ((toA_mem L 0 (i, .int x)).mpr ⟨i, by simp, hx⟩)
    exact lv_iinc C.1 C.2.1 d hL.1 hk (by rw [hv]) hn rfl (fun ls' hl' => kk ls' (LV.of1 hL.2 hl'))
  all_goals cases hS
theorem sg_iadd (d : decode I.2.1 pc = .ok (.iadd, 1)) : SG E I pc (o_iadd (pc + 1)) := by
  refine SG.mv fun p l e R s m args below meth c C L st h S hS => ?_
  simp only [o_iadd, o_b] at hS; split at hS
  next y x r => simp only [Option.some.injEq] at hS; subst hS; exact ⟨_, _, rfl, fun H ls locs cells slots Q hH hL hs k => lv_iadd C.1 C.2.1 d k⟩
  all_goals cases hS
theorem sg_isub (d : decode I.2.1 pc = .ok (.isub, 1)) : SG E I pc (o_isub (pc + 1)) := by
  refine SG.mv fun p l e R s m args below meth c C L st h S hS => ?_
  simp only [o_isub, o_b] at hS; split at hS
  next y x r => simp only [Option.some.injEq] at hS; subst hS; exact ⟨_, _, rfl, fun H ls locs cells slots Q hH hL hs k => lv_isub C.1 C.2.1 d k⟩
  all_goals cases hS
theorem sg_imul (d : decode I.2.1 pc = .ok (.imul, 1)) : SG E I pc (o_imul (pc + 1)) := by
  refine SG.mv fun p l e R s m args below meth c C L st h S hS => ?_
  simp only [o_imul, o_b] at hS; split at hS
  next y x r => simp only [Option.some.injEq] at hS; subst hS; exact ⟨_, _, rfl, fun H ls locs cells slots Q hH hL hs k => lv_imul C.1 C.2.1 d k⟩
  all_goals cases hS
theorem sg_iand (d : decode I.2.1 pc = .ok (.iand, 1)) : SG E I pc (o_iand (pc + 1)) := by
  refine SG.mv fun p l e R s m args below meth c C L st h S hS => ?_
  simp only [o_iand, o_b] at hS; split at hS
  next y x r => simp only [Option.some.injEq] at hS; subst hS; exact ⟨_, _, rfl, fun H ls locs cells slots Q hH hL hs k => lv_iand C.1 C.2.1 d k⟩
  all_goals cases hS
theorem sg_ior (d : decode I.2.1 pc = .ok (.ior, 1)) : SG E I pc (o_ior (pc + 1)) := by
  refine SG.mv fun p l e R s m args below meth c C L st h S hS => ?_
  simp only [o_ior, o_b] at hS; split at hS
  next y x r => simp only [Option.some.injEq] at hS; subst hS; exact ⟨_, _, rfl, fun H ls locs cells slots Q hH hL hs k => lv_ior C.1 C.2.1 d k⟩
  all_goals cases hS
theorem sg_ishl (d : decode I.2.1 pc = .ok (.ishl, 1)) : SG E I pc (o_ishl (pc + 1)) := by
  refine SG.mv fun p l e R s m args below meth c C L st h S hS => ?_
  simp only [o_ishl, o_b] at hS; split at hS
  next y x r => simp only [Option.some.injEq] at hS; subst hS; exact ⟨_, _, rfl, fun H ls locs cells slots Q hH hL hs k => lv_ishl C.1 C.2.1 d k⟩
  all_goals cases hS
theorem sg_ishr (d : decode I.2.1 pc = .ok (.ishr, 1)) : SG E I pc (o_ishr (pc + 1)) := by
  refine SG.mv fun p l e R s m args below meth c C L st h S hS => ?_
  simp only [o_ishr, o_b] at hS; split at hS
  next y x r => simp only [Option.some.injEq] at hS; subst hS; exact ⟨_, _, rfl, fun H ls locs cells slots Q hH hL hs k => lv_ishr C.1 C.2.1 d k⟩
  all_goals cases hS
theorem sg_ineg (d : decode I.2.1 pc = .ok (.ineg, 1)) : SG E I pc (o_ineg (pc + 1)) := by
  refine SG.mv fun p l e R s m args below meth c C L st h S hS => ?_
  simp only [o_ineg] at hS; split at hS
  next x r => simp only [Option.some.injEq] at hS; subst hS; exact ⟨_, _, rfl, fun H ls locs cells slots Q hH hL hs k => lv_ineg C.1 C.2.1 d k⟩
  all_goals cases hS
theorem sg_i2b (d : decode I.2.1 pc = .ok (.i2b, 1)) : SG E I pc (o_i2b (pc + 1)) := by
  refine SG.mv fun p l e R s m args below meth c C L st h S hS => ?_
  simp only [o_i2b] at hS; split at hS
  next x r => simp only [Option.some.injEq] at hS; subst hS; exact ⟨_, _, rfl, fun H ls locs cells slots Q hH hL hs k => lv_i2b C.1 C.2.1 d rfl k⟩
  all_goals cases hS
theorem sg_i2l (d : decode I.2.1 pc = .ok (.i2l, 1)) : SG E I pc (o_i2l (pc + 1)) := by
  refine SG.mv fun p l e R s m args below meth c C L st h S hS => ?_
  simp only [o_i2l] at hS; split at hS
  next x r => simp only [Option.some.injEq] at hS; subst hS; exact ⟨_, _, rfl, fun H ls locs cells slots Q hH hL hs k => lv_i2l C.1 C.2.1 d rfl k⟩
  all_goals cases hS
theorem sg_l2i (d : decode I.2.1 pc = .ok (.l2i, 1)) : SG E I pc (o_l2i (pc + 1)) := by
  refine SG.mv fun p l e R s m args below meth c C L st h S hS => ?_
  simp only [o_l2i] at hS; split at hS
  next x r => simp only [Option.some.injEq] at hS; subst hS; exact ⟨_, _, rfl, fun H ls locs cells slots Q hH hL hs k => lv_l2i C.1 C.2.1 d rfl k⟩
  all_goals cases hS
theorem sg_land (d : decode I.2.1 pc = .ok (.land, 1)) : SG E I pc (o_land (pc + 1)) := by
  refine SG.mv fun p l e R s m args below meth c C L st h S hS => ?_
  simp only [o_land, o_lb] at hS; split at hS
  next y x r => simp only [Option.some.injEq] at hS; subst hS; exact ⟨_, _, rfl, fun H ls locs cells slots Q hH hL hs k => lv_land C.1 C.2.1 d k⟩
  all_goals cases hS
theorem sg_lor (d : decode I.2.1 pc = .ok (.lor, 1)) : SG E I pc (o_lor (pc + 1)) := by
  refine SG.mv fun p l e R s m args below meth c C L st h S hS => ?_
  simp only [o_lor, o_lb] at hS; split at hS
  next y x r => simp only [Option.some.injEq] at hS; subst hS; exact ⟨_, _, rfl, fun H ls locs cells slots Q hH hL hs k => lv_lor C.1 C.2.1 d k⟩
  all_goals cases hS
theorem sg_lshl (d : decode I.2.1 pc = .ok (.lshl, 1)) : SG E I pc (o_lshl (pc + 1)) := by
  refine SG.mv fun p l e R s m args below meth c C L st h S hS => ?_
  simp only [o_lshl, o_lsh] at hS; split at hS
  next y x r => simp only [Option.some.injEq] at hS; subst hS; exact ⟨_, _, rfl, fun H ls locs cells slots Q hH hL hs k => lv_lshl C.1 C.2.1 d rfl k⟩
  all_goals cases hS
theorem sg_lshr (d : decode I.2.1 pc = .ok (.lshr, 1)) : SG E I pc (o_lshr (pc + 1)) := by
  refine SG.mv fun p l e R s m args below meth c C L st h S hS => ?_
  simp only [o_lshr, o_lsh] at hS; split at hS
  next y x r => simp only [Option.some.injEq] at hS; subst hS; exact ⟨_, _, rfl, fun H ls locs cells slots Q hH hL hs k => lv_lshr C.1 C.2.1 d rfl k⟩
  all_goals cases hS
theorem sg_lcmp (d : decode I.2.1 pc = .ok (.lcmp, 1)) : SG E I pc (o_lcmp (pc + 1)) := by
  refine SG.mv fun p l e R s m args below meth c C L st h S hS => ?_
  simp only [o_lcmp] at hS; split at hS
  next y x r => simp only [Option.some.injEq] at hS; subst hS; exact ⟨_, _, rfl, fun H ls locs cells slots Q hH hL hs k => W.lcmp C.1 C.2.1 d k⟩
  all_goals cases hS
theorem sg_dup (d : decode I.2.1 pc = .ok (.dup, 1)) : SG E I pc (o_dup (pc + 1)) := by
  refine SG.mv fun p l e R s m args below meth c C L st h S hS => ?_
  simp only [o_dup] at hS; split at hS
  next x r => simp only [Option.some.injEq] at hS; subst hS; exact ⟨_, _, rfl, fun H ls locs cells slots Q hH hL hs k => lv_dup C.1 C.2.1 d rfl k⟩
  next x r => simp only [Option.some.injEq] at hS; subst hS; exact ⟨_, _, rfl, fun H ls locs cells slots Q hH hL hs k => lv_dup C.1 C.2.1 d rfl k⟩
  all_goals cases hS
theorem sg_pop (d : decode I.2.1 pc = .ok (.pop, 1)) : SG E I pc (o_pop (pc + 1)) := by
  refine SG.mv fun p l e R s m args below meth c C L st h S hS => ?_
  simp only [o_pop] at hS; split at hS
  next x r => simp only [Option.some.injEq] at hS; subst hS; exact ⟨_, _, rfl, fun H ls locs cells slots Q hH hL hs k => lv_pop C.1 C.2.1 d rfl k⟩
  next x r => simp only [Option.some.injEq] at hS; subst hS; exact ⟨_, _, rfl, fun H ls locs cells slots Q hH hL hs k => lv_pop C.1 C.2.1 d rfl k⟩
  all_goals cases hS
theorem sg_ifeq {off : Int} {t : Nat} (d : decode I.2.1 pc = .ok (.ifCond .eq off, 3)) (ht : (pc : Int) + off = (t : Int)) : SG E I pc (o_ifeq t (pc + 3)) := by
  refine SG.mv fun p l e R s m args below meth c C L st h S hS => ?_
  simp only [o_ifeq, o_if] at hS; split at hS
  next x r =>
    simp only [Option.some.injEq] at hS; subst hS
    refine ⟨_, _, rfl, fun H ls locs cells slots Q hH hL hs k => lv_if_eq C.1 C.2.1 d ht (fun q => ?_) (fun q => ?_)⟩
    · simpa [q] using k
    · simpa [q] using k
  all_goals cases hS
theorem sg_ifne {off : Int} {t : Nat} (d : decode I.2.1 pc = .ok (.ifCond .ne off, 3)) (ht : (pc : Int) + off = (t : Int)) : SG E I pc (o_ifne t (pc + 3)) := by
  refine SG.mv fun p l e R s m args below meth c C L st h S hS => ?_
  simp only [o_ifne, o_if] at hS; split at hS
  next x r =>
    simp only [Option.some.injEq] at hS; subst hS
    refine ⟨_, _, rfl, fun H ls locs cells slots Q hH hL hs k => lv_if_ne C.1 C.2.1 d ht (fun q => ?_) (fun q => ?_)⟩
    · simpa [q] using k
    · simpa [q] using k
  all_goals cases hS
theorem sg_iflt {off : Int} {t : Nat} (d : decode I.2.1 pc = .ok (.ifCond .lt off, 3)) (ht : (pc : Int) + off = (t : Int)) : SG E I pc (o_iflt t (pc + 3)) := by
  refine SG.mv fun p l e R s m args below meth c C L st h S hS => ?_
  simp only [o_iflt, o_if] at hS; split at hS
  next x r =>
    simp only [Option.some.injEq] at hS; subst hS
    refine ⟨_, _, rfl, fun H ls locs cells slots Q hH hL hs k => lv_if_lt C.1 C.2.1 d ht (fun q => ?_) (fun q => ?_)⟩
    · simpa [q] using k
    · simpa [q] using k
  all_goals cases hS
theorem sg_ifge {off : Int} {t : Nat} (d : decode I.2.1 pc = .ok (.ifCond .ge off, 3)) (ht : (pc : Int) + off = (t : Int)) : SG E I pc (o_ifge t (pc + 3)) := by
  refine SG.mv fun p l e R s m args below meth c C L st h S hS => ?_
  simp only [o_ifge, o_if] at hS; split at hS
  next x r =>
    simp only [Option.some.injEq] at hS; subst hS
    refine ⟨_, _, rfl, fun H ls locs cells slots Q hH hL hs k => lv_if_ge C.1 C.2.1 d ht (fun q => ?_) (fun q => ?_)⟩
    · simpa [q] using k
    · simpa [q] using k
  all_goals cases hS
theorem sg_ifgt {off : Int} {t : Nat} (d : decode I.2.1 pc = .ok (.ifCond .gt off, 3)) (ht : (pc : Int) + off = (t : Int)) : SG E I pc (o_ifgt t (pc + 3)) := by
  refine SG.mv fun p l e R s m args below meth c C L st h S hS => ?_
  simp only [o_ifgt, o_if] at hS; split at hS
  next x r =>
    simp only [Option.some.injEq] at hS; subst hS
    refine ⟨_, _, rfl, fun H ls locs cells slots Q hH hL hs k => lv_if_gt C.1 C.2.1 d ht (fun q => ?_) (fun q => ?_)⟩
    · simpa [q] using k
    · simpa [q] using k
  all_goals cases hS
theorem sg_ifle {off : Int} {t : Nat} (d : decode I.2.1 pc = .ok (.ifCond .le off, 3)) (ht : (pc : Int) + off = (t : Int)) : SG E I pc (o_ifle t (pc + 3)) := by
  refine SG.mv fun p l e R s m args below meth c C L st h S hS => ?_
  simp only [o_ifle, o_if] at hS; split at hS
  next x r =>
    simp only [Option.some.injEq] at hS; subst hS
    refine ⟨_, _, rfl, fun H ls locs cells slots Q hH hL hs k => lv_if_le C.1 C.2.1 d ht (fun q => ?_) (fun q => ?_)⟩
    · simpa [q] using k
    · simpa [q] using k
  all_goals cases hS
theorem sg_ceq {off : Int} {t : Nat} (d : decode I.2.1 pc = .ok (.if_icmp .eq off, 3)) (ht : (pc : Int) + off = (t : Int)) : SG E I pc (o_ceq t (pc + 3)) := by
  refine SG.mv fun p l e R s m args below meth c C L st h S hS => ?_
  simp only [o_ceq, o_cmp] at hS; split at hS
  next y x r =>
    simp only [Option.some.injEq] at hS; subst hS
    refine ⟨_, _, rfl, fun H ls locs cells slots Q hH hL hs k => lv_icmp_eq C.1 C.2.1 d ht (fun q => ?_) (fun q => ?_)⟩
    · simpa [q] using k
    · simpa [q] using k
  all_goals cases hS
theorem sg_cne {off : Int} {t : Nat} (d : decode I.2.1 pc = .ok (.if_icmp .ne off, 3)) (ht : (pc : Int) + off = (t : Int)) : SG E I pc (o_cne t (pc + 3)) := by
  refine SG.mv fun p l e R s m args below meth c C L st h S hS => ?_
  simp only [o_cne, o_cmp] at hS; split at hS
  next y x r =>
    simp only [Option.some.injEq] at hS; subst hS
    refine ⟨_, _, rfl, fun H ls locs cells slots Q hH hL hs k => lv_icmp_ne C.1 C.2.1 d ht (fun q => ?_) (fun q => ?_)⟩
    · simpa [q] using k
    · simpa [q] using k
  all_goals cases hS
theorem sg_clt {off : Int} {t : Nat} (d : decode I.2.1 pc = .ok (.if_icmp .lt off, 3)) (ht : (pc : Int) + off = (t : Int)) : SG E I pc (o_clt t (pc + 3)) := by
  refine SG.mv fun p l e R s m args below meth c C L st h S hS => ?_
  simp only [o_clt, o_cmp] at hS; split at hS
  next y x r =>
    simp only [Option.some.injEq] at hS; subst hS
    refine ⟨_, _, rfl, fun H ls locs cells slots Q hH hL hs k => lv_icmp_lt C.1 C.2.1 d ht (fun q => ?_) (fun q => ?_)⟩
    · simpa [q] using k
    · simpa [q] using k
  all_goals cases hS
theorem sg_cge {off : Int} {t : Nat} (d : decode I.2.1 pc = .ok (.if_icmp .ge off, 3)) (ht : (pc : Int) + off = (t : Int)) : SG E I pc (o_cge t (pc + 3)) := by
  refine SG.mv fun p l e R s m args below meth c C L st h S hS => ?_
  simp only [o_cge, o_cmp] at hS; split at hS
  next y x r =>
    simp only [Option.some.injEq] at hS; subst hS
    refine ⟨_, _, rfl, fun H ls locs cells slots Q hH hL hs k => lv_icmp_ge C.1 C.2.1 d ht (fun q => ?_) (fun q => ?_)⟩
    · simpa [q] using k
    · simpa [q] using k
  all_goals cases hS
theorem sg_cgt {off : Int} {t : Nat} (d : decode I.2.1 pc = .ok (.if_icmp .gt off, 3)) (ht : (pc : Int) + off = (t : Int)) : SG E I pc (o_cgt t (pc + 3)) := by
  refine SG.mv fun p l e R s m args below meth c C L st h S hS => ?_
  simp only [o_cgt, o_cmp] at hS; split at hS
  next y x r =>
    simp only [Option.some.injEq] at hS; subst hS
    refine ⟨_, _, rfl, fun H ls locs cells slots Q hH hL hs k => lv_icmp_gt C.1 C.2.1 d ht (fun q => ?_) (fun q => ?_)⟩
    · simpa [q] using k
    · simpa [q] using k
  all_goals cases hS
theorem sg_cle {off : Int} {t : Nat} (d : decode I.2.1 pc = .ok (.if_icmp .le off, 3)) (ht : (pc : Int) + off = (t : Int)) : SG E I pc (o_cle t (pc + 3)) := by
  refine SG.mv fun p l e R s m args below meth c C L st h S hS => ?_
  simp only [o_cle, o_cmp] at hS; split at hS
  next y x r =>
    simp only [Option.some.injEq] at hS; subst hS
    refine ⟨_, _, rfl, fun H ls locs cells slots Q hH hL hs k => lv_icmp_le C.1 C.2.1 d ht (fun q => ?_) (fun q => ?_)⟩
    · simpa [q] using k
    · simpa [q] using k
  all_goals cases hS
theorem sg_goto {off : Int} {t : Nat} (d : decode I.2.1 pc = .ok (.goto off, 3)) (ht : (pc : Int) + off = (t : Int)) : SG E I pc (o_goto t) := by
  refine SG.mv fun p l e R s m args below meth c C L st h S hS => ?_
  simp only [o_goto, Option.some.injEq] at hS; subst hS
  exact ⟨_, _, rfl, fun H ls locs cells slots Q hH hL hs k => lv_goto C.1 C.2.1 d ht k⟩
theorem sg_ifnull {off : Int} {t : Nat} (d : decode I.2.1 pc = .ok (.ifnull off, 3)) (ht : (pc : Int) + off = (t : Int)) : SG E I pc (o_ifn t (pc + 3)) := by
  refine SG.mv fun p l e R s m args below meth c C L st h S hS => ?_
  simp only [o_ifn] at hS; split at hS
  next x r => simp only [Option.some.injEq] at hS; subst hS; exact ⟨_, _, rfl, fun H ls locs cells slots Q hH hL hs k => lv_ifnull C.1 C.2.1 d k⟩
  next r => simp only [Option.some.injEq] at hS; subst hS; exact ⟨_, _, rfl, fun H ls locs cells slots Q hH hL hs k => lv_ifnullN C.1 C.2.1 d ht k⟩
  all_goals cases hS
theorem sg_ifnonnull {off : Int} {t : Nat} (d : decode I.2.1 pc = .ok (.ifnonnull off, 3)) (ht : (pc : Int) + off = (t : Int)) : SG E I pc (o_ifnn t (pc + 3)) := by
  refine SG.mv fun p l e R s m args below meth c C L st h S hS => ?_
  simp only [o_ifnn] at hS; split at hS
  next x r => simp only [Option.some.injEq] at hS; subst hS; exact ⟨_, _, rfl, fun H ls locs cells slots Q hH hL hs k => lv_ifnonnull C.1 C.2.1 d ht k⟩
  next r => simp only [Option.some.injEq] at hS; subst hS; exact ⟨_, _, rfl, fun H ls locs cells slots Q hH hL hs k => lv_ifnonnullN C.1 C.2.1 d k⟩
  all_goals cases hS
/-- the switch by offsets, and by targets -/
theorem swp_lookup (x : Int32) (pc : Nat) : ∀ (qs : List (Int × Int)) (ps : List (Int32 × Nat)) (dflt : Int) (df : Nat), qs.length = ps.length → (∀ (k : Nat) (a : Int × Int) (b : Int32 × Nat), qs[k]? = some a → ps[k]? = some b → a.1 = b.1.toInt ∧ (pc : Int) + a.2 = (b.2 : Int)) → (pc : Int) + dflt = (df : Int) → (pc : Int) + Op.lookupswitch.offset qs dflt x.toInt = (o_swp x ps df : Int)
  | [], [], dflt, df, _, _, hd => by simpa [Op.lookupswitch.offset, o_swp] using hd
  | [], _ :: _, _, _, h, _, _ => by simp at h
  | _ :: _, [], _, _, h, _, _ => by simp at h
  | (a, oa) :: qs, (b, tb) :: ps, dflt, df, hl, hk, hd => by
    have h0 := hk 0 (a, oa) (b, tb) rfl rfl
    have ih := swp_lookup x pc qs ps dflt df (by simpa using hl) (fun k u v hu hv => hk (k + 1) u v (by simpa using hu) (by simpa using hv)) hd
    simp only [o_swp]
    by_cases e : x = b
    · subst e
      rw [Op.lookupswitch.offset_cons, if_pos (show a = x.toInt from h0.1)]
      simpa using h0.2
    · rw [lv_osw e h0.1.symm]
      simpa [e] using ih
theorem sg_lookup {dflt : Int} {qs : Array (Int × Int)} {len : Nat} {ps : List (Int32 × Nat)} {df : Nat} (d : decode I.2.1 pc = .ok (.lookupswitch dflt qs, len)) (hp : (qs.toList.zip (qs.toList.drop 1)).all (fun (a, next) => a.1 < next.1) = true) (hl : qs.toList.length = ps.length) (hk : (qs.toList.zip ps).all (fun (a, b) => decide (a.1 = b.1.toInt) && decide ((pc : Int) + a.2 = (b.2 : Int))) = true) (hd : (pc : Int) + dflt = (df : Int)) : SG E I pc (o_sw ps df) := by
  refine SG.mv fun p l e R s m args below meth c C L st h S hS => ?_
  simp only [o_sw] at hS; split at hS
  next x r =>
    simp only [Option.some.injEq] at hS; subst hS
    refine ⟨_, _, rfl, fun H ls locs cells slots Q hH hL hs k => lv_lookup C.1 C.2.1 d hp rfl (swp_lookup x pc qs.toList ps dflt df hl (fun k a b ha hb => ?_) hd) k⟩
    have hm : (a, b) ∈ qs.toList.zip ps := List.mem_of_getElem? (i := k) (by rw [List.getElem?_zip_eq_some]; exact ⟨ha, hb⟩)
    have := List.all_eq_true.mp hk _ hm
    simpa using this
  all_goals cases hS
theorem swp_at (x : Int32) : ∀ (ps : List (Int32 × Nat)) (df k : Nat) (b : Int32 × Nat), ps[k]? = some b → x = b.1 → (∀ (j : Nat) (b' : Int32 × Nat), j < k → ps[j]? = some b' → ¬ x = b'.1) → o_swp x ps df = b.2
  | [], df, k, b, h, _, _ => by simp at h
  | (u, t) :: ps, df, 0, b, h, hx, _ => by simp at h; subst h; simp [o_swp, hx]
  | (u, t) :: ps, df, k + 1, b, h, hx, hn => by
    have h0 := hn 0 (u, t) (by omega) rfl
    simp only at h0
    simp only [o_swp, h0, decide_false, cond_false]
    exact swp_at x ps df k b (by simpa using h) hx (fun j b' hj hb => hn (j + 1) b' (by omega) (by simpa using hb))
theorem swp_out (x : Int32) : ∀ (ps : List (Int32 × Nat)) (df : Nat), (∀ (j : Nat) (b' : Int32 × Nat), ps[j]? = some b' → ¬ x = b'.1) → o_swp x ps df = df
  | [], df, _ => rfl
  | (u, t) :: ps, df, hn => by
    have h0 := hn 0 (u, t) rfl
    simp only at h0
    simp only [o_swp, h0, decide_false, cond_false]
    exact swp_out x ps df (fun j b' hb => hn (j + 1) b' (by simpa using hb))
theorem sg_table {dflt lo hi : Int} {offs : Array Int} {len : Nat} {ps : List (Int32 × Nat)} {df : Nat} (d : decode I.2.1 pc = .ok (.tableswitch dflt lo hi offs, len)) (hl : offs.toList.length = ps.length) (hh : (ps.length : Int) = hi - lo + 1) (hk : ((offs.toList.zip ps).zip (List.range ps.length)).all (fun (a, k) => decide (a.2.1.toInt = lo + (k : Int)) && decide ((pc : Int) + a.1 = (a.2.2 : Int))) = true) (hd : (pc : Int) + dflt = (df : Int)) : SG E I pc (o_sw ps df) := by
  have key : ∀ (k : Nat) (b : Int32 × Nat), ps[k]? = some b → b.1.toInt = lo + (k : Int) ∧ ∃ a, offs.toList[k]? = some a ∧ (pc : Int) + a = (b.2 : Int) := by
    intro k b hb
    have hkl : k < ps.length := (List.getElem?_eq_some_iff.mp hb).1
    have ho : offs.toList[k]? = some (offs.toList[k]'(by omega)) := List.getElem?_eq_getElem (by omega)
    have hm : ((offs.toList[k]'(by omega), b), k) ∈ (offs.toList.zip ps).zip (List.range ps.length) := List.mem_of_getElem? (i := k) (by rw [List.getElem?_zip_eq_some, List.getElem?_zip_eq_some]; exact ⟨⟨ho, hb⟩, by simp [hkl]⟩)
    have := List.all_eq_true.mp hk _ hm
    simp only [Bool.and_eq_true, decide_eq_true_eq] at this
    exact ⟨this.1, _, ho, this.2⟩
  refine SG.mv fun p l e R s m args below meth c C L st h S hS => ?_
  simp only [o_sw] at hS; split at hS
  next x r =>
    simp only [Option.some.injEq] at hS; subst hS
    refine ⟨_, _, rfl, fun H ls locs cells slots Q hH hL hs k => ?_⟩
    by_cases hout : x.toInt < lo ∨ hi < x.toInt
    · have e : o_swp x ps df = df := swp_out x ps df fun j b hb hx => by
        have h1 := (key j b hb).1
        have h2 : j < ps.length := (List.getElem?_eq_some_iff.mp hb).1
        rw [← hx] at h1
        omega
      rw [e] at k
      exact lv_tableOut C.1 C.2.1 d hout hd k
    · have hj : (x.toInt - lo).toNat < ps.length := by omega
      obtain ⟨b, hb⟩ : ∃ b, ps[(x.toInt - lo).toNat]? = some b := ⟨_, List.getElem?_eq_getElem hj⟩
      obtain ⟨h1, a, h2, h3⟩ := key _ b hb
      have e : o_swp x ps df = b.2 := swp_at x ps df _ b hb (Int32.toInt_inj.mp (by omega)) fun j b' hjl hb' hx => by
        have h4 := (key j b' hb').1
        rw [← hx] at h4
        omega
      rw [e] at k
      exact lv_tableIn C.1 C.2.1 d (fun q => hout (Or.inl q)) (fun q => hout (Or.inr q)) (by rw [← Array.getElem?_toList]; exact h2) h3 k
  all_goals cases hS
end SGT
end
section
/-! each step is sound: the heap -/
theorem HR.lt {E : XE} {h : Hp} {H : Heap} (hH : HR E h H) {a : Nat} {w : Bool} {c : Ce} (e : h.2.2 a = some (w, c)) : a < h.1 := by
  rw [← hH.1]; exact (hH.2 a w c e).1.lt
theorem HR.one {E : XE} {h : Hp} {H : Heap} (hH : HR E h H) {a : Nat} {w : Bool} {c : Ce} (e : h.2.2 a = some (w, c)) : va_P E.2.2.2.1 classes [(a, cvE E.2.2.2.2 c)] H := by
  intro k q hk
  have hz : k < 1 := (List.getElem?_eq_some_iff.mp hk).1
  rw [show k = 0 by omega] at hk
  cases hk
  exact (hH.2 a w c e).1
theorem HR.set {E : XE} {h : Hp} {H H' : Heap} (hH : HR E h H) {a : Nat} {c0 c : Ce} (e : h.2.2 a = some (true, c0)) (hz : H'.size = H.size) (ho : ∀ q : Nat, q ≠ a → H'[q]? = H[q]?) (hc : va_at E.2.2.2.1 classes (a, cvE E.2.2.2.2 c) H') (hk : cok c) : HR E (hset h a c) H' := by
  refine ⟨by rw [hz]; exact hH.1, fun b w d hb => ?_⟩
  simp only [hset] at hb
  by_cases hba : b = a
  · subst hba
    simp at hb
    obtain ⟨rfl, rfl⟩ := hb
    exact ⟨hc, (hH.2 b true c0 e).2.1, hk⟩
  · rw [if_neg hba] at hb
    obtain ⟨h1, h2, h3⟩ := hH.2 b w d hb
    exact ⟨h1.kept (ho b hba), h2, h3⟩
theorem HR.new {E : XE} {h : Hp} {H H' : Heap} (hH : HR E h H) (hb : E.1 ≤ H.size) {n : Nat} {c : Ce} (hz : H'.size = H.size + 1) (ho : ∀ q : Nat, q < H.size → H'[q]? = H[q]?) (hc : va_at E.2.2.2.1 classes (h.1, cvE E.2.2.2.2 c) H') (hk : cok c) : HR E (hnew h n c) H' := by
  refine ⟨by rw [hz, hH.1]; rfl, fun b w d hbd => ?_⟩
  simp only [hnew] at hbd
  by_cases hba : b = h.1
  · subst hba
    simp at hbd
    obtain ⟨rfl, rfl⟩ := hbd
    exact ⟨hc, fun _ => by rw [← hH.1]; exact hb, hk⟩
  · rw [if_neg hba] at hbd
    obtain ⟨h1, h2, h3⟩ := hH.2 b w d hbd
    exact ⟨h1.kept (ho b h1.lt), h2, h3⟩
theorem XA_S {E : XE} {H0 H H' : Heap} {locs : List Loc} (hS : va_S (XA E) H0 H locs) (hb : E.1 ≤ H0.size) (hz : H'.size = H.size + 1) (ho : ∀ q : Nat, q < H.size → H'[q]? = H[q]?) : va_S (XA E) H0 H' locs := ⟨Nat.le_trans hS.1 (by omega), fun x h1 h2 => (ho x (Nat.lt_of_lt_of_le h1 hS.1)).trans (hS.2.1 x h1 h2), hS.2.2⟩
section SGH
variable {E : XE} {I : MI} {pc : Nat}
theorem sg_getf {C : String} {T : u_T} {N ci k i : Nat} (d : decode I.2.1 pc = .ok (.getfield i, 3)) (hc : classes[ci]? = some (C, T, N)) (hin : ∀ w ∈ u_ws C T N, w ∈ lwg) (hk : k < N) (hw : Cond.fieldLink I.1.cls i (T k).1 (T k).2.1 (T k).2.2.1 ∈ lwg) : SG E I pc (o_getf ci k (pc + 3)) := by
  refine SG.mv fun p l e R s m args below meth c C L st h S hS => ?_
  obtain ⟨hx, hb, hml, hown, hnm, hr, hlk, hts, hK, hbs⟩ := C
  simp only [o_getf] at hS; split at hS
  next a r =>
    split at hS
    next w c0 fs hM =>
      cases hbe : Nat.beq c0 ci with
      | false => rw [hbe] at hS; cases hS
      | true =>
        rw [hbe] at hS
        simp only [cond_true] at hS
        have hce : c0 = ci := Nat.eq_of_beq_eq_true hbe
        subst hce
        split at hS
        next v hv =>
          simp only [Option.some.injEq] at hS; subst hS
          exact ⟨_, _, rfl, fun H ls locs cells slots Q hH hL hs kk => va_get hx hb hts hin hown hK.1 (hH.one hM) 0 rfl hc k hk (hts _ hw) (fun _ h => h) hv d kk⟩
        next => cases hS
    all_goals cases hS
  all_goals cases hS
/-- an element -/
theorem inb_in {i : Int32} {n : Nat} (h : inb i n = true) : vp_in i n := by
  simp only [inb, Bool.and_eq_true, Bool.not_eq_true', decide_eq_false_iff_not] at h
  rintro (q | q)
  · exact h.1 q
  · exact absurd (Nat.le_of_ble_eq_true h.2) (by omega)
theorem sg_iald (d : decode I.2.1 pc = .ok (.iaload, 1)) : SG E I pc (o_iald 1 (pc + 1)) := by
  refine SG.mv fun p l e R s m args below meth c C L st h S hS => ?_
  obtain ⟨hx, hb, hml, hown, hnm, hr, hlk, hts, hK, hbs⟩ := C
  simp only [o_iald] at hS; split at hS
  next i a r =>
    split at hS
    next w k n f hM =>
      cases hbe : (Nat.beq k 1 && inb i n) with
      | false => rw [hbe] at hS; cases hS
      | true =>
        rw [hbe] at hS
        simp only [Bool.and_eq_true] at hbe
        have hk : k = 1 := Nat.eq_of_beq_eq_true hbe.1
        subst hk
        simp only [cond_true, Option.some.injEq] at hS; subst hS
        exact ⟨_, _, rfl, fun H ls locs cells slots Q hH hL hs kk => va_iald hx hb hK.1 (hH.one hM) 0 1 rfl rfl (inb_in hbe.2) d kk⟩
    all_goals cases hS
  all_goals cases hS
theorem sg_bald (d : decode I.2.1 pc = .ok (.baload, 1)) : SG E I pc (o_iald 0 (pc + 1)) := by
  refine SG.mv fun p l e R s m args below meth c C L st h S hS => ?_
  obtain ⟨hx, hb, hml, hown, hnm, hr, hlk, hts, hK, hbs⟩ := C
  simp only [o_iald] at hS; split at hS
  next i a r =>
    split at hS
    next w k n f hM =>
      cases hbe : (Nat.beq k 0 && inb i n) with
      | false => rw [hbe] at hS; cases hS
      | true =>
        rw [hbe] at hS
        simp only [Bool.and_eq_true] at hbe
        have hk : k = 0 := Nat.eq_of_beq_eq_true hbe.1
        subst hk
        simp only [cond_true, Option.some.injEq] at hS; subst hS
        exact ⟨_, _, rfl, fun H ls locs cells slots Q hH hL hs kk => va_bald hx hb hK.1 (hH.one hM) 0 0 rfl rfl (inb_in hbe.2) d kk⟩
    all_goals cases hS
  all_goals cases hS
theorem sg_lald (d : decode I.2.1 pc = .ok (.laload, 1)) : SG E I pc (o_lald (pc + 1)) := by
  refine SG.mv fun p l e R s m args below meth c C L st h S hS => ?_
  obtain ⟨hx, hb, hml, hown, hnm, hr, hlk, hts, hK, hbs⟩ := C
  simp only [o_lald] at hS; split at hS
  next i a r =>
    split at hS
    next w k n f hM =>
      cases hbe : (Nat.beq k 2 && inb i n) with
      | false => rw [hbe] at hS; cases hS
      | true =>
        rw [hbe] at hS
        simp only [Bool.and_eq_true] at hbe
        have hk : k = 2 := Nat.eq_of_beq_eq_true hbe.1
        subst hk
        simp only [cond_true, Option.some.injEq] at hS; subst hS
        exact ⟨_, _, rfl, fun H ls locs cells slots Q hH hL hs kk => va_lald hx hb hK.1 (hH.one hM) 0 2 rfl rfl (inb_in hbe.2) d kk⟩
    all_goals cases hS
  all_goals cases hS
theorem tys_ref (dA : Nat → ClassId) : ∀ k, 2 < k → k < 11 → ∃ ty, (tysOf dA)[k]? = some (dA k, ty) ∧ ty.isReference = true
  | 0, h, _ => by omega
  | 1, h, _ => by omega
  | 2, h, _ => by omega
  | 3, _, _ => ⟨_, rfl, rfl⟩
  | 4, _, _ => ⟨_, rfl, rfl⟩
  | 5, _, _ => ⟨_, rfl, rfl⟩
  | 6, _, _ => ⟨_, rfl, rfl⟩
  | 7, _, _ => ⟨_, rfl, rfl⟩
  | 8, _, _ => ⟨_, rfl, rfl⟩
  | 9, _, _ => ⟨_, rfl, rfl⟩
  | 10, _, _ => ⟨_, rfl, rfl⟩
  | k + 11, _, h => by omega
theorem tys_any (dA : Nat → ClassId) : ∀ k, k < 11 → ∃ ty, (tysOf dA)[k]? = some (dA k, ty)
  | 0, _ => ⟨_, rfl⟩
  | 1, _ => ⟨_, rfl⟩
  | 2, _ => ⟨_, rfl⟩
  | 3, _ => ⟨_, rfl⟩
  | 4, _ => ⟨_, rfl⟩
  | 5, _ => ⟨_, rfl⟩
  | 6, _ => ⟨_, rfl⟩
  | 7, _ => ⟨_, rfl⟩
  | 8, _ => ⟨_, rfl⟩
  | 9, _ => ⟨_, rfl⟩
  | 10, _ => ⟨_, rfl⟩
  | k + 11, h => by omega
theorem blt_lt {a b : Nat} (h : Nat.blt a b = true) : a < b := Nat.le_of_ble_eq_true h
theorem sg_aald (d : decode I.2.1 pc = .ok (.aaload, 1)) : SG E I pc (o_aald (pc + 1)) := by
  refine SG.mv fun p l e R s m args below meth c C L st h S hS => ?_
  obtain ⟨hx, hb, hml, hown, hnm, hr, hlk, hts, hK, hbs⟩ := C
  simp only [o_aald] at hS; split at hS
  next i a r =>
    split at hS
    next w k n f hM =>
      cases hbe : (Nat.blt 2 k && Nat.blt k 11 && inb i n) with
      | false => rw [hbe] at hS; cases hS
      | true =>
        rw [hbe] at hS
        simp only [Bool.and_eq_true] at hbe
        obtain ⟨ty, ht, hty⟩ := tys_ref E.2.2.2.2 k (blt_lt hbe.1.1) (blt_lt hbe.1.2)
        have hin := inb_in hbe.2
        have hlt : i.toNatClampNeg < n := Nat.not_le.mp fun q => hin (Or.inr q)
        have key : ∀ (H : Heap) (ls : Array Slot) (locs : List Loc) (cells slots : Nat) (Q : State → Prop), HR E h H → W p l e R s m args below meth c H locs cells slots Q (F0 m (pc + 1) ls (va_rf (f i.toNatClampNeg) :: r)) → W p l e R s m args below meth c H locs cells slots Q (F0 m pc ls (.int i :: .ref a :: r)) := fun H ls locs cells slots Q hH kk =>
          W.aald (v := va_rf (f i.toNatClampNeg)) (ty := ty) hx hb ((hH.one hM) 0 _ rfl) ((hK.1.2 k _ ht).1 n (fun j => va_rf (f j))) hty (fun q => by cases q) (by show ¬ (i < 0 ∨ (arrV _ _ _).slots.size ≤ _); rw [arrV_size]; exact hin) (by show (arrV _ _ _).slots[_]? = _; rw [arrV_read _ _ hlt]) rfl rfl d kk
        simp only [cond_true] at hS
        split at hS
        next hf => simp only [Option.some.injEq] at hS; subst hS; exact ⟨_, _, rfl, fun H ls locs cells slots Q hH hL hs kk => key H ls locs cells slots Q hH (by rw [hf]; exact kk)⟩
        next q hf => simp only [Option.some.injEq] at hS; subst hS; exact ⟨_, _, rfl, fun H ls locs cells slots Q hH hL hs kk => key H ls locs cells slots Q hH (by rw [hf]; exact kk)⟩
    all_goals cases hS
  all_goals cases hS
theorem sg_alen (d : decode I.2.1 pc = .ok (.arraylength, 1)) : SG E I pc (o_alen (pc + 1)) := by
  refine SG.mv fun p l e R s m args below meth c C L st h S hS => ?_
  obtain ⟨hx, hb, hml, hown, hnm, hr, hlk, hts, hK, hbs⟩ := C
  simp only [o_alen] at hS; split at hS
  next a r =>
    split at hS
    next w k n f hM =>
      cases hbe : Nat.blt k 11 with
      | false => rw [hbe] at hS; cases hS
      | true =>
        rw [hbe] at hS
        obtain ⟨ty, ht⟩ := tys_any E.2.2.2.2 k (blt_lt hbe)
        simp only [cond_true, Option.some.injEq] at hS; subst hS
        exact ⟨_, _, rfl, fun H ls locs cells slots Q hH hL hs kk => va_alen hx hb hK.1 (hH.one hM) 0 k rfl ht rfl d kk⟩
    all_goals cases hS
  all_goals cases hS
theorem sg_getsB {i : Nat} (d : decode I.2.1 pc = .ok (.getstatic i, 3)) (hw : Cond.fieldLink I.1.cls i RX12 "NO_BYTES" "[B" ∈ lwg) : SG E I pc (o_ref E.2.1 (pc + 3)) := by
  refine SG.mv fun p l e R s m args below meth c C L st h S hS => ?_
  obtain ⟨hx, hb, hml, hown, hnm, hr, hlk, hts, hK, hbs⟩ := C
  simp only [o_ref, Option.some.injEq] at hS; subst hS
  exact ⟨_, _, rfl, fun H ls locs cells slots Q hH hL hs kk => va_gets hx hb hK.2.2.2.1 hs hown (hts _ hw) (fun _ h => h) d kk⟩
theorem sg_getsBN {i : Nat} (d : decode I.2.1 pc = .ok (.getstatic i, 3)) (hw : I.1.cls = RX10 ∧ i = 7) : SG E I pc (o_ref E.2.1 (pc + 3)) := by
  refine SG.mv fun p l e R s m args below meth c C L st h S hS => ?_
  obtain ⟨hx, hb, hml, hown, hnm, hr, hlk, hts, hK, hbs⟩ := C
  simp only [o_ref, Option.some.injEq] at hS; subst hS
  refine ⟨_, _, rfl, fun H ls locs cells slots Q hH hL hs kk => va_getsN hx hb hK.2.2.2.1 hs hown (host := RX12) (ref := RX12) (index := i) (va_Nw.use rfl ?_) (fun _ h => h) d kk⟩
  rw [hw.1, hw.2]
  exact hK.2.2.1
theorem sg_getsC {i : Nat} (d : decode I.2.1 pc = .ok (.getstatic i, 3)) (hw : Cond.fieldLink I.1.cls i RJ0 "COMPACT_STRINGS" "Z" ∈ lwg) : SG E I pc (o_ic 1 (pc + 3)) := by
  refine SG.mv fun p l e R s m args below meth c C L st h S hS => ?_
  obtain ⟨hx, hb, hml, hown, hnm, hr, hlk, hts, hK, hbs⟩ := C
  simp only [o_ic, Option.some.injEq] at hS; subst hS
  exact ⟨_, _, rfl, fun H ls locs cells slots Q hH hL hs kk => va_gets hx hb hK.2.2.2.2.1 hs hown (hts _ hw) (fun _ h => h) d kk⟩
theorem sg_ldcS (d : decode I.2.1 pc = .ok (.ldc 155, 2)) (hw : I.1.cls = RX12) : SG E I pc (o_ref E.2.2.1 (pc + 2)) := by
  refine SG.mv fun p l e R s m args below meth c C L st h S hS => ?_
  obtain ⟨hx, hb, hml, hown, hnm, hr, hlk, hts, hK, hbs⟩ := C
  simp only [o_ref, Option.some.injEq] at hS; subst hS
  rw [hw] at hown
  exact ⟨_, _, rfl, fun H ls locs cells slots Q hH hL hs kk => va_ldcS hx hb hown hK.2.2.2.2.2 d kk⟩
theorem sg_obj {i : Nat} (d : decode I.2.1 pc = .ok (.invokespecial i, 3)) (hw : Cond.methodLink I.1.cls i objectInit ∈ lwg) (hw2 : Cond.instanceMethod objectInit ∈ lwg) (hw3 : Cond.code objectInit ⟨#[0xb1]⟩ 1 none ∈ lwg) : SG E I pc (o_pop0 (pc + 3)) := by
  refine SG.mv fun p l e R s m args below meth c C L st h S hS => ?_
  obtain ⟨hx, hb, hml, hown, hnm, hr, hlk, hts, hK, hbs, hR1, hR2⟩ := C
  simp only [o_pop0] at hS; split at hS
  next a r =>
    cases hbe : Nat.ble (stw r) 8 with
    | false => rw [hbe] at hS; cases hS
    | true =>
      rw [hbe] at hS
      simp only [cond_true, Option.some.injEq] at hS; subst hS
      have h8 : stw r ≤ 8 := Nat.le_of_ble_eq_true hbe
      refine ⟨_, _, rfl, fun H ls locs cells slots Q hH hL hs kk => W.objInit hx hb hown (hts _ hw) (hts _ hw2) (hts _ hw3) (g := F0 m pc ls (.ref a :: r)) rfl (by rw [hml]; exact hL.1.1) rfl d hR1 ?_ kk⟩
      show 2 * 0 + stw r + 12 ≤ _
      omega
  all_goals cases hS
end SGH
end
section
/-! each step is sound: stores and makings -/
/-- a step that changes one old cell -/
theorem SG.st {E : XE} {I : MI} {pc : Nat} {o : XOp} (hh : ∀ (p : Program) (l : Launch) (e : Env) (R : Room) (s : State) (m : MethodId) (args : Array Value) (below : List Frame) (meth : Method) (c : Code), XC E I R p s m args meth c → ∀ (L : Ls) (st : List Value) (h : Hp) (S : XStp), o L st h = some S → ∃ (pc' : Nat) (st' : List Value) (a : Nat) (c0 c1 : Ce), S = .inl (pc', L, st', hset h a c1) ∧ h.2.2 a = some (true, c0) ∧ (∀ H : Heap, HR E h H → cok c1) ∧ ∀ (H : Heap) (ls : Array Slot) (locs : List Loc) (cells slots : Nat) (Q : State → Prop), HR E h H → LV ls I.2.2.1 L → va_S (XA E) s.heap H locs → (∀ (H' : Heap) (L' : List Loc), va_at E.2.2.2.1 classes (a, cvE E.2.2.2.2 c1) H' → H'.size = H.size → (∀ q : Nat, q ≠ a → H'[q]? = H[q]?) → (∀ x ∈ L', x.base = a) → W p l e R s m args below meth c H' (locs ++ L') cells slots Q (F0 m pc' ls st')) → W p l e R s m args below meth c H locs cells slots Q (F0 m pc ls st)) : SG E I pc o := by
  intro p l e R s m args below meth c C L st h S hS H ls locs cells slots hH hL hs
  obtain ⟨pc', st', a, c0, c1, rfl, hM, hk, k⟩ := hh p l e R s m args below meth c C L st h S hS
  refine ⟨Nat.le_refl _, Nat.le_refl _, fun Q _ _ kk => k H ls locs cells slots Q hH hL hs fun H' L' h1 h2 h3 h4 => ?_⟩
  have hba := (hH.2 a true c0 hM).2.1 rfl
  have := kk H' ls (locs ++ L') (hH.set hM h2 h3 h1 (hk H hH)) hL ⟨by rw [h2]; exact hs.1, fun q g1 g2 => by rw [h3 q (fun e => g2 (by rw [e]; exact hba))]; exact hs.2.1 q g1 g2, fun x hx => by
    rcases List.mem_append.mp hx with g | g
    · exact hs.2.2 x g
    · show E.1 ≤ x.base
      rw [h4 x g]; exact hba⟩
  simpa [hset] using this
section SGP
variable {E : XE} {I : MI} {pc : Nat}
theorem ok_int (v : Value) (h : o_ok 0 v = true) : narrow .int v = v ∧ fits .int v = true := by cases v <;> first | exact ⟨rfl, rfl⟩ | cases h
theorem ok_long (v : Value) (h : o_ok 1 v = true) : narrow .long v = v ∧ fits .long v = true := by cases v <;> first | exact ⟨rfl, rfl⟩ | cases h
theorem ok_obj (C : String) (v : Value) (h : o_ok 2 v = true) : narrow (.object C) v = v ∧ fits (.object C) v = true := by cases v <;> first | exact ⟨rfl, rfl⟩ | cases h
theorem ok_arr (t : FieldType) (v : Value) (h : o_ok 2 v = true) : narrow (.array t) v = v ∧ fits (.array t) v = true := by cases v <;> first | exact ⟨rfl, rfl⟩ | cases h
theorem putf_inv {ci k kd nx : Nat} {L : Ls} {st : List Value} {h : Hp} {S : XStp} (hS : o_putf ci k kd nx L st h = some S) : ∃ (v : Value) (a : Nat) (r : List Value) (fs : List Value), st = v :: .ref a :: r ∧ h.2.2 a = some (true, .inr (ci, fs)) ∧ o_ok kd v = true ∧ k < fs.length ∧ S = .inl (nx, L, r, hset h a (.inr (ci, fs.set k v))) := by
  simp only [o_putf] at hS; split at hS
  next v a r =>
    split at hS
    next c0 fs hM =>
      cases hbe : (Nat.beq c0 ci && o_ok kd v && Nat.blt k fs.length) with
      | false => rw [hbe] at hS; cases hS
      | true =>
        rw [hbe] at hS
        simp only [Bool.and_eq_true] at hbe
        have hce : c0 = ci := Nat.eq_of_beq_eq_true hbe.1.1
        subst hce
        simp only [cond_true, Option.some.injEq] at hS; subst hS
        exact ⟨v, a, r, fs, rfl, hM, hbe.1.2, blt_lt hbe.2, rfl⟩
    all_goals cases hS
  all_goals cases hS
theorem sg_putf {C : String} {T : u_T} {ty0 : Nat → FieldType} {N ci k kd i : Nat} {ty : FieldType} (d : decode I.2.1 pc = .ok (.putfield i, 3)) (hc : classes[ci]? = some (C, T, N)) (hin : ∀ w ∈ u_ws C T N, w ∈ lwg) (hty : ∀ k, k < N → parseFieldDescriptor (T k).2.2.1 = some (ty0 k)) (hnm : ∀ a, a < N → ∀ b, b < N → a ≠ b → (T a).2.1 ≠ (T b).2.1) (hk : k < N) (hw : Cond.fieldLink I.1.cls i (T k).1 (T k).2.1 (T k).2.2.1 ∈ lwg) (hfin : (T k).2.2.2 = false) (hd : parseFieldDescriptor (T k).2.2.1 = some ty) (hok : ∀ v, o_ok kd v = true → narrow ty v = v ∧ fits ty v = true) : SG E I pc (o_putf ci k kd (pc + 3)) := by
  refine SG.st fun p l e R s m args below meth c CC L st h S hS => ?_
  obtain ⟨hx, hb, hml, hown, hnm', hr, hlk, hts, hK, hbs⟩ := CC
  obtain ⟨v, a, r, fs, rfl, hM, hov, hl, rfl⟩ := putf_inv hS
  refine ⟨_, _, a, _, _, rfl, hM, fun _ _ => trivial, fun H ls locs cells slots Q hH hL hs kk => ?_⟩
  obtain ⟨hn, hfit⟩ := hok v hov
  have hap := va_apart (own := I.1.cls) hts hin ty0 hty hnm hK.1 hc
  obtain ⟨r', h1, cell, q1, q2, q3, q4⟩ := (hH.one hM) 0 _ rfl
  have hr' : r' = (C, T, N) := Option.some.inj (h1.symm.trans hc)
  subst hr'
  obtain ⟨hS, hfc, kC, hkC, hkind⟩ := hK.1.1 ci _ hc
  obtain ⟨cf, kf, fi, f, hi, hsl⟩ := hS k hk
  have hlay := hts _ (hin _ (u_in_lay hk))
  unfold u_lay at hlay
  rw [if_neg (by rw [hfin]; decide)] at hlay
  have hst := (u_facts hfc hkC (u_lays hts hin hk) hi).1
  have h6 := u_store hfc hkC hkind hlay hi hd hn hfit
  refine W.putK hx hb (f := f) ⟨hown, hts _ hw, ⟨_, _, _, hi⟩, hst⟩ (by rw [q2]; exact h6) q1 q3 (by rw [hsl]; exact k2_hasslot (q4 k hk)) rfl rfl d fun H' e1 e2 e3 => ?_
  rw [hsl] at e1 ⊢
  exact kk H' _ ⟨_, hc, t_OB.to (V := updV (vp_V fs) k v) ⟨_, e1, q2, q3, t_set q4 hap hk v⟩ (fun j _ => vp_updV_set hl v j)⟩ e2 e3 (fun x hx => by rw [List.mem_singleton.mp hx])
theorem sg_putF {C : String} {T : u_T} {ty0 : Nat → FieldType} {N ci k kd i : Nat} {ty : FieldType} (d : decode I.2.1 pc = .ok (.putfield i, 3)) (hc : classes[ci]? = some (C, T, N)) (hin : ∀ w ∈ u_ws C T N, w ∈ lwg) (hty : ∀ k, k < N → parseFieldDescriptor (T k).2.2.1 = some (ty0 k)) (hnm : ∀ a, a < N → ∀ b, b < N → a ≠ b → (T a).2.1 ≠ (T b).2.1) (hk : k < N) (hw : Cond.fieldLink I.1.cls i (T k).1 (T k).2.1 (T k).2.2.1 ∈ lwg) (hfin : (T k).2.2.2 = true) (hini : I.1.name = "<init>") (hdecl : (T k).1 = I.1.cls) (hd : parseFieldDescriptor (T k).2.2.1 = some ty) (hok : ∀ v, o_ok kd v = true → narrow ty v = v ∧ fits ty v = true) : SG E I pc (o_putf ci k kd (pc + 3)) := by
  refine SG.st fun p l e R s m args below meth c CC L st h S hS => ?_
  obtain ⟨hx, hb, hml, hown, hnm', hr, hlk, hts, hK, hbs⟩ := CC
  obtain ⟨v, a, r, fs, rfl, hM, hov, hl, rfl⟩ := putf_inv hS
  refine ⟨_, _, a, _, _, rfl, hM, fun _ _ => trivial, fun H ls locs cells slots Q hH hL hs kk => ?_⟩
  obtain ⟨hn, hfit⟩ := hok v hov
  have hap := va_apart (own := I.1.cls) hts hin ty0 hty hnm hK.1 hc
  obtain ⟨r', h1, cell, q1, q2, q3, q4⟩ := (hH.one hM) 0 _ rfl
  have hr' : r' = (C, T, N) := Option.some.inj (h1.symm.trans hc)
  subst hr'
  obtain ⟨hS, hfc, kC, hkC, hkind⟩ := hK.1.1 ci _ hc
  obtain ⟨cf, kf, fi, f, hi, hsl⟩ := hS k hk
  have hlay := hts _ (hin _ (u_in_lay hk))
  unfold u_lay at hlay
  rw [if_pos hfin] at hlay
  have hst := (u_facts hfc hkC (u_lays hts hin hk) hi).1
  have hcf : m.cls = cf := by
    obtain ⟨_, _, c', _, _, _, -, -, hf', -, -, -, hown2, -⟩ := Cond.laysFinal_spec hlay
    have e1 : c' = cf := by have := hi.symm.trans hf'; simp at this; exact this.1.symm
    rw [hdecl] at hown2
    rw [← e1]; exact Option.some.inj (hown.symm.trans hown2)
  have h6 := u_fits hfc hkC hkind (Or.inr hlay) hi hd hn hfit
  refine W.putFinK hx hb hown (hts _ hw) hi hst hcf (by rw [hnm']; exact hini) (by rw [q2]; exact h6) q1 q3 (by rw [hsl]; exact k2_hasslot (q4 k hk)) rfl rfl d fun H' e1 e2 e3 => ?_
  rw [hsl] at e1 ⊢
  exact kk H' _ ⟨_, hc, t_OB.to (V := updV (vp_V fs) k v) ⟨_, e1, q2, q3, t_set q4 hap hk v⟩ (fun j _ => vp_updV_set hl v j)⟩ e2 e3 (fun x hx => by rw [List.mem_singleton.mp hx])
theorem cell_upd {c : ClassId} {n k : Nat} {f : Nat → Int32} {x : Int32} : (vp_cell c (n, .inl f)).setSlot k (.int x) = vp_cell c (n, .inl (upd f k x)) := by
  rw [vp_cell_i, vp_cell_i, arrV_store]
  congr 1
  funext q
  by_cases hq : q = k
  · subst hq; simp [updV, upd]
  · simp [updV, upd, hq]
theorem sg_iast (d : decode I.2.1 pc = .ok (.iastore, 1)) : SG E I pc (o_iast (pc + 1)) := by
  refine SG.st fun p l e R s m args below meth c CC L st h S hS => ?_
  obtain ⟨hx, hb, hml, hown, hnm', hr, hlk, hts, hK, hbs⟩ := CC
  simp only [o_iast] at hS; split at hS
  next x i a r =>
    split at hS
    next k n f hM =>
      cases hbe : (Nat.beq k 1 && inb i n) with
      | false => rw [hbe] at hS; cases hS
      | true =>
        rw [hbe] at hS
        simp only [Bool.and_eq_true] at hbe
        have hk : k = 1 := Nat.eq_of_beq_eq_true hbe.1
        subst hk
        simp only [cond_true, Option.some.injEq] at hS; subst hS
        refine ⟨_, _, a, _, _, rfl, hM, (fun _ _ q => by simp at q), fun H ls locs cells slots Q hH hL hs kk => ?_⟩
        have hin := inb_in hbe.2
        refine W.iast hx hb ((hH.one hM) 0 _ rfl) ((hK.1.2 1 _ rfl).1 n (fun j => .int (f j))) (fun q => by cases q) (by show ¬ (i < 0 ∨ (arrV _ _ _).slots.size ≤ _); rw [arrV_size]; exact hin) rfl rfl d fun H1 e z oq => ?_
        exact kk H1 _ (by show H1[a]? = some (vp_cell _ _); rw [e, cell_upd]) z oq (fun x hx => by rw [List.mem_singleton.mp hx])
    all_goals cases hS
  all_goals cases hS
theorem fit_byte (x : Int32) : fits .byte (.int x.toInt8.toInt32) = true := pk_fb x
theorem sg_bast (d : decode I.2.1 pc = .ok (.bastore, 1)) : SG E I pc (o_bast (pc + 1)) := by
  refine SG.st fun p l e R s m args below meth c CC L st h S hS => ?_
  obtain ⟨hx, hb, hml, hown, hnm', hr, hlk, hts, hK, hbs⟩ := CC
  simp only [o_bast] at hS; split at hS
  next x i a r =>
    split at hS
    next k n f hM =>
      cases hbe : (Nat.beq k 0 && inb i n) with
      | false => rw [hbe] at hS; cases hS
      | true =>
        rw [hbe] at hS
        simp only [Bool.and_eq_true] at hbe
        have hk : k = 0 := Nat.eq_of_beq_eq_true hbe.1
        subst hk
        simp only [cond_true, Option.some.injEq] at hS; subst hS
        refine ⟨_, _, a, _, _, rfl, hM, fun H0 hH0 _ j => ?_, fun H ls locs cells slots Q hH hL hs kk => ?_⟩
        · simp only [upd]
          split
          · exact fit_byte x
          · exact (hH0.2 a true _ hM).2.2 rfl j
        have hin := inb_in hbe.2
        refine W.bast hx hb ((hH.one hM) 0 _ rfl) ((hK.1.2 0 _ rfl).1 n (fun j => .int (f j))) (fun q => by cases q) (by show ¬ (i < 0 ∨ (arrV _ _ _).slots.size ≤ _); rw [arrV_size]; exact hin) rfl rfl d fun H1 e z oq => ?_
        exact kk H1 _ (by show H1[a]? = some (vp_cell _ _); rw [e]; exact congrArg some cell_upd) z oq (fun x hx => by rw [List.mem_singleton.mp hx])
    all_goals cases hS
  all_goals cases hS
theorem cell_updL {c : ClassId} {n k : Nat} {f : Nat → Int64} {x : Int64} : (vp_cell c (n, .inr (.inl f))).setSlot k (.long x) = vp_cell c (n, .inr (.inl (vp_updL f k x))) := by
  rw [vp_cell_l, vp_cell_l, arrV_store]
  congr 1
  funext q
  by_cases hq : q = k
  · subst hq; simp [updV, vp_updL]
  · simp [updV, vp_updL, hq]
theorem sg_last (d : decode I.2.1 pc = .ok (.lastore, 1)) : SG E I pc (o_last (pc + 1)) := by
  refine SG.st fun p l e R s m args below meth c CC L st h S hS => ?_
  obtain ⟨hx, hb, hml, hown, hnm', hr, hlk, hts, hK, hbs⟩ := CC
  simp only [o_last] at hS; split at hS
  next x i a r =>
    split at hS
    next k n f hM =>
      cases hbe : (Nat.beq k 2 && inb i n) with
      | false => rw [hbe] at hS; cases hS
      | true =>
        rw [hbe] at hS
        simp only [Bool.and_eq_true] at hbe
        have hk : k = 2 := Nat.eq_of_beq_eq_true hbe.1
        subst hk
        simp only [cond_true, Option.some.injEq] at hS; subst hS
        refine ⟨_, _, a, _, _, rfl, hM, fun _ _ => trivial, fun H ls locs cells slots Q hH hL hs kk => ?_⟩
        have hin := inb_in hbe.2
        refine W.last hx hb ((hH.one hM) 0 _ rfl) ((hK.1.2 2 _ rfl).1 n (fun j => .long (f j))) (fun q => by cases q) (by show ¬ (i < 0 ∨ (arrV _ _ _).slots.size ≤ _); rw [arrV_size]; exact hin) rfl rfl d fun H1 e z oq => ?_
        exact kk H1 _ (by show H1[a]? = some (vp_cell _ _); rw [e]; exact congrArg some cell_updL) z oq (fun x hx => by rw [List.mem_singleton.mp hx])
    all_goals cases hS
  all_goals cases hS
end SGP
end
section
/-! each step is sound: references stored, things made -/
theorem cell_updQ {c : ClassId} {n k : Nat} {f : Nat → Option Nat} {x : Option Nat} : (vp_cell c (n, .inr (.inr (.inr (.inr f))))).setSlot k (va_rf x) = vp_cell c (n, .inr (.inr (.inr (.inr (va_up f k x))))) := by
  rw [vp_cell_q, vp_cell_q, arrV_store]
  congr 1
  funext q
  by_cases hq : q = k
  · subst hq; simp [updV, va_up]
  · simp [updV, va_up, hq]
section SGQ
variable {E : XE} {I : MI} {pc : Nat}
theorem aast_inv {kd ek nx : Nat} {L : Ls} {st : List Value} {h : Hp} {S : XStp} (hS : o_aast kd ek nx L st h = some S) : ∃ (i : Int32) (a n : Nat) (r : List Value) (f : Nat → Option Nat) (x : Option Nat), st = va_rf x :: .int i :: .ref a :: r ∧ h.2.2 a = some (true, .inl (kd, n, .inr (.inr (.inr (.inr f))))) ∧ inb i n = true ∧ (∀ v, x = some v → ∃ w c, h.2.2 v = some (w, c) ∧ kof c = ek) ∧ S = .inl (nx, L, r, hset h a (.inl (kd, n, .inr (.inr (.inr (.inr (va_up f i.toNatClampNeg x))))))) := by
  simp only [o_aast] at hS; split at hS
  next v i a r =>
    split at hS
    next k n f w c hM hv =>
      cases hbe : (Nat.beq k kd && inb i n && Nat.beq (kof c) ek) with
      | false => rw [hbe] at hS; cases hS
      | true =>
        rw [hbe] at hS
        simp only [Bool.and_eq_true] at hbe
        have hk : k = kd := Nat.eq_of_beq_eq_true hbe.1.1
        subst hk
        simp only [cond_true, Option.some.injEq] at hS; subst hS
        exact ⟨i, a, n, r, f, some v, rfl, hM, hbe.1.2, fun v' e => by cases e; exact ⟨w, c, hv, Nat.eq_of_beq_eq_true hbe.2⟩, rfl⟩
    all_goals cases hS
  next i a r =>
    split at hS
    next k n f hM =>
      cases hbe : (Nat.beq k kd && inb i n) with
      | false => rw [hbe] at hS; cases hS
      | true =>
        rw [hbe] at hS
        simp only [Bool.and_eq_true] at hbe
        have hk : k = kd := Nat.eq_of_beq_eq_true hbe.1
        subst hk
        simp only [cond_true, Option.some.injEq] at hS; subst hS
        exact ⟨i, a, n, r, f, none, rfl, hM, hbe.2, (fun v' e => by cases e), rfl⟩
    all_goals cases hS
  all_goals cases hS
theorem sg_aast {kd ci : Nat} {r : vw_C} (ht : ∀ dA, (tysOf dA)[kd]? = some (dA kd, .object r.1)) (hc : classes[ci]? = some r) (d : decode I.2.1 pc = .ok (.aastore, 1)) : SG E I pc (o_aast kd (2 * ci + 1) (pc + 1)) := by
  refine SG.st fun p l e R s m args below meth c CC L st h S hS => ?_
  obtain ⟨hx, hb, hml, hown, hnm', hr, hlk, hts, hK, hbs⟩ := CC
  obtain ⟨i, a, n, rr, f, x, rfl, hM, hbe, hv, rfl⟩ := aast_inv hS
  refine ⟨_, _, a, _, _, rfl, hM, fun _ _ => trivial, fun H ls locs cells slots Q hH hL hs kk => ?_⟩
  have hin := inb_in hbe
  cases x with
  | none =>
    refine va_WaastN (C := r.1) hx hb ((hH.one hM) 0 _ rfl) ((hK.1.2 kd _ (ht _)).1 n (fun j => va_rf (f j))) (fun h => by cases h) (by show ¬ (i < 0 ∨ (arrV _ _ _).slots.size ≤ _); rw [arrV_size]; exact hin) rfl rfl d fun H1 e z oq => ?_
    exact kk H1 _ (by show H1[a]? = some (vp_cell _ _); rw [e]; exact congrArg some (cell_updQ (x := none))) z oq (fun x hx => by rw [List.mem_singleton.mp hx])
  | some v =>
    obtain ⟨w, cv, hMv, hkv⟩ := hv v rfl
    have hcv : ∃ fs, cv = .inr (ci, fs) := by
      match cv, hkv with
      | .inl (k, y), hkv =>
        simp only [kof] at hkv
        omega
      | .inr (k, y), hkv =>
        simp only [kof] at hkv
        exact ⟨y, by rw [show k = ci by omega]⟩
    obtain ⟨fs, rfl⟩ := hcv
    have hlt : i.toNatClampNeg < n := Nat.not_le.mp fun q => hin (Or.inr q)
    have h0 : ¬ i < 0 := fun q => hin (Or.inl q)
    obtain ⟨r', hr', cellV, g1, g2, g3, -⟩ := (hH.one hMv) 0 _ rfl
    have hcls := (hK.1.1 ci r hc).2
    obtain ⟨kA, comp, k1, k2, k3, -⟩ := (hK.1.2 kd _ (ht _)).2
    have hcomp : comp = E.2.2.2.1.1 ci := Option.some.inj (k3.symm.trans hcls.1)
    subst hcomp
    obtain ⟨kC, hkC, -⟩ := hcls.2
    refine W.aast hx hb ((hH.one hM) 0 _ rfl) (fun q h => by cases h) (fun h => by cases h) k1 k2 rfl hkC ⟨h0, by show _ < (arrV _ _ _).slots.size; rw [arrV_size]; exact hlt⟩ g1 (fun q h => by rw [g3] at h; cases h) (by rw [g2]; exact hkC) (by rw [g2]; exact va_assign hcls) rfl rfl d fun H1 e z oq => ?_
    exact kk H1 _ (by show H1[a]? = some (vp_cell _ _); rw [e]; exact congrArg some (cell_updQ (x := some v))) z oq (fun x hx => by rw [List.mem_singleton.mp hx])
/-- arrays of arrays -/
theorem sg_aastA {kd k1 : Nat} {t : FieldType} (ht : ∀ dA, (tysOf dA)[kd]? = some (dA kd, .array t)) (ht1 : ∀ dA, (tysOf dA)[k1]? = some (dA k1, t)) (hn : ∀ (s : State) (c : ClassId), va_RA s c t → s.vm.findClass (FieldType.array t).toString = some c) (hw : Cond.arrayOver (.array t) ∈ lwg) (d : decode I.2.1 pc = .ok (.aastore, 1)) : SG E I pc (o_aast kd (2 * k1) (pc + 1)) := by
  refine SG.st fun p l e R s m args below meth c CC L st h S hS => ?_
  obtain ⟨hx, hb, hml, hown, hnm', hr, hlk, hts, hK, hbs⟩ := CC
  obtain ⟨i, a, n, rr, f, x, rfl, hM, hbe, hv, rfl⟩ := aast_inv hS
  refine ⟨_, _, a, _, _, rfl, hM, fun _ _ => trivial, fun H ls locs cells slots Q hH hL hs kk => ?_⟩
  have hin := inb_in hbe
  have hlt : i.toNatClampNeg < n := Nat.not_le.mp fun q => hin (Or.inr q)
  have h0 : ¬ i < 0 := fun q => hin (Or.inl q)
  obtain ⟨comp, cA, kA, hcomp, -, hkA, hkind, hnA⟩ := arrayOverA_spec (hts _ hw)
  have e1 : cA = E.2.2.2.2 kd := Option.some.inj (hnA.symm.trans (hK.1.2 kd _ (ht _)).2)
  subst e1
  have e2 : comp = E.2.2.2.2 k1 := Option.some.inj (hcomp.symm.trans (hn s _ (hK.1.2 k1 _ (ht1 _)).2))
  subst e2
  obtain ⟨-, kC, hkC, -⟩ := (hK.1.2 k1 _ (ht1 _)).1 0 (fun _ => .null)
  cases x with
  | none =>
    intro T hT X
    have hT' : T.heap[a]? = some (vp_cell (E.2.2.2.2 kd) (n, .inr (.inr (.inr (.inr f))))) := by rw [hT]; exact (hH.one hM) 0 _ rfl
    obtain ⟨X', st⟩ := X.aastoreNullIn hx hT' (fun q h => by cases h) (fun h => by cases h) hkA hkind rfl ⟨h0, by show _ < (arrV _ _ _).slots.size; rw [arrV_size]; exact hlt⟩ (g := F0 m pc ls (.null :: .int i :: .ref a :: rr)) rfl rfl (by rw [hb]; exact d)
    have hlt : a < T.heap.size := (Array.getElem?_eq_some_iff.mp hT').1
    obtain ⟨t', a1, b1⟩ := kk _ _ (by show _ = some (vp_cell _ _); rw [heapAt_setCell_self _ hlt]; exact congrArg some (cell_updQ (x := none))) (by rw [size_setCell, hT]) (fun q hq => by rw [heapAt_setCell_ne _ (Ne.symm hq), hT]) (fun x hx => by rw [List.mem_singleton.mp hx]) _ rfl X'
    exact ⟨t', st t' a1, b1⟩
  | some v =>
    obtain ⟨w, cv, hMv, hkv⟩ := hv v rfl
    have hcv : ∃ y, cv = .inl (k1, y) := by
      match cv, hkv with
      | .inr (k, y), hkv =>
        simp only [kof] at hkv
        omega
      | .inl (k, y), hkv =>
        simp only [kof] at hkv
        exact ⟨y, by rw [show k = k1 by omega]⟩
    obtain ⟨y, rfl⟩ := hcv
    have g1 : H[v]? = some (vp_cell (E.2.2.2.2 k1) y) := (hH.one hMv) 0 _ rfl
    have g2 : (vp_cell (E.2.2.2.2 k1) y).cls = E.2.2.2.2 k1 := by obtain ⟨n, f | f | f | f | f⟩ := y <;> rfl
    have g3 : (vp_cell (E.2.2.2.2 k1) y).vm = .none := by obtain ⟨n, f | f | f | f | f⟩ := y <;> rfl
    refine W.aast hx hb ((hH.one hM) 0 _ rfl) (fun q h => by cases h) (fun h => by cases h) hkA hkind rfl hkC ⟨h0, by show _ < (arrV _ _ _).slots.size; rw [arrV_size]; exact hlt⟩ g1 (fun q h => by rw [g3] at h; cases h) (by rw [g2]; exact hkC) (by rw [g2]; exact va_asg _ _) rfl rfl d fun H1 e z oq => ?_
    exact kk H1 _ (by show H1[a]? = some (vp_cell _ _); rw [e]; exact congrArg some (cell_updQ (x := some v))) z oq (fun x hx => by rw [List.mem_singleton.mp hx])
/-- a step that makes one cell -/
theorem SG.nw {o : XOp} (hh : ∀ (p : Program) (l : Launch) (e : Env) (R : Room) (s : State) (m : MethodId) (args : Array Value) (below : List Frame) (meth : Method) (c : Code), XC E I R p s m args meth c → ∀ (L : Ls) (st : List Value) (h : Hp) (S : XStp), o L st h = some S → ∃ (pc' : Nat) (r : List Value) (n : Nat) (c1 : Ce), S = .inl (pc', L, .ref h.1 :: r, hnew h n c1) ∧ cok c1 ∧ ∀ (H : Heap) (ls : Array Slot) (locs : List Loc) (cells slots : Nat) (Q : State → Prop), HR E h H → LV ls I.2.2.1 L → va_S (XA E) s.heap H locs → cells + 1 ≤ R.cells → slots + n ≤ R.slots → (∀ H' : Heap, va_at E.2.2.2.1 classes (H.size, cvE E.2.2.2.2 c1) H' → H'.size = H.size + 1 → (∀ q : Nat, q < H.size → H'[q]? = H[q]?) → W p l e R s m args below meth c H' locs (cells + 1) (slots + n) Q (F0 m pc' ls (.ref H.size :: r))) → W p l e R s m args below meth c H locs cells slots Q (F0 m pc ls st)) : SG E I pc o := by
  intro p l e R s m args below meth c C L st h S hS H ls locs cells slots hH hL hs
  obtain ⟨pc', r, n, c1, rfl, hk, k⟩ := hh p l e R s m args below meth c C L st h S hS
  obtain ⟨hx, hb, hml, hown, hnm', hr, hlk, hts, hK, hbs, hR⟩ := C
  refine ⟨Nat.le_succ _, Nat.le_add_right _ _, fun Q hc1 hc2 kk => k H ls locs cells slots Q hH hL hs ?_ ?_ fun H' h1 h2 h3 => ?_⟩
  · simp only [hnew] at hc1; omega
  · simp only [hnew] at hc2; omega
  have := kk H' ls locs (hH.new (Nat.le_trans hbs hs.1) h2 h3 (by rw [← hH.1]; exact h1) hk) hL (XA_S hs hbs h2 h3)
  simp only [hnew] at this
  rw [hH.1]
  rw [show h.1 + 1 - h.1 = 1 by omega, show h.2.1 + n - h.2.1 = n by omega] at this
  exact this
theorem sg_new {C : String} {T : u_T} {ty : Nat → FieldType} {N ci i : Nat} {fs : List Value} (d : decode I.2.1 pc = .ok (.new i, 3)) (hc : classes[ci]? = some (C, T, N)) (hin : ∀ w ∈ u_ws C T N, w ∈ lwg) (hty : ∀ k, k < N → parseFieldDescriptor (T k).2.2.1 = some (ty k)) (hfs : ∀ j, j < N → defaultValue (ty j) = vp_V fs j) (hw1 : Cond.classLink I.1.cls i C ∈ lwg) (hw2 : Cond.instantiable C N ∈ lwg) (hw3 : Cond.initialized C ∈ lwg) : SG E I pc (o_new ci N fs (pc + 3)) := by
  refine SG.nw fun p l e R s m args below meth c CC L st h S hS => ?_
  obtain ⟨hx, hb, hml, hown, hnm', hr, hlk, hts, hK, hbs⟩ := CC
  simp only [o_new, Option.some.injEq] at hS; subst hS
  refine ⟨_, _, _, _, rfl, trivial, fun H ls locs cells slots Q hH hL hs hc1 hc2 kk => ?_⟩
  have hKn := hK.1.1 ci _ hc
  refine W.newcK hx hb hown (hts _ hw1) (hts _ hw2) (hts _ hw3) (g := F0 m pc ls st) rfl d hc1 hc2 hKn.2.1 rfl fun H1 kC hkC e1 z1 o1 => ?_
  exact kk H1 ⟨_, hc, (u_born ty hts hin hKn hkC e1 hty).to hfs⟩ z1 o1
theorem newi_core {p : Program} {l : Launch} {e : Env} {R : Room} {s : State} {m : MethodId} {args : Array Value} {below : List Frame} {meth : Method} {c : Code} (C : XC E I R p s m args meth c) {kd : Nat} {atype : ArrayType} {z : vp_A} {n : Int32} (d : decode I.2.1 pc = .ok (.newarray atype, 2)) (hw : Cond.arrayClass (newarray.typeOf atype) ∈ lwg) (ht : ∀ dA, (tysOf dA)[kd]? = some (dA kd, newarray.typeOf atype)) (hz : ∀ cA : ClassId, vp_cell cA z = arrV cA n.toNatClampNeg (fun _ => defaultValue (newarray.typeOf atype))) (hbe : inb n 100000 = true) (hcb : componentBytes (newarray.typeOf atype) ≤ 8)
    (H : Heap) (ls : Array Slot) (locs : List Loc) (cells slots : Nat) (Q : State → Prop) (r : List Value) (hc1 : cells + 1 ≤ R.cells) (hc2 : slots + n.toNatClampNeg ≤ R.slots) (kk : ∀ H' : Heap, va_at E.2.2.2.1 classes (H.size, .inl (E.2.2.2.2 kd, z)) H' → H'.size = H.size + 1 → (∀ q : Nat, q < H.size → H'[q]? = H[q]?) → W p l e R s m args below meth c H' locs (cells + 1) (slots + n.toNatClampNeg) Q (F0 m (pc + 2) ls (.ref H.size :: r))) : W p l e R s m args below meth c H locs cells slots Q (F0 m pc ls (.int n :: r)) := by
  obtain ⟨hx, hb, hml, hown, hnm', hr, hlk, hts, hK, hbs⟩ := C
  have hin := inb_in hbe
  have hlt : n.toNatClampNeg < 100000 := Nat.not_le.mp fun q => hin (Or.inr q)
  refine va_newaK hx hb (hts _ hw) (g := F0 m pc ls (.int n :: r)) rfl d rfl (fun q => hin (Or.inl q)) rfl (by have := Nat.mul_le_mul (Nat.le_of_lt hlt) hcb; omega) hc1 hc2 rfl fun H1 cA e1 z1 o1 hAr hNm => ?_
  have hnm2 : s.vm.findClass ("[" ++ (newarray.typeOf atype).toString) = some (E.2.2.2.2 kd) := by
    have := (hK.1.2 kd _ (ht _)).2
    cases atype <;> exact this
  have e : cA = E.2.2.2.2 kd := Option.some.inj (hNm.symm.trans hnm2)
  subst e
  exact kk H1 (by show H1[H.size]? = some (vp_cell _ _); rw [hz]; exact e1) z1 o1
theorem newi_inv {kd nx : Nat} {L : Ls} {st : List Value} {h : Hp} {S : XStp} (hS : o_newi kd nx L st h = some S) : ∃ (n : Int32) (r : List Value), st = .int n :: r ∧ inb n 100000 = true ∧ S = .inl (nx, L, .ref h.1 :: r, hnew h n.toNatClampNeg (.inl (kd, n.toNatClampNeg, .inl (fun _ => 0)))) := by
  simp only [o_newi] at hS; split at hS
  next n r =>
    cases hbe : inb n 100000 with
    | false => rw [hbe] at hS; cases hS
    | true =>
      rw [hbe] at hS
      simp only [cond_true, Option.some.injEq] at hS; subst hS
      exact ⟨n, r, rfl, hbe, rfl⟩
  all_goals cases hS
theorem sg_newB (d : decode I.2.1 pc = .ok (.newarray .byte, 2)) (hw : Cond.arrayClass .byte ∈ lwg) : SG E I pc (o_newi 0 (pc + 2)) := by
  refine SG.nw fun p l e R s m args below meth c CC L st h S hS => ?_
  obtain ⟨n, r, rfl, hbe, rfl⟩ := newi_inv hS
  exact ⟨_, _, _, _, rfl, fun _ _ => rfl, fun H ls locs cells slots Q hH hL hs hc1 hc2 kk => newi_core CC d hw (fun _ => rfl) (fun _ => rfl) hbe (by decide) H ls locs cells slots Q r hc1 hc2 kk⟩
theorem sg_newI (d : decode I.2.1 pc = .ok (.newarray .int, 2)) (hw : Cond.arrayClass .int ∈ lwg) : SG E I pc (o_newi 1 (pc + 2)) := by
  refine SG.nw fun p l e R s m args below meth c CC L st h S hS => ?_
  obtain ⟨n, r, rfl, hbe, rfl⟩ := newi_inv hS
  exact ⟨_, _, _, _, rfl, (fun q => by cases q), fun H ls locs cells slots Q hH hL hs hc1 hc2 kk => newi_core CC d hw (fun _ => rfl) (fun _ => rfl) hbe (by decide) H ls locs cells slots Q r hc1 hc2 kk⟩
theorem sg_newL (d : decode I.2.1 pc = .ok (.newarray .long, 2)) (hw : Cond.arrayClass .long ∈ lwg) : SG E I pc (o_newl (pc + 2)) := by
  refine SG.nw fun p l e R s m args below meth c CC L st h S hS => ?_
  simp only [o_newl] at hS; split at hS
  next n r =>
    cases hbe : inb n 100000 with
    | false => rw [hbe] at hS; cases hS
    | true =>
      rw [hbe] at hS
      simp only [cond_true, Option.some.injEq] at hS; subst hS
      exact ⟨_, _, _, _, rfl, trivial, fun H ls locs cells slots Q hH hL hs hc1 hc2 kk => newi_core CC d hw (fun _ => rfl) (fun _ => rfl) hbe (by decide) H ls locs cells slots Q r hc1 hc2 kk⟩
  all_goals cases hS
theorem newq_inv {kd nx : Nat} {L : Ls} {st : List Value} {h : Hp} {S : XStp} (hS : o_newq kd nx L st h = some S) : ∃ (n : Int32) (r : List Value), st = .int n :: r ∧ inb n 100000 = true ∧ S = .inl (nx, L, .ref h.1 :: r, hnew h n.toNatClampNeg (.inl (kd, n.toNatClampNeg, .inr (.inr (.inr (.inr (fun _ => none))))))) := by
  simp only [o_newq] at hS; split at hS
  next n r =>
    cases hbe : inb n 100000 with
    | false => rw [hbe] at hS; cases hS
    | true =>
      rw [hbe] at hS
      simp only [cond_true, Option.some.injEq] at hS; subst hS
      exact ⟨n, r, rfl, hbe, rfl⟩
  all_goals cases hS
theorem push_new {H : Heap} {cA : ClassId} {N : Nat} : (H.push { cls := cA, slots := Array.replicate N .null, vm := .none })[H.size]? = some (vp_cell cA (N, .inr (.inr (.inr (.inr (fun _ => none)))))) := by
  rw [vp_cell_q]
  show _ = some (arrV cA N (fun _ => Value.null))
  rw [← arrV_new]
  simp
theorem sg_newQ {kd i : Nat} {C : String} (d : decode I.2.1 pc = .ok (.anewarray i, 3)) (ht : ∀ dA, (tysOf dA)[kd]? = some (dA kd, .object C)) (hw1 : Cond.classLink I.1.cls i C ∈ lwg) (hw2 : Cond.arrayOver (.object C) ∈ lwg) : SG E I pc (o_newq kd (pc + 3)) := by
  refine SG.nw fun p l e R s m args below meth c CC L st h S hS => ?_
  obtain ⟨n, r, rfl, hbe, rfl⟩ := newq_inv hS
  obtain ⟨hx, hb, hml, hown, hnm', hr, hlk, hts, hK, hbs⟩ := CC
  refine ⟨_, _, _, _, rfl, trivial, fun H ls locs cells slots Q hH hL hs hc1 hc2 kk => ?_⟩
  have hin := inb_in hbe
  have hlt : n.toNatClampNeg < 100000 := Nat.not_le.mp fun q => hin (Or.inr q)
  refine W.anew hx hb hown (hts _ hw1) (hts _ hw2) (g := F0 m pc ls (.int n :: r)) rfl d rfl (fun q => hin (Or.inl q)) (by omega) hc1 hc2 fun cA kA comp h1 h2 h3 h4 => ?_
  obtain ⟨_, _, -, -, -, h5⟩ := (hK.1.2 kd _ (ht _)).2
  have e : cA = E.2.2.2.2 kd := Option.some.inj (h1.symm.trans h5)
  subst e
  exact kk _ push_new (by simp) (fun q hq => by rw [Array.getElem?_push, if_neg (Nat.ne_of_lt hq)])
theorem sg_newA {kd i : Nat} {t : FieldType} (d : decode I.2.1 pc = .ok (.anewarray i, 3)) (ht : ∀ dA, (tysOf dA)[kd]? = some (dA kd, .array t)) (hw1 : Cond.classLink I.1.cls i (FieldType.array t).toString ∈ lwg) (hw2 : Cond.arrayOver (.array t) ∈ lwg) : SG E I pc (o_newq kd (pc + 3)) := by
  refine SG.nw fun p l e R s m args below meth c CC L st h S hS => ?_
  obtain ⟨n, r, rfl, hbe, rfl⟩ := newq_inv hS
  obtain ⟨hx, hb, hml, hown, hnm', hr, hlk, hts, hK, hbs⟩ := CC
  refine ⟨_, _, _, _, rfl, trivial, fun H ls locs cells slots Q hH hL hs hc1 hc2 kk => ?_⟩
  have hin := inb_in hbe
  have hlt : n.toNatClampNeg < 100000 := Nat.not_le.mp fun q => hin (Or.inr q)
  refine W.anewA hx hb hown (hts _ hw1) (hts _ hw2) (g := F0 m pc ls (.int n :: r)) rfl d rfl (fun q => hin (Or.inl q)) (by omega) hc1 hc2 fun cA kA comp h1 h2 h3 h4 => ?_
  have h5 : s.vm.findClass ("[" ++ (FieldType.array t).toString) = some (E.2.2.2.2 kd) := (hK.1.2 kd _ (ht _)).2
  have e : cA = E.2.2.2.2 kd := Option.some.inj (h1.symm.trans h5)
  subst e
  exact kk _ push_new (by simp) (fun q hq => by rw [Array.getElem?_push, if_neg (Nat.ne_of_lt hq)])
end SGQ
end
section
/-! each step is sound: copies, calls, returns -/
section SGR
variable {E : XE} {I : MI} {pc : Nat}
theorem toI_of_nonneg (z : Int32) (hz : ¬ z < 0) : z.toInt = (z.toNatClampNeg : Int) := by
  have hz0 : (0 : Int) ≤ z.toInt := by
    have := Int32.not_lt.mp hz
    simpa using Int32.le_iff_toInt_le.mp this
  show z.toInt = ((z.toInt.toNat : Nat) : Int)
  omega
theorem acp_inv {nx : Nat} {L : Ls} {st : List Value} {h : Hp} {S : XStp} (hS : o_acp nx L st h = some S) : ∃ (n dp sp : Int32) (d a : Nat) (r : List Value) (w : Bool) (k na nd : Nat) (f g : Nat → Int32), st = .int n :: .int dp :: .ref d :: .int sp :: .ref a :: r ∧ h.2.2 a = some (w, .inl (k, na, .inl f)) ∧ h.2.2 d = some (true, .inl (k, nd, .inl g)) ∧ stw r ≤ 8 ∧ k < 2 ∧ ¬ n < 0 ∧ ¬ sp < 0 ∧ ¬ dp < 0 ∧ sp.toNatClampNeg + n.toNatClampNeg ≤ na ∧ dp.toNatClampNeg + n.toNatClampNeg ≤ nd ∧ S = .inl (nx, L, r, hset h d (.inl (k, nd, .inl (va_cpy f g sp.toNatClampNeg dp.toNatClampNeg n.toNatClampNeg)))) := by
  simp only [o_acp] at hS; split at hS
  next n dp d sp a r =>
    split at hS
    next w ka na f kd nd g hMa hMd =>
      cases hbe : (Nat.ble (stw r) 8 && Nat.beq ka kd && Nat.blt kd 2 && !(decide (n < 0)) && !(decide (sp < 0)) && !(decide (dp < 0)) && Nat.ble (sp.toNatClampNeg + n.toNatClampNeg) na && Nat.ble (dp.toNatClampNeg + n.toNatClampNeg) nd) with
      | false => rw [hbe] at hS; cases hS
      | true =>
        rw [hbe] at hS
        simp only [Bool.and_eq_true, Bool.not_eq_true', decide_eq_false_iff_not] at hbe
        obtain ⟨⟨⟨⟨⟨⟨⟨b1, b2⟩, b3⟩, b4⟩, b5⟩, b6⟩, b7⟩, b8⟩ := hbe
        have hk : ka = kd := Nat.eq_of_beq_eq_true b2
        subst hk
        simp only [cond_true, Option.some.injEq] at hS; subst hS
        exact ⟨n, dp, sp, d, a, r, w, ka, na, nd, f, g, rfl, hMa, hMd, Nat.le_of_ble_eq_true b1, blt_lt b3, b4, b5, b6, Nat.le_of_ble_eq_true b7, Nat.le_of_ble_eq_true b8, rfl⟩
    all_goals cases hS
  all_goals cases hS
theorem native_words : nativeFrameWords "java/lang/System" "arraycopy" 5 ≤ 40 := by decide +kernel
theorem sg_acp {i : Nat} (d : decode I.2.1 pc = .ok (.invokestatic i, 3)) (hw1 : Cond.methodLink I.1.cls i arraycopyName ∈ lwg) (hw2 : Cond.native arraycopyName ∈ lwg) (hw3 : Cond.static arraycopyName ∈ lwg) (hw4 : Cond.initialized "java/lang/System" ∈ lwg) : SG E I pc (o_acp (pc + 3)) := by
  refine SG.st fun p l e R s m args below meth c CC L st h S hS => ?_
  obtain ⟨hx, hb, hml, hown, hnm', hr, hlk, hts, hK, hbs, hR1, hR2⟩ := CC
  obtain ⟨n, dp, sp, a, a0, rest, w, k, n0, n1, f, g, rfl, hM0, hM1, h8, hk2, h3, h1, h2, h4, h5, rfl⟩ := acp_inv hS
  refine ⟨_, _, a, _, _, rfl, hM1, ?_, fun H ls locs cells slots Q hH hL hs kk => ?_⟩
  · intro H0 hH0 hk j
    simp only [va_cpy]
    split
    · exact (hH0.2 a0 w _ hM0).2.2 hk _
    · exact (hH0.2 a true _ hM1).2.2 hk j
  obtain ⟨ty, ht, hprim, hfit⟩ : ∃ ty : FieldType, (tysOf E.2.2.2.2)[k]? = some (E.2.2.2.2 k, ty) ∧ refKind ty = false ∧ ∀ j, fits ty (.int (f j)) = true := by
    have hck := (hH.2 a0 w _ hM0).2.2
    match k, hk2, hck with
    | 0, _, hck => exact ⟨.byte, rfl, rfl, hck rfl⟩
    | 1, _, _ => exact ⟨.int, rfl, rfl, fun _ => rfl⟩
  intro T hT X
  have hc0 : H[a0]? = some (vp_cell (E.2.2.2.2 k) (n0, .inl f)) := (hH.one hM0) 0 _ rfl
  have hc1 : H[a]? = some (vp_cell (E.2.2.2.2 k) (n1, .inl g)) := (hH.one hM1) 0 _ rfl
  obtain ⟨-, k0, hk0, cm0, hkk0⟩ := (hK.1.2 k _ ht).1 n0 (fun j => .int (f j))
  obtain ⟨-, k1, hk1, cm1, hkk1⟩ := (hK.1.2 k _ ht).1 n1 (fun j => .int (g j))
  obtain ⟨vm', X', step⟩ := X.arraycopy hx hown (hts _ hw1) (hts _ hw2) (hts _ hw3) (hts _ hw4) (src := a0) (dst := a) (cs := vp_cell (E.2.2.2.2 k) (n0, .inl f)) (cd := vp_cell (E.2.2.2.2 k) (n1, .inl g)) (srcPos := sp) (destPos := dp) (n := n) (by rw [hT]; exact hc0) (by rw [hT]; exact hc1)
    (fun _ h => by cases h) (fun _ h => by cases h) (fun h => by cases h) (fun h => by cases h) hk0 hk1 hkk0 hkk1 (by simp [hprim]) h1 h2 h3
    (by rw [toI_of_nonneg sp h1, toI_of_nonneg n h3]; show ¬ _ > ((arrV _ n0 (fun j => .int (f j))).slots.size : Int); rw [arrV_size]; omega)
    (by rw [toI_of_nonneg dp h2, toI_of_nonneg n h3]; show ¬ _ > ((arrV _ n1 (fun j => .int (g j))).slots.size : Int); rw [arrV_size]; omega)
    (fun vm₁ _ i hi => by
      have e : (vp_cell (E.2.2.2.2 k) (n0, .inl f)).slots.getD (sp.toNatClampNeg + i) .null = .int (f (sp.toNatClampNeg + i)) := by
        show (arrV _ n0 (fun j => .int (f j))).slots.getD _ _ = _
        rw [Array.getD_eq_getD_getElem?, arrV_read _ _ (by omega)]
        rfl
      refine ⟨?_, ?_⟩
      · rw [e]
        exact hfit _
      · rw [e]
        exact trivial)
    (g := F0 m pc ls (.int n :: .int dp :: .ref a :: .int sp :: .ref a0 :: rest)) rfl (by rw [hml]; exact hL.1.1) (rest := rest) rfl (by rw [hb]; exact d) hR1 (by have := native_words; show 2 * 0 + stw rest + _ ≤ _; omega)
  have e1 : copied (vp_cell (E.2.2.2.2 k) (n0, .inl f)) (vp_cell (E.2.2.2.2 k) (n1, .inl g)) sp dp n = vp_cell (E.2.2.2.2 k) (n1, .inl (va_cpy f g sp.toNatClampNeg dp.toNatClampNeg n.toNatClampNeg)) := va_copied (fun z => .int z) _ _ f g h4
  rw [e1] at X' step
  have hl : a < H.size := (Array.getElem?_eq_some_iff.mp hc1).1
  have hheap : ((T.setVm vm').setCell a (vp_cell (E.2.2.2.2 k) (n1, .inl (va_cpy f g sp.toNatClampNeg dp.toNatClampNeg n.toNatClampNeg)))).heap = H.setIfInBounds a (vp_cell (E.2.2.2.2 k) (n1, .inl (va_cpy f g sp.toNatClampNeg dp.toNatClampNeg n.toNatClampNeg))) := by rw [← hT]; rfl
  obtain ⟨t, a1, b1⟩ := kk _ _ (show (H.setIfInBounds a _)[a]? = some _ by simp [Array.getElem?_setIfInBounds, hl]) (by simp) (fun q hq => by simp [Array.getElem?_setIfInBounds, Ne.symm hq]) (fun x hx => by obtain ⟨z, -, hz⟩ := List.mem_map.mp hx; rw [← hz]) _ hheap X'
  exact ⟨t, step t a1, b1⟩
theorem sg_iret (d : decode I.2.1 pc = .ok (.ireturn, 1)) (hr : I.2.2.2 = some .int) : SG E I pc o_iret := by
  intro p l e R s m args below meth c C L st h S hS H ls locs cells slots hH hL hs
  obtain ⟨hx, hb, hml, hown, hnm', hrt, hlk, hts, hK, hbs, hR⟩ := C
  simp only [o_iret] at hS; split at hS
  next x => simp only [o_ret, Option.some.injEq] at hS; subst hS; exact ⟨rfl, fun Qc free hq hf => W.iret hx hb (by rw [hrt]; exact hr) hq hf d hlk⟩
  all_goals cases hS
theorem sg_zret {ty : FieldType} (d : decode I.2.1 pc = .ok (.ireturn, 1)) (hr : I.2.2.2 = some ty) (hn : narrow ty (.int 0) = .int 0 ∧ narrow ty (.int 1) = .int 1) : SG E I pc o_zret := by
  intro p l e R s m args below meth c C L st h S hS H ls locs cells slots hH hL hs
  obtain ⟨hx, hb, hml, hown, hnm', hrt, hlk, hts, hK, hbs, hR⟩ := C
  simp only [o_zret] at hS; split at hS
  next x =>
    cases hbe : (decide (x = 0) || decide (x = 1)) with
    | false => rw [hbe] at hS; cases hS
    | true =>
      rw [hbe] at hS
      simp only [Bool.or_eq_true, decide_eq_true_eq] at hbe
      simp only [cond_true, o_ret, Option.some.injEq] at hS; subst hS
      refine ⟨rfl, fun Qc free hq hf => W.zret hx hb (by rw [hrt]; exact hr) ?_ hq hf d hlk⟩
      rcases hbe with rfl | rfl
      · exact hn.1
      · exact hn.2
  all_goals cases hS
theorem sg_lret (d : decode I.2.1 pc = .ok (.lreturn, 1)) (hr : I.2.2.2 = some .long) : SG E I pc o_lret := by
  intro p l e R s m args below meth c C L st h S hS H ls locs cells slots hH hL hs
  obtain ⟨hx, hb, hml, hown, hnm', hrt, hlk, hts, hK, hbs, hR⟩ := C
  simp only [o_lret] at hS; split at hS
  next x => simp only [o_ret, Option.some.injEq] at hS; subst hS; exact ⟨rfl, fun Qc free hq hf => W.lret hx hb (by rw [hrt]; exact hr) hq hf d hlk⟩
  all_goals cases hS
theorem sg_aret {rt : FieldType} (d : decode I.2.1 pc = .ok (.areturn, 1)) (hr : I.2.2.2 = some rt) (ho : (∃ n, rt = .object n) ∨ ∃ t, rt = .array t) : SG E I pc o_aret := by
  intro p l e R s m args below meth c C L st h S hS H ls locs cells slots hH hL hs
  obtain ⟨hx, hb, hml, hown, hnm', hrt, hlk, hts, hK, hbs, hR⟩ := C
  simp only [o_aret] at hS; split at hS
  next x => simp only [o_ret, Option.some.injEq] at hS; subst hS; exact ⟨rfl, fun Qc free hq hf => W.aret hx hb (by rw [hrt]; exact hr) ho (Or.inr ⟨_, rfl⟩) hq hf d hlk⟩
  next => simp only [o_ret, Option.some.injEq] at hS; subst hS; exact ⟨rfl, fun Qc free hq hf => W.aret hx hb (by rw [hrt]; exact hr) ho (Or.inl rfl) hq hf d hlk⟩
  all_goals cases hS
theorem sg_vret (d : decode I.2.1 pc = .ok (.return_, 1)) (hr : I.2.2.2 = none) : SG E I pc o_vret := by
  intro p l e R s m args below meth c C L st h S hS H ls locs cells slots hH hL hs
  obtain ⟨hx, hb, hml, hown, hnm', hrt, hlk, hts, hK, hbs, hR⟩ := C
  simp only [o_vret] at hS; split at hS
  next => simp only [o_ret, Option.some.injEq] at hS; subst hS; exact ⟨rfl, fun Qc free hq hf => W.vret hx hb (by rw [hrt]; exact hr) hq hf d hlk⟩
  all_goals cases hS
/-! calls -/
theorem good_ws (mid : Nat) (hcode : Cond.code (mI mid).1 (mI mid).2.1 (mI mid).2.2.1 (mI mid).2.2.2 ∈ lwg) : GoodIn lwg (wsOf mid) := by
  intro w hw
  rcases List.mem_cons.mp hw with rfl | h
  · exact ⟨hcode, good_of_word (lwg_good hcode)⟩
  · exact ⟨h, good_of_word (lwg_good h)⟩
/-- what is asked of a method that is called: its words, its arguments -/
def cOK (mid n : Nat) : Prop := Cond.code (mI mid).1 (mI mid).2.1 (mI mid).2.2.1 (mI mid).2.2.2 ∈ lwg ∧ Cond.initialized (mI mid).1.cls ∈ lwg ∧ ((mI mid).1.cls ≠ "java/lang/invoke/MethodHandle" ∧ (mI mid).1.cls ≠ "java/lang/invoke/VarHandle" ∧ (parseMethodDescriptor (mI mid).1.desc).map (fun d => d.parameters.length) = some n)
theorem call_inv {mid : Nat} {As : List Value} {nx : Nat} {L : Ls} {r : List Value} {h : Hp} {S : XStp} (hS : o_call mid As nx L r h = some S) : stw r ≤ 8 ∧ S = .inr (.inr (mid, As, nx, L, r, h)) := by
  simp only [o_call] at hS
  cases hbe : Nat.ble (stw r) 8 with
  | false => rw [hbe] at hS; cases hS
  | true =>
    rw [hbe] at hS
    simp only [cond_true, Option.some.injEq] at hS; subst hS
    exact ⟨Nat.le_of_ble_eq_true hbe, rfl⟩
theorem inv_inv {mid n nx : Nat} {L : Ls} {st : List Value} {h : Hp} {S : XStp} (hS : o_inv mid n nx L st h = some S) : ∃ As r : List Value, st = As.reverse ++ r ∧ As.length = n ∧ stw r ≤ 8 ∧ S = .inr (.inr (mid, As, nx, L, r, h)) := by
  simp only [o_inv] at hS
  cases hbe : Nat.ble n st.length with
  | false => rw [hbe] at hS; cases hS
  | true =>
    rw [hbe] at hS
    simp only [cond_true] at hS
    obtain ⟨h1, h2⟩ := call_inv hS
    exact ⟨_, _, by simp, by simp; exact Nat.min_eq_left (Nat.le_of_ble_eq_true hbe), h1, h2⟩
theorem sg_inv {mid n i : Nat} (hlv : lvO (mI mid).1 < lvO I.1) (d : decode I.2.1 pc = .ok (.invokestatic i, 3)) (hc : cOK mid n) (hw1 : Cond.methodLink I.1.cls i (mI mid).1 ∈ lwg) (hw2 : Cond.static (mI mid).1 ∈ lwg) : SG E I pc (o_inv mid n (pc + 3)) := by
  intro p l e R s m args below meth c C L st h S hS H ls locs cells slots hH hL hs
  obtain ⟨hx, hb, hml, hown, hnm', hrt, hlk, hts, hK, hbs, hR⟩ := C
  obtain ⟨As, r, rfl, hn, h8, rfl⟩ := inv_inv hS
  refine ⟨rfl, rfl, rfl, hlv, fun rm Pc Qc mc ms free hM hrc hrs hf hlo hbl hP h1 h2 => ?_⟩
  exact va_runS (nL := I.2.2.1) (Ts := lwg) (own := I.1.cls) ⟨hx, hb, hml, hown, hts⟩ hM ⟨callB_of n hts (good_ws mid hc.1) rfl hrc hrs (hts _ hc.2.1) (hts _ hw1) hc.2.2 ⟨hf, hlo⟩, hts _ hw2⟩ ⟨hbl, hP⟩ rfl hn hL.1.1 rfl (lv_room h8) d ⟨h1, h2⟩
theorem sg_invN {mid n i : Nat} {host : String} (hlv : lvO (mI mid).1 < lvO I.1) (d : decode I.2.1 pc = .ok (.invokestatic i, 3)) (hc : cOK mid n) (hw1 : Cond.methodLinkNest I.1.cls i (mI mid).1 host ∈ nestW) (hw2 : Cond.static (mI mid).1 ∈ lwg) : SG E I pc (o_inv mid n (pc + 3)) := by
  intro p l e R s m args below meth c C L st h S hS H ls locs cells slots hH hL hs
  obtain ⟨hx, hb, hml, hown, hnm', hrt, hlk, hts, hK, hbs, hR⟩ := C
  obtain ⟨As, r, rfl, hn, h8, rfl⟩ := inv_inv hS
  refine ⟨rfl, rfl, rfl, hlv, fun rm Pc Qc mc ms free hM hrc hrs hf hlo hbl hP h1 h2 => ?_⟩
  exact va_runSN (nL := I.2.2.1) (Ts := lwg) (own := I.1.cls) ⟨hx, hb, hml, hown, hts⟩ hM ⟨va_cnB n hts (good_ws mid hc.1) rfl hrc hrs (hK.2.1 _ hw1) (hts _ hc.2.1) hc.2.2 ⟨hf, hlo⟩, hts _ hw2, trivial⟩ ⟨hbl, hP⟩ rfl hn hL.1.1 rfl (lv_room h8) d ⟨h1, h2⟩
theorem drop_take {n : Nat} {st r : List Value} {v : Value} (h : st.drop n = v :: r) (hn : n ≤ st.length) : st = (st.take n).reverse.reverse ++ v :: r ∧ (st.take n).reverse.length = n := by
  constructor
  · rw [List.reverse_reverse, ← h, List.take_append_drop]
  · simp; exact Nat.min_eq_left hn
theorem invV_inv {mid ci n nx : Nat} {L : Ls} {st : List Value} {h : Hp} {S : XStp} (hS : o_invV mid ci n nx L st h = some S) : ∃ (As r : List Value) (a : Nat) (w : Bool) (fs : List Value), st = As.reverse ++ .ref a :: r ∧ As.length = n ∧ h.2.2 a = some (w, .inr (ci, fs)) ∧ stw r ≤ 8 ∧ S = .inr (.inr (mid, .ref a :: As, nx, L, r, h)) := by
  simp only [o_invV] at hS; split at hS
  next a r hd =>
    split at hS
    next w c fs hM =>
      cases hbe : (Nat.beq c ci && Nat.ble n st.length) with
      | false => rw [hbe] at hS; cases hS
      | true =>
        rw [hbe] at hS
        simp only [Bool.and_eq_true] at hbe
        simp only [cond_true] at hS
        obtain ⟨h1, h2⟩ := call_inv hS
        have hce : c = ci := Nat.eq_of_beq_eq_true hbe.1
        subst hce
        obtain ⟨e1, e2⟩ := drop_take hd (Nat.le_of_ble_eq_true hbe.2)
        exact ⟨_, r, a, w, fs, e1, e2, hM, h1, h2⟩
    all_goals cases hS
  all_goals cases hS
theorem invI_inv {mid n nx : Nat} {L : Ls} {st : List Value} {h : Hp} {S : XStp} (hS : o_invI mid n nx L st h = some S) : ∃ (As r : List Value) (a : Nat), st = As.reverse ++ .ref a :: r ∧ As.length = n ∧ stw r ≤ 8 ∧ S = .inr (.inr (mid, .ref a :: As, nx, L, r, h)) := by
  simp only [o_invI] at hS; split at hS
  next a r hd =>
    cases hbe : Nat.ble n st.length with
    | false => rw [hbe] at hS; cases hS
    | true =>
      rw [hbe] at hS
      simp only [cond_true] at hS
      obtain ⟨h1, h2⟩ := call_inv hS
      obtain ⟨e1, e2⟩ := drop_take hd (Nat.le_of_ble_eq_true hbe)
      exact ⟨_, r, a, e1, e2, h1, h2⟩
  all_goals cases hS
theorem sg_invV {mid ci n i : Nat} {q : vw_C} (hlv : lvO (mI mid).1 < lvO I.1) (d : decode I.2.1 pc = .ok (.invokevirtual i, 3)) (hc : cOK mid n) (hci : classes[ci]? = some q) (hw1 : Cond.methodLink I.1.cls i (mI mid).1 ∈ lwg) (hw2 : Cond.instanceMethod (mI mid).1 ∈ lwg) (hw3 : Cond.selects q.1 (mI mid).1 (mI mid).1 ∈ lwg) : SG E I pc (o_invV mid ci n (pc + 3)) := by
  intro p l e R s m args below meth c C L st h S hS H ls locs cells slots hH hL hs
  obtain ⟨hx, hb, hml, hown, hnm', hrt, hlk, hts, hK, hbs, hR⟩ := C
  obtain ⟨As, r, a, w, fs, rfl, hn, hM, h8, rfl⟩ := invV_inv hS
  refine ⟨rfl, rfl, rfl, hlv, fun rm Pc Qc mc ms free hMt hrc hrs hf hlo hbl hP h1 h2 => ?_⟩
  exact va_runV (nL := I.2.2.1) (Ts := lwg) (own := I.1.cls) (C := q.1) ⟨hx, hb, hml, hown, hts⟩ hMt ⟨callB_of n hts (good_ws mid hc.1) rfl hrc hrs (hts _ hc.2.1) (hts _ hw1) hc.2.2 ⟨hf, hlo⟩, hts _ hw2, hts _ hw3⟩ ⟨hbl, va_recv hK.1 (hH.one hM) hci (q0 := 0) rfl, hP⟩ rfl hn hL.1.1 rfl (lv_room h8) d ⟨h1, h2⟩
theorem sg_invI {mid n i : Nat} (hlv : lvO (mI mid).1 < lvO I.1) (d : decode I.2.1 pc = .ok (.invokespecial i, 3)) (hc : cOK mid n) (hini : (mI mid).1.name = "<init>") (hrn : (mI mid).2.2.2 = none) (hw1 : Cond.methodLink I.1.cls i (mI mid).1 ∈ lwg) (hw2 : Cond.instanceMethod (mI mid).1 ∈ lwg) : SG E I pc (o_invI mid n (pc + 3)) := by
  intro p l e R s m args below meth c C L st h S hS H ls locs cells slots hH hL hs
  obtain ⟨hx, hb, hml, hown, hnm', hrt, hlk, hts, hK, hbs, hR⟩ := C
  obtain ⟨As, r, a, rfl, hn, h8, rfl⟩ := invI_inv hS
  refine ⟨rfl, rfl, rfl, hlv, fun rm Pc Qc mc ms free hMt hrc hrs hf hlo hbl hP h1 h2 => ?_⟩
  have hcb := callB_of (R := R) (s := s) (args := args) (own := I.1.cls) (index := i) (rm := rm) (mc := mc) (ms := ms) n hts (good_ws mid hc.1) (show wsOf mid = Cond.code (mI mid).1 (mI mid).2.1 (mI mid).2.2.1 (mI mid).2.2.2 :: lwg from rfl) hrc hrs (hts _ hc.2.1) (hts _ hw1) hc.2.2 ⟨hf, hlo⟩
  rw [hrn] at hcb
  exact va_runI (nL := I.2.2.1) (Ts := lwg) (own := I.1.cls) ⟨hx, hb, hml, hown, hts⟩ hMt ⟨hcb, hini, hts _ hw2⟩ ⟨hbl, hP⟩ rfl hn hL.1.1 rfl (lv_room h8) d ⟨h1, h2⟩
theorem sg_invIN {mid n i : Nat} {host : String} (hlv : lvO (mI mid).1 < lvO I.1) (d : decode I.2.1 pc = .ok (.invokespecial i, 3)) (hc : cOK mid n) (hini : (mI mid).1.name = "<init>") (hrn : (mI mid).2.2.2 = none) (hw1 : Cond.methodLinkNest I.1.cls i (mI mid).1 host ∈ nestW) (hw2 : Cond.instanceMethod (mI mid).1 ∈ lwg) : SG E I pc (o_invI mid n (pc + 3)) := by
  intro p l e R s m args below meth c C L st h S hS H ls locs cells slots hH hL hs
  obtain ⟨hx, hb, hml, hown, hnm', hrt, hlk, hts, hK, hbs, hR⟩ := C
  obtain ⟨As, r, a, rfl, hn, h8, rfl⟩ := invI_inv hS
  refine ⟨rfl, rfl, rfl, hlv, fun rm Pc Qc mc ms free hMt hrc hrs hf hlo hbl hP h1 h2 => ?_⟩
  have hcb := va_cnB (R := R) (s := s) (args := args) (own := I.1.cls) (index := i) (rm := rm) (mc := mc) (ms := ms) n hts (good_ws mid hc.1) (show wsOf mid = Cond.code (mI mid).1 (mI mid).2.1 (mI mid).2.2.1 (mI mid).2.2.2 :: lwg from rfl) hrc hrs (hK.2.1 _ hw1) (hts _ hc.2.1) hc.2.2 ⟨hf, hlo⟩
  rw [hrn] at hcb
  exact va_runIN (nL := I.2.2.1) (Ts := lwg) (own := I.1.cls) ⟨hx, hb, hml, hown, hts⟩ hMt ⟨hcb, hini, hts _ hw2⟩ ⟨hbl, hP⟩ rfl hn hL.1.1 rfl (lv_room h8) d ⟨h1, h2⟩
end SGR
end
section
/-! a run of the abstract machine is a run of the machine -/
def Cs (E : XE) (I : MI) (cd : Cd) : Prop := ∀ (pc : Nat) (o : XOp), cd pc = some o → SG E I pc o
theorem Cs_nd {E : XE} {I : MI} {k : Nat} {f g : Cd} (hf : Cs E I f) (hg : Cs E I g) : Cs E I (nd k f g) := by
  intro pc o h
  simp only [nd] at h
  cases hb : Nat.blt pc k with
  | true => rw [hb] at h; exact hf pc o h
  | false => rw [hb] at h; exact hg pc o h
theorem Cs_lf {E : XE} {I : MI} {k : Nat} {o : XOp} (h : SG E I k o) : Cs E I (lf k o) := by
  intro pc o' h'
  simp only [lf] at h'
  cases hb : Nat.beq pc k with
  | false => rw [hb] at h'; cases h'
  | true =>
    rw [hb] at h'
    have e : pc = k := Nat.eq_of_beq_eq_true hb
    subst e
    simp only [cond_true, Option.some.injEq] at h'
    subst h'
    exact h
theorem hle_le {h h' : Hp} (e : hle h h' = true) : h.1 ≤ h'.1 ∧ h.2.1 ≤ h'.2.1 := by
  simp only [hle, Bool.and_eq_true] at e
  exact ⟨Nat.le_of_ble_eq_true e.1, Nat.le_of_ble_eq_true e.2⟩
/-- nothing shrinks -/
theorem xexec_mono (P : Pg) : ∀ (f : Nat) (cd : Cd) (pc : Nat) (ls : Ls) (st : List Value) (h : Hp) (v : Option Value) (h' : Hp), xexec P f cd pc ls st h = some (v, h') → h.1 ≤ h'.1 ∧ h.2.1 ≤ h'.2.1
  | 0, _, _, _, _, _, _, _, e => by simp [xexec] at e
  | f + 1, cd, pc, ls, st, h, v, h', e => by
    simp only [xexec] at e
    split at e
    next => cases e
    next o ho =>
      split at e
      next => cases e
      next pc1 ls1 st1 h1 hS =>
        cases hb : hle h h1 with
        | false => rw [hb] at e; cases e
        | true =>
          rw [hb] at e
          have a := hle_le hb
          have b := xexec_mono P f cd pc1 ls1 st1 h1 v h' e
          exact ⟨Nat.le_trans a.1 b.1, Nat.le_trans a.2 b.2⟩
      next v1 h1 hS =>
        cases hb : hle h h1 with
        | false => rw [hb] at e; cases e
        | true =>
          rw [hb] at e
          simp only [cond_true, Option.some.injEq, Prod.mk.injEq] at e
          obtain ⟨-, rfl⟩ := e
          exact hle_le hb
      next mid As pc1 ls1 st1 h1 hS =>
        cases hb : (hle h h1 && Nat.ble (lent As).length (P mid).2) with
        | false => rw [hb] at e; cases e
        | true =>
          rw [hb] at e
          simp only [Bool.and_eq_true] at hb
          simp only [cond_true] at e
          split at e
          next v2 h2 hc =>
            have a := hle_le hb.1
            have b := xexec_mono P f _ _ _ _ _ v2 h2 hc
            have d := xexec_mono P f cd pc1 ls1 _ h2 v h' e
            exact ⟨Nat.le_trans a.1 (Nat.le_trans b.1 d.1), Nat.le_trans a.2 (Nat.le_trans b.2 d.2)⟩
          next => cases e
def rmO (lv mc ms : Nat) : Room := { frames := lv, cells := mc, slots := ms, locals := 64 * lv }
def PcX (E : XE) (As : List Value) (h : Hp) : Array Value → State → Prop := fun a U => a = As.toArray ∧ HR E h U.heap ∧ KX E U U.heap ∧ E.1 ≤ U.heap.size
def QcX (E : XE) (v : Option Value) (h' : Hp) : Array Value → State → Outcome → State → Prop := fun _ st o t => o = .returned v ∧ HR E h' t.heap ∧ va_F (XA E) st t
theorem PcX_blind (E : XE) (As : List Value) (h : Hp) : FrameBlind (PcX E As h) := by
  rintro a U g mk ⟨h1, h2, h3, h4⟩
  exact ⟨h1, h2, KX.same (u := U) (U := U.calling g mk a) rfl h3, h4⟩
/-- the contract of a run -/
def CT (E : XE) (l : Launch) (mid : Nat) (As : List Value) (h : Hp) (v : Option Value) (h' : Hp) : Prop := Met l (mI mid).1 (wsOf mid) (rmO (lvO (mI mid).1) (h'.1 - h.1) (h'.2.1 - h.2.1)) (PcX E As h) (QcX E v h') (h'.1 - h.1) (h'.2.1 - h.2.1) (XA E)
/-- a method of the program whose code is sound -/
def GM (E : XE) (P : Pg) (mid : Nat) : Prop := Cs E (mI mid) (P mid).1 ∧ (P mid).2 = (mI mid).2.2.1 ∧ plainName (mI mid).1.cls = true ∧ 1 ≤ lvO (mI mid).1 ∧ (mI mid).2.2.1 ≤ 40
theorem xbody {E : XE} {P : Pg} {l : Launch} {f0 : Nat} (IH : ∀ f, f < f0 → ∀ (mid : Nat) (As : List Value) (h : Hp) (v : Option Value) (h' : Hp), xexec P f (P mid).1 0 (lpad (P mid).2 (lent As)) [] h = some (v, h') → (lent As).length ≤ (P mid).2 → CT E l mid As h v h' ∧ (P mid).2 ≤ 40) {I : MI} {cd : Cd} (hcd : Cs E I cd) {mc ms : Nat} {p : Program} {e : Env} {s : State} {m : MethodId} {args : Array Value} {below : List Frame} {meth : Method} {c : Code} (C : XC E I (rmO (lvO I.1) mc ms) p s m args meth c) (hP2 : ∀ mid, (P mid).2 = (mI mid).2.2.1) :
    ∀ (f : Nat), f ≤ f0 → ∀ (pc : Nat) (L : Ls) (st : List Value) (h : Hp) (v : Option Value) (h' : Hp), xexec P f cd pc L st h = some (v, h') → ∀ (H : Heap) (ls : Array Slot) (locs : List Loc) (cells slots : Nat), HR E h H → LV ls I.2.2.1 L → va_S (XA E) s.heap H locs → cells + (h'.1 - h.1) = mc → slots + (h'.2.1 - h.2.1) = ms → W p l e (rmO (lvO I.1) mc ms) s m args below meth c H locs cells slots (MQ below (QcX E v h') args s mc ms (XA E)) (F0 m pc ls st) := by
  intro f
  induction f with
  | zero => intro _ pc L st h v h' hx; simp [xexec] at hx
  | succ f ih =>
    intro hf pc L st h v h' hx H ls locs cells slots hH hL hs hc hsl
    have hx0 := hx
    simp only [xexec] at hx
    split at hx
    next => cases hx
    next o ho =>
      have hsg := hcd pc o ho
      split at hx
      next => cases hx
      next pc1 ls1 st1 h1 hS =>
        cases hb : hle h h1 with
        | false => rw [hb] at hx; cases hx
        | true =>
          rw [hb] at hx
          simp only [cond_true] at hx
          have a := hle_le hb
          have b := xexec_mono P f cd pc1 ls1 st1 h1 v h' hx
          obtain ⟨-, -, k⟩ := hsg p l e (rmO (lvO I.1) mc ms) s m args below meth c C L st h _ hS H ls locs cells slots hH hL hs
          refine k _ (by show _ ≤ mc; omega) (by show _ ≤ ms; omega) fun H' ls' locs' q1 q2 q3 => ?_
          exact ih (by omega) pc1 ls1 st1 h1 v h' hx H' ls' locs' _ _ q1 q2 q3 (by omega) (by omega)
      next v1 h1 hS =>
        cases hb : hle h h1 with
        | false => rw [hb] at hx; cases hx
        | true =>
          rw [hb] at hx
          simp only [cond_true, Option.some.injEq, Prod.mk.injEq] at hx
          obtain ⟨rfl, rfl⟩ := hx
          obtain ⟨rfl, k⟩ := hsg p l e (rmO (lvO I.1) mc ms) s m args below meth c C L st h _ hS H ls locs cells slots hH hL hs
          have e1 : cells = mc := by omega
          have e2 : slots = ms := by omega
          subst e1; subst e2
          exact k (QcX E v1 h1) (XA E) (fun t ht hW => ⟨rfl, by rw [ht]; exact hH, hs.F ht⟩) hs.2.2
      next mid As pc1 ls1 st1 h1 hS =>
        cases hb : (hle h h1 && Nat.ble (lent As).length (P mid).2) with
        | false => rw [hb] at hx; cases hx
        | true =>
          rw [hb] at hx
          simp only [Bool.and_eq_true] at hb
          simp only [cond_true] at hx
          split at hx
          next v2 h2 hcall =>
            obtain ⟨rfl, rfl, rfl, hlv, k⟩ := hsg p l e (rmO (lvO I.1) mc ms) s m args below meth c C L st h _ hS H ls locs cells slots hH hL hs
            have mA := xexec_mono P f _ _ _ _ _ v2 h2 hcall
            have mB := xexec_mono P f cd _ _ _ h2 v h' hx
            obtain ⟨hct, h40⟩ := IH f (by omega) mid As h1 v2 h2 hcall (Nat.le_of_ble_eq_true hb.2)
            rw [hP2] at h40
            obtain ⟨hx', hb', hml, hown, hnm', hrt, hlk, hts, hK, hbs, hR⟩ := C
            have hrun := k (rmO (lvO (mI mid).1) (h2.1 - h1.1) (h2.2.1 - h1.2.1)) (PcX E As h1) (QcX E v2 h2) (h2.1 - h1.1) (h2.2.1 - h1.2.1) (XA E) hct rfl rfl (by show lvO (mI mid).1 + 1 ≤ lvO I.1; omega) (by show _ + 64 * lvO (mI mid).1 ≤ 64 * lvO I.1; omega) (PcX_blind E As h1)
              (fun U hU hW => ⟨rfl, by rw [hU]; exact hH, by rw [hU]; exact hK.warm hW hs.2.1, by rw [hU]; exact Nat.le_trans hbs hs.1⟩) (by show _ ≤ mc; omega) (by show _ ≤ ms; omega)
            intro T hT X
            obtain ⟨w, st₀, t, T', LL, g0, X', hLL, e1, e2, ⟨hv, hH2, hF⟩, stp⟩ := hrun T hT X
            have hvw : w = v2 := by injection hv
            subst hvw
            rw [← e1] at hH2
            have hs' : va_S (XA E) s.heap T'.heap (locs ++ LL) := by
              refine ⟨?_, fun q g1 g2 => ?_, fun x hx => ?_⟩
              · have := hF.1; rw [g0, ← e1] at this; exact Nat.le_trans hs.1 this
              · have := hF.2 q (by rw [g0]; exact Nat.lt_of_lt_of_le g1 hs.1) g2
                rw [g0, ← e1] at this
                rw [this]; exact hs.2.1 q g1 g2
              · rcases List.mem_append.mp hx with g | g
                · exact hs.2.2 x g
                · exact hLL x g
            obtain ⟨t2, a1, b1⟩ := ih (by omega) (pc + 3) ls1 (w.toList ++ st1) h2 v h' hx T'.heap ls (locs ++ LL) _ _ hH2 hL hs' (by omega) (by omega) T' rfl X'
            exact ⟨t2, stp t2 a1, b1⟩
          next => cases hx
/-- the contracts of all methods whose code is sound; what the others do is taken from elsewhere -/
theorem xsound {E : XE} {P : Pg} {l : Launch} (sp : Nat → Prop) (hG : ∀ mid, ¬ sp mid → GM E P mid) (hP2 : ∀ mid, (P mid).2 = (mI mid).2.2.1) (hsp : ∀ f0, (∀ f, f < f0 → ∀ (mid : Nat) (As : List Value) (h : Hp) (v : Option Value) (h' : Hp), xexec P f (P mid).1 0 (lpad (P mid).2 (lent As)) [] h = some (v, h') → (lent As).length ≤ (P mid).2 → CT E l mid As h v h' ∧ (P mid).2 ≤ 40) → ∀ mid, sp mid → ∀ (As : List Value) (h : Hp) (v : Option Value) (h' : Hp), xexec P f0 (P mid).1 0 (lpad (P mid).2 (lent As)) [] h = some (v, h') → (lent As).length ≤ (P mid).2 → CT E l mid As h v h' ∧ (P mid).2 ≤ 40) :
    ∀ (f : Nat) (mid : Nat) (As : List Value) (h : Hp) (v : Option Value) (h' : Hp), xexec P f (P mid).1 0 (lpad (P mid).2 (lent As)) [] h = some (v, h') → (lent As).length ≤ (P mid).2 → CT E l mid As h v h' ∧ (P mid).2 ≤ 40 := by
  intro f
  induction f using Nat.strongRecOn with
  | ind f0 IH =>
    intro mid As h v h' hx hlen
    by_cases hm : sp mid
    · exact hsp f0 IH mid hm As h v h' hx hlen
    obtain ⟨hcd, h2, hpl, hlv, h40⟩ := hG mid hm
    refine ⟨?_, by rw [h2]; exact h40⟩
    unfold CT
    refine Met.ofW (cc := (mI mid).2.1) (maxL := (mI mid).2.2.1) (ret := (mI mid).2.2.2) hpl rfl ?_
    intro p e s m args below meth c s₁ B hml hv
    obtain ⟨rfl, hH, hK, hbs⟩ := hv
    have hts := atoms_spec (ws := wsOf mid) B.pre
    have hown : s.vm.findClass (mI mid).1.cls = some m.cls := findClass_of_methodNamed B.named
    have hin : meth.name = (mI mid).1.name := (name_of_methodNamed B.named B.method).1
    rw [lg_entry_eq]
    rw [h2] at hx hlen
    exact xbody IH hcd (I := mI mid) ⟨B.exec, B.bytes, hml, hown, hin, B.returns, B.notSynchronized, fun w hw => hts w (List.mem_cons_of_mem _ hw), hK, hbs, hlv, by show 64 ≤ 64 * lvO (mI mid).1; omega⟩ hP2 f0 (Nat.le_refl _) 0 _ [] h v h' hx s.heap _ [] 0 0 hH (LV.entry As hlen) va_S.rf (Nat.zero_add _) (Nat.zero_add _)
end
