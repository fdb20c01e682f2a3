/-! words, methods that are called -/
theorem lwg_list (ws : List Cond) (ks : List Nat) (h : ws.map some = ks.map (fun k => tables_1[k]?)) (g : ws.all goodWord = true) : ∀ w ∈ ws, w ∈ lwg := by
  intro w hw
  have h1 : some w ∈ ks.map (fun k => tables_1[k]?) := by rw [← h]; exact List.mem_map.mpr ⟨w, hw, rfl⟩
  obtain ⟨k, -, hk⟩ := List.mem_map.mp h1
  exact lwg_of w k hk (List.all_eq_true.mp g w hw)
theorem lwg_1 (w : Cond) (k : Nat) (h : tables_1_1[k]? = some w) (g : goodWord w = true) : w ∈ lwg := List.mem_filter.mpr ⟨List.mem_append_right _ (show w ∈ tables_1_1 ++ (tables_1_2 ++ (tables_1_3 ++ (tables_1_4 ++ (tables_1_5 ++ tables_1_6)))) from List.mem_append_left _ (List.mem_of_getElem? h)), g⟩
theorem lwg_2 (w : Cond) (k : Nat) (h : tables_1_2[k]? = some w) (g : goodWord w = true) : w ∈ lwg := List.mem_filter.mpr ⟨List.mem_append_right _ (show w ∈ tables_1_1 ++ (tables_1_2 ++ (tables_1_3 ++ (tables_1_4 ++ (tables_1_5 ++ tables_1_6)))) from List.mem_append_right _ (List.mem_append_left _ (List.mem_of_getElem? h))), g⟩
theorem lwg_3 (w : Cond) (k : Nat) (h : tables_1_3[k]? = some w) (g : goodWord w = true) : w ∈ lwg := List.mem_filter.mpr ⟨List.mem_append_right _ (show w ∈ tables_1_1 ++ (tables_1_2 ++ (tables_1_3 ++ (tables_1_4 ++ (tables_1_5 ++ tables_1_6)))) from List.mem_append_right _ (List.mem_append_right _ (List.mem_append_left _ (List.mem_of_getElem? h)))), g⟩
theorem lwg_4 (w : Cond) (k : Nat) (h : tables_1_4[k]? = some w) (g : goodWord w = true) : w ∈ lwg := List.mem_filter.mpr ⟨List.mem_append_right _ (show w ∈ tables_1_1 ++ (tables_1_2 ++ (tables_1_3 ++ (tables_1_4 ++ (tables_1_5 ++ tables_1_6)))) from List.mem_append_right _ (List.mem_append_right _ (List.mem_append_right _ (List.mem_append_left _ (List.mem_of_getElem? h))))), g⟩
theorem lwg_5 (w : Cond) (k : Nat) (h : tables_1_5[k]? = some w) (g : goodWord w = true) : w ∈ lwg := List.mem_filter.mpr ⟨List.mem_append_right _ (show w ∈ tables_1_1 ++ (tables_1_2 ++ (tables_1_3 ++ (tables_1_4 ++ (tables_1_5 ++ tables_1_6)))) from List.mem_append_right _ (List.mem_append_right _ (List.mem_append_right _ (List.mem_append_right _ (List.mem_append_left _ (List.mem_of_getElem? h)))))), g⟩
theorem lwg_6 (w : Cond) (k : Nat) (h : tables_1_6[k]? = some w) (g : goodWord w = true) : w ∈ lwg := List.mem_filter.mpr ⟨List.mem_append_right _ (show w ∈ tables_1_1 ++ (tables_1_2 ++ (tables_1_3 ++ (tables_1_4 ++ (tables_1_5 ++ tables_1_6)))) from List.mem_append_right _ (List.mem_append_right _ (List.mem_append_right _ (List.mem_append_right _ (List.mem_append_right _ ((List.mem_of_getElem? h))))))), g⟩
theorem w_0 : (Jvm.Cond.initialized "ClassPoolsLaw") ∈ lwg := lwg_1 _ 0 (by decide +kernel) (by decide +kernel)
theorem w_1 : (Jvm.Cond.initialized "ClassPools") ∈ lwg := lwg_1 _ 1 (by decide +kernel) (by decide +kernel)
theorem w_2 : (Jvm.Cond.initialized "ClassPools$Row") ∈ lwg := lwg_1 _ 2 (by decide +kernel) (by decide +kernel)
theorem w_3 : (Jvm.Cond.initialized "ClassPools$Ranking") ∈ lwg := lwg_1 _ 3 (by decide +kernel) (by decide +kernel)
theorem w_4 : (Jvm.Cond.initialized "ClassPools$Pool") ∈ lwg := lwg_1 _ 4 (by decide +kernel) (by decide +kernel)
theorem w_5 : (Jvm.Cond.initialized "ClassPools$Writer") ∈ lwg := lwg_1 _ 5 (by decide +kernel) (by decide +kernel)
theorem w_6 : (Jvm.Cond.initialized "ClassPools$ClassFile") ∈ lwg := lwg_1 _ 6 (by decide +kernel) (by decide +kernel)
theorem w_7 : (Jvm.Cond.initialized "ClassPoolsModel") ∈ lwg := lwg_1 _ 7 (by decide +kernel) (by decide +kernel)
theorem w_8 : (Jvm.Cond.initialized "java/lang/System") ∈ lwg := lwg_1 _ 8 (by decide +kernel) (by decide +kernel)
theorem w_10 : (Jvm.Cond.initialized "ClassPools$Reader") ∈ lwg := lwg_1 _ 10 (by decide +kernel) (by decide +kernel)
theorem w_12 : (Jvm.Cond.initialized "ClassPoolsModel$HeldFile") ∈ lwg := lwg_1 _ 12 (by decide +kernel) (by decide +kernel)
theorem w_13 : (Jvm.Cond.initialized "ClassPoolsModel$Member") ∈ lwg := lwg_1 _ 13 (by decide +kernel) (by decide +kernel)
theorem w_14 : (Jvm.Cond.initialized "ClassPoolsModel$Attributes") ∈ lwg := lwg_1 _ 14 (by decide +kernel) (by decide +kernel)
theorem w_31 : (Jvm.Cond.initialized "ClassPoolsModel$Meaning") ∈ lwg := lwg_1 _ 31 (by decide +kernel) (by decide +kernel)
theorem w_32 : (Jvm.Cond.classLink "ClassPoolsLaw" (8 : Nat) "ClassPools") ∈ lwg := lwg_1 _ 32 (by decide +kernel) (by decide +kernel)
theorem w_33 : (Jvm.Cond.instantiable "ClassPools" (8 : Nat)) ∈ lwg := lwg_1 _ 33 (by decide +kernel) (by decide +kernel)
theorem w_34 : (Jvm.Cond.methodLink "ClassPoolsLaw" (21 : Nat) ({ cls := "ClassPools", name := "<init>", desc := "()V" } : Jvm.MethodName)) ∈ lwg := lwg_1 _ 34 (by decide +kernel) (by decide +kernel)
theorem w_35 : (Jvm.Cond.instanceMethod ({ cls := "ClassPools", name := "<init>", desc := "()V" } : Jvm.MethodName)) ∈ lwg := lwg_1 _ 35 (by decide +kernel) (by decide +kernel)
theorem w_37 : (Jvm.Cond.methodLink "ClassPools" (3 : Nat) ({ cls := "java/lang/Object", name := "<init>", desc := "()V" } : Jvm.MethodName)) ∈ lwg := lwg_1 _ 37 (by decide +kernel) (by decide +kernel)
theorem w_38 : (Jvm.Cond.instanceMethod ({ cls := "java/lang/Object", name := "<init>", desc := "()V" } : Jvm.MethodName)) ∈ lwg := lwg_1 _ 38 (by decide +kernel) (by decide +kernel)
theorem w_39 : (Jvm.Cond.code ({ cls := "java/lang/Object", name := "<init>", desc := "()V" } : Jvm.MethodName) object_method_1_code (1 : Nat) (Option.none : Option Jvm.ClassFile.FieldType)) ∈ lwg := lwg_1 _ 39 (by decide +kernel) (by decide +kernel)
theorem w_40 : (Jvm.Cond.classLink "ClassPools" (9 : Nat) "ClassPools$Row") ∈ lwg := lwg_1 _ 40 (by decide +kernel) (by decide +kernel)
theorem w_41 : (Jvm.Cond.instantiable "ClassPools$Row" (2 : Nat)) ∈ lwg := lwg_1 _ 41 (by decide +kernel) (by decide +kernel)
theorem w_43 : (Jvm.Cond.instanceMethod ({ cls := "ClassPools$Row", name := "<init>", desc := "()V" } : Jvm.MethodName)) ∈ lwg := lwg_1 _ 43 (by decide +kernel) (by decide +kernel)
theorem w_45 : (Jvm.Cond.methodLink "ClassPools$Row" (3 : Nat) ({ cls := "java/lang/Object", name := "<init>", desc := "()V" } : Jvm.MethodName)) ∈ lwg := lwg_1 _ 45 (by decide +kernel) (by decide +kernel)
theorem w_46 : (Jvm.Cond.fieldLink "ClassPools$Row" (9 : Nat) "ClassPools$Row" "bytes" "[B") ∈ lwg := lwg_1 _ 46 (by decide +kernel) (by decide +kernel)
theorem w_47 : (Jvm.Cond.fieldLink "ClassPools$Row" (15 : Nat) "ClassPools$Row" "size" "I") ∈ lwg := lwg_1 _ 47 (by decide +kernel) (by decide +kernel)
theorem w_53 : (Jvm.Cond.arrayClass Jvm.ClassFile.FieldType.byte) ∈ lwg := lwg_1 _ 53 (by decide +kernel) (by decide +kernel)
theorem w_54 : (Jvm.Cond.classLink "ClassPools" (19 : Nat) "ClassPools$ClassFile") ∈ lwg := lwg_1 _ 54 (by decide +kernel) (by decide +kernel)
theorem w_56 : (Jvm.Cond.classLink "ClassPools" (32 : Nat) "ClassPools$Ranking") ∈ lwg := lwg_1 _ 56 (by decide +kernel) (by decide +kernel)
theorem w_57 : (Jvm.Cond.instantiable "ClassPools$Ranking" (5 : Nat)) ∈ lwg := lwg_1 _ 57 (by decide +kernel) (by decide +kernel)
theorem w_58 : (Jvm.Cond.methodLink "ClassPools" (34 : Nat) ({ cls := "ClassPools$Ranking", name := "<init>", desc := "()V" } : Jvm.MethodName)) ∈ lwg := lwg_1 _ 58 (by decide +kernel) (by decide +kernel)
theorem w_59 : (Jvm.Cond.instanceMethod ({ cls := "ClassPools$Ranking", name := "<init>", desc := "()V" } : Jvm.MethodName)) ∈ lwg := lwg_1 _ 59 (by decide +kernel) (by decide +kernel)
theorem w_61 : (Jvm.Cond.methodLink "ClassPools$Ranking" (3 : Nat) ({ cls := "java/lang/Object", name := "<init>", desc := "()V" } : Jvm.MethodName)) ∈ lwg := lwg_1 _ 61 (by decide +kernel) (by decide +kernel)
theorem w_62 : (Jvm.Cond.classLink "ClassPools$Ranking" (9 : Nat) "ClassPools$Pool") ∈ lwg := lwg_1 _ 62 (by decide +kernel) (by decide +kernel)
theorem w_64 : (Jvm.Cond.instantiable "ClassPools$Pool" (3 : Nat)) ∈ lwg := lwg_1 _ 64 (by decide +kernel) (by decide +kernel)
theorem w_66 : (Jvm.Cond.instanceMethod ({ cls := "ClassPools$Pool", name := "<init>", desc := "()V" } : Jvm.MethodName)) ∈ lwg := lwg_1 _ 66 (by decide +kernel) (by decide +kernel)
theorem w_68 : (Jvm.Cond.methodLink "ClassPools$Pool" (3 : Nat) ({ cls := "java/lang/Object", name := "<init>", desc := "()V" } : Jvm.MethodName)) ∈ lwg := lwg_1 _ 68 (by decide +kernel) (by decide +kernel)
theorem w_69 : (Jvm.Cond.classLink "ClassPools$Pool" (9 : Nat) "ClassPools$Row") ∈ lwg := lwg_1 _ 69 (by decide +kernel) (by decide +kernel)
theorem w_71 : (Jvm.Cond.fieldLink "ClassPools$Pool" (12 : Nat) "ClassPools$Pool" "row" "LClassPools$Row;") ∈ lwg := lwg_1 _ 71 (by decide +kernel) (by decide +kernel)
theorem w_72 : (Jvm.Cond.fieldLink "ClassPools$ClassFile" (18 : Nat) "ClassPools$Pool" "row" "LClassPools$Row;") ∈ lwg := lwg_1 _ 72 (by decide +kernel) (by decide +kernel)
theorem w_73 : (Jvm.Cond.fieldLink "ClassPools$Writer" (74 : Nat) "ClassPools$Pool" "row" "LClassPools$Row;") ∈ lwg := lwg_1 _ 73 (by decide +kernel) (by decide +kernel)
theorem w_74 : (Jvm.Cond.fieldLink "ClassPools$Pool" (18 : Nat) "ClassPools$Pool" "starts" "[I") ∈ lwg := lwg_1 _ 74 (by decide +kernel) (by decide +kernel)
theorem w_75 : (Jvm.Cond.fieldLink "ClassPools$Pool" (22 : Nat) "ClassPools$Pool" "places" "I") ∈ lwg := lwg_1 _ 75 (by decide +kernel) (by decide +kernel)
theorem w_83 : (Jvm.Cond.arrayClass Jvm.ClassFile.FieldType.int) ∈ lwg := lwg_1 _ 83 (by decide +kernel) (by decide +kernel)
theorem w_84 : (Jvm.Cond.fieldLink "ClassPools$Ranking" (11 : Nat) "ClassPools$Ranking" "pools" "[LClassPools$Pool;") ∈ lwg := lwg_1 _ 84 (by decide +kernel) (by decide +kernel)
theorem w_85 : (Jvm.Cond.fieldLink "ClassPools$Ranking" (17 : Nat) "ClassPools$Ranking" "poolCount" "I") ∈ lwg := lwg_1 _ 85 (by decide +kernel) (by decide +kernel)
theorem w_86 : (Jvm.Cond.fieldLink "ClassPools$Ranking" (21 : Nat) "ClassPools$Ranking" "owners" "[I") ∈ lwg := lwg_1 _ 86 (by decide +kernel) (by decide +kernel)
theorem w_87 : (Jvm.Cond.fieldLink "ClassPools$Ranking" (25 : Nat) "ClassPools$Ranking" "places" "[I") ∈ lwg := lwg_1 _ 87 (by decide +kernel) (by decide +kernel)
theorem w_88 : (Jvm.Cond.fieldLink "ClassPools$Ranking" (28 : Nat) "ClassPools$Ranking" "size" "I") ∈ lwg := lwg_1 _ 88 (by decide +kernel) (by decide +kernel)
theorem w_100 : (Jvm.Cond.classLink "ClassPools" (42 : Nat) "ClassPools$Writer") ∈ lwg := lwg_1 _ 100 (by decide +kernel) (by decide +kernel)
theorem w_101 : (Jvm.Cond.instantiable "ClassPools$Writer" (2 : Nat)) ∈ lwg := lwg_1 _ 101 (by decide +kernel) (by decide +kernel)
theorem w_103 : (Jvm.Cond.instanceMethod ({ cls := "ClassPools$Writer", name := "<init>", desc := "()V" } : Jvm.MethodName)) ∈ lwg := lwg_1 _ 103 (by decide +kernel) (by decide +kernel)
theorem w_105 : (Jvm.Cond.methodLink "ClassPools$Writer" (3 : Nat) ({ cls := "java/lang/Object", name := "<init>", desc := "()V" } : Jvm.MethodName)) ∈ lwg := lwg_1 _ 105 (by decide +kernel) (by decide +kernel)
theorem w_106 : (Jvm.Cond.fieldLink "ClassPools$Writer" (9 : Nat) "ClassPools$Writer" "heads" "[I") ∈ lwg := lwg_1 _ 106 (by decide +kernel) (by decide +kernel)
theorem w_107 : (Jvm.Cond.fieldLink "ClassPools$Writer" (15 : Nat) "ClassPools$Writer" "moved" "[I") ∈ lwg := lwg_1 _ 107 (by decide +kernel) (by decide +kernel)
theorem w_113 : (Jvm.Cond.instantiable "ClassPools$ClassFile" (9 : Nat)) ∈ lwg := lwg_1 _ 113 (by decide +kernel) (by decide +kernel)
theorem w_115 : (Jvm.Cond.instanceMethod ({ cls := "ClassPools$ClassFile", name := "<init>", desc := "()V" } : Jvm.MethodName)) ∈ lwg := lwg_1 _ 115 (by decide +kernel) (by decide +kernel)
theorem w_117 : (Jvm.Cond.methodLink "ClassPools$ClassFile" (3 : Nat) ({ cls := "java/lang/Object", name := "<init>", desc := "()V" } : Jvm.MethodName)) ∈ lwg := lwg_1 _ 117 (by decide +kernel) (by decide +kernel)
theorem w_118 : (Jvm.Cond.classLink "ClassPools$ClassFile" (9 : Nat) "ClassPools$Pool") ∈ lwg := lwg_1 _ 118 (by decide +kernel) (by decide +kernel)
theorem w_120 : (Jvm.Cond.classLink "ClassPools$ClassFile" (30 : Nat) "[[I") ∈ lwg := lwg_1 _ 120 (by decide +kernel) (by decide +kernel)
theorem w_122 : (Jvm.Cond.fieldLink "ClassPools$ClassFile" (12 : Nat) "ClassPools$ClassFile" "pool" "LClassPools$Pool;") ∈ lwg := lwg_1 _ 122 (by decide +kernel) (by decide +kernel)
theorem w_123 : (Jvm.Cond.fieldLink "ClassPools$Writer" (32 : Nat) "ClassPools$ClassFile" "pool" "LClassPools$Pool;") ∈ lwg := lwg_1 _ 123 (by decide +kernel) (by decide +kernel)
theorem w_124 : (Jvm.Cond.fieldLink "ClassPools" (96 : Nat) "ClassPools$ClassFile" "pool" "LClassPools$Pool;") ∈ lwg := lwg_1 _ 124 (by decide +kernel) (by decide +kernel)
theorem w_125 : (Jvm.Cond.fieldLink "ClassPools$Reader" (88 : Nat) "ClassPools$ClassFile" "pool" "LClassPools$Pool;") ∈ lwg := lwg_1 _ 125 (by decide +kernel) (by decide +kernel)
theorem w_126 : (Jvm.Cond.fieldLink "ClassPools$ClassFile" (22 : Nat) "ClassPools$ClassFile" "row" "LClassPools$Row;") ∈ lwg := lwg_1 _ 126 (by decide +kernel) (by decide +kernel)
theorem w_127 : (Jvm.Cond.fieldLink "ClassPools$Reader" (25 : Nat) "ClassPools$ClassFile" "row" "LClassPools$Row;") ∈ lwg := lwg_1 _ 127 (by decide +kernel) (by decide +kernel)
theorem w_128 : (Jvm.Cond.fieldLink "ClassPools$Writer" (48 : Nat) "ClassPools$ClassFile" "row" "LClassPools$Row;") ∈ lwg := lwg_1 _ 128 (by decide +kernel) (by decide +kernel)
theorem w_129 : (Jvm.Cond.fieldLink "ClassPools" (89 : Nat) "ClassPools$ClassFile" "row" "LClassPools$Row;") ∈ lwg := lwg_1 _ 129 (by decide +kernel) (by decide +kernel)
theorem w_130 : (Jvm.Cond.fieldLink "ClassPools$ClassFile" (23 : Nat) "ClassPools$ClassFile" "behind" "I") ∈ lwg := lwg_1 _ 130 (by decide +kernel) (by decide +kernel)
theorem w_131 : (Jvm.Cond.fieldLink "ClassPools$Reader" (42 : Nat) "ClassPools$ClassFile" "behind" "I") ∈ lwg := lwg_1 _ 131 (by decide +kernel) (by decide +kernel)
theorem w_132 : (Jvm.Cond.fieldLink "ClassPools$Writer" (98 : Nat) "ClassPools$ClassFile" "behind" "I") ∈ lwg := lwg_1 _ 132 (by decide +kernel) (by decide +kernel)
theorem w_133 : (Jvm.Cond.fieldLink "ClassPools" (105 : Nat) "ClassPools$ClassFile" "behind" "I") ∈ lwg := lwg_1 _ 133 (by decide +kernel) (by decide +kernel)
theorem w_134 : (Jvm.Cond.fieldLink "ClassPools$ClassFile" (27 : Nat) "ClassPools$ClassFile" "attributesAt" "I") ∈ lwg := lwg_1 _ 134 (by decide +kernel) (by decide +kernel)
theorem w_135 : (Jvm.Cond.fieldLink "ClassPools$Reader" (58 : Nat) "ClassPools$ClassFile" "attributesAt" "I") ∈ lwg := lwg_1 _ 135 (by decide +kernel) (by decide +kernel)
theorem w_136 : (Jvm.Cond.fieldLink "ClassPools" (114 : Nat) "ClassPools$ClassFile" "attributesAt" "I") ∈ lwg := lwg_1 _ 136 (by decide +kernel) (by decide +kernel)
theorem w_137 : (Jvm.Cond.fieldLink "ClassPools$ClassFile" (32 : Nat) "ClassPools$ClassFile" "memberStarts" "[[I") ∈ lwg := lwg_1 _ 137 (by decide +kernel) (by decide +kernel)
theorem w_138 : (Jvm.Cond.fieldLink "ClassPools$ClassFile" (35 : Nat) "ClassPools$ClassFile" "memberCounts" "[I") ∈ lwg := lwg_1 _ 138 (by decide +kernel) (by decide +kernel)
theorem w_139 : (Jvm.Cond.fieldLink "ClassPools$ClassFile" (39 : Nat) "ClassPools$ClassFile" "tells" "[I") ∈ lwg := lwg_1 _ 139 (by decide +kernel) (by decide +kernel)
theorem w_140 : (Jvm.Cond.fieldLink "ClassPools$ClassFile" (42 : Nat) "ClassPools$ClassFile" "wants" "[I") ∈ lwg := lwg_1 _ 140 (by decide +kernel) (by decide +kernel)
theorem w_141 : (Jvm.Cond.fieldLink "ClassPools$ClassFile" (45 : Nat) "ClassPools$ClassFile" "tellCount" "I") ∈ lwg := lwg_1 _ 141 (by decide +kernel) (by decide +kernel)
theorem w_161 : (Jvm.Cond.fieldLink "ClassPools" (12 : Nat) "ClassPools" "tape" "LClassPools$Row;") ∈ lwg := lwg_1 _ 161 (by decide +kernel) (by decide +kernel)
theorem w_162 : (Jvm.Cond.fieldLink "ClassPools" (16 : Nat) "ClassPools" "shown" "LClassPools$Row;") ∈ lwg := lwg_1 _ 162 (by decide +kernel) (by decide +kernel)
theorem w_163 : (Jvm.Cond.fieldLink "ClassPools" (21 : Nat) "ClassPools" "files" "[LClassPools$ClassFile;") ∈ lwg := lwg_1 _ 163 (by decide +kernel) (by decide +kernel)
theorem w_164 : (Jvm.Cond.fieldLink "ClassPools" (25 : Nat) "ClassPools" "count" "I") ∈ lwg := lwg_1 _ 164 (by decide +kernel) (by decide +kernel)
theorem w_165 : (Jvm.Cond.fieldLink "ClassPools" (29 : Nat) "ClassPools" "faultPlace" "I") ∈ lwg := lwg_1 _ 165 (by decide +kernel) (by decide +kernel)
theorem w_166 : (Jvm.Cond.fieldLink "ClassPools" (35 : Nat) "ClassPools" "reckoned" "LClassPools$Ranking;") ∈ lwg := lwg_1 _ 166 (by decide +kernel) (by decide +kernel)
theorem w_167 : (Jvm.Cond.fieldLink "ClassPools" (39 : Nat) "ClassPools" "trial" "LClassPools$Ranking;") ∈ lwg := lwg_1 _ 167 (by decide +kernel) (by decide +kernel)
theorem w_168 : (Jvm.Cond.fieldLink "ClassPools" (45 : Nat) "ClassPools" "writer" "LClassPools$Writer;") ∈ lwg := lwg_1 _ 168 (by decide +kernel) (by decide +kernel)
theorem w_186 : (Jvm.Cond.methodLink "ClassPoolsLaw" (27 : Nat) ({ cls := "ClassPools", name := "feed", desc := "(JI)I" } : Jvm.MethodName)) ∈ lwg := lwg_1 _ 186 (by decide +kernel) (by decide +kernel)
theorem w_187 : (Jvm.Cond.instanceMethod ({ cls := "ClassPools", name := "feed", desc := "(JI)I" } : Jvm.MethodName)) ∈ lwg := lwg_1 _ 187 (by decide +kernel) (by decide +kernel)
theorem w_188 : (Jvm.Cond.selects "ClassPools" ({ cls := "ClassPools", name := "feed", desc := "(JI)I" } : Jvm.MethodName) ({ cls := "ClassPools", name := "feed", desc := "(JI)I" } : Jvm.MethodName)) ∈ lwg := lwg_1 _ 188 (by decide +kernel) (by decide +kernel)
theorem w_190 : (Jvm.Cond.methodLink "ClassPools" (50 : Nat) ({ cls := "ClassPools$Row", name := "size", desc := "()I" } : Jvm.MethodName)) ∈ lwg := lwg_1 _ 190 (by decide +kernel) (by decide +kernel)
theorem w_191 : (Jvm.Cond.instanceMethod ({ cls := "ClassPools$Row", name := "size", desc := "()I" } : Jvm.MethodName)) ∈ lwg := lwg_1 _ 191 (by decide +kernel) (by decide +kernel)
theorem w_192 : (Jvm.Cond.selects "ClassPools$Row" ({ cls := "ClassPools$Row", name := "size", desc := "()I" } : Jvm.MethodName) ({ cls := "ClassPools$Row", name := "size", desc := "()I" } : Jvm.MethodName)) ∈ lwg := lwg_1 _ 192 (by decide +kernel) (by decide +kernel)
theorem w_194 : (Jvm.Cond.methodLink "ClassPools" (54 : Nat) ({ cls := "ClassPools$Row", name := "push", desc := "(I)V" } : Jvm.MethodName)) ∈ lwg := lwg_1 _ 194 (by decide +kernel) (by decide +kernel)
theorem w_195 : (Jvm.Cond.instanceMethod ({ cls := "ClassPools$Row", name := "push", desc := "(I)V" } : Jvm.MethodName)) ∈ lwg := lwg_1 _ 195 (by decide +kernel) (by decide +kernel)
theorem w_196 : (Jvm.Cond.selects "ClassPools$Row" ({ cls := "ClassPools$Row", name := "push", desc := "(I)V" } : Jvm.MethodName) ({ cls := "ClassPools$Row", name := "push", desc := "(I)V" } : Jvm.MethodName)) ∈ lwg := lwg_1 _ 196 (by decide +kernel) (by decide +kernel)
theorem w_198 : (Jvm.Cond.methodLink "ClassPoolsLaw" (32 : Nat) ({ cls := "ClassPools", name := "read", desc := "()I" } : Jvm.MethodName)) ∈ lwg := lwg_1 _ 198 (by decide +kernel) (by decide +kernel)
theorem w_199 : (Jvm.Cond.instanceMethod ({ cls := "ClassPools", name := "read", desc := "()I" } : Jvm.MethodName)) ∈ lwg := lwg_1 _ 199 (by decide +kernel) (by decide +kernel)
theorem w_200 : (Jvm.Cond.selects "ClassPools" ({ cls := "ClassPools", name := "read", desc := "()I" } : Jvm.MethodName) ({ cls := "ClassPools", name := "read", desc := "()I" } : Jvm.MethodName)) ∈ lwg := lwg_1 _ 200 (by decide +kernel) (by decide +kernel)
theorem w_202 : (Jvm.Cond.methodLink "ClassPools" (58 : Nat) ({ cls := "ClassPools$ClassFile", name := "begin", desc := "(LClassPools$Row;)V" } : Jvm.MethodName)) ∈ lwg := lwg_1 _ 202 (by decide +kernel) (by decide +kernel)
theorem w_203 : (Jvm.Cond.instanceMethod ({ cls := "ClassPools$ClassFile", name := "begin", desc := "(LClassPools$Row;)V" } : Jvm.MethodName)) ∈ lwg := lwg_1 _ 203 (by decide +kernel) (by decide +kernel)
theorem w_204 : (Jvm.Cond.selects "ClassPools$ClassFile" ({ cls := "ClassPools$ClassFile", name := "begin", desc := "(LClassPools$Row;)V" } : Jvm.MethodName) ({ cls := "ClassPools$ClassFile", name := "begin", desc := "(LClassPools$Row;)V" } : Jvm.MethodName)) ∈ lwg := lwg_1 _ 204 (by decide +kernel) (by decide +kernel)
theorem w_206 : (Jvm.Cond.methodLink "ClassPools$ClassFile" (48 : Nat) ({ cls := "ClassPools$Row", name := "size", desc := "()I" } : Jvm.MethodName)) ∈ lwg := lwg_1 _ 206 (by decide +kernel) (by decide +kernel)
theorem w_207 : (Jvm.Cond.methodLink "ClassPools$ClassFile" (54 : Nat) ({ cls := "ClassPools$Row", name := "take", desc := "(LClassPools$Row;II)I" } : Jvm.MethodName)) ∈ lwg := lwg_1 _ 207 (by decide +kernel) (by decide +kernel)
theorem w_208 : (Jvm.Cond.instanceMethod ({ cls := "ClassPools$Row", name := "take", desc := "(LClassPools$Row;II)I" } : Jvm.MethodName)) ∈ lwg := lwg_1 _ 208 (by decide +kernel) (by decide +kernel)
theorem w_209 : (Jvm.Cond.selects "ClassPools$Row" ({ cls := "ClassPools$Row", name := "take", desc := "(LClassPools$Row;II)I" } : Jvm.MethodName) ({ cls := "ClassPools$Row", name := "take", desc := "(LClassPools$Row;II)I" } : Jvm.MethodName)) ∈ lwg := lwg_1 _ 209 (by decide +kernel) (by decide +kernel)
theorem w_211 : (Jvm.Cond.methodLink "ClassPools$Row" (37 : Nat) ({ cls := "ClassPools$Row", name := "clear", desc := "()V" } : Jvm.MethodName)) ∈ lwg := lwg_1 _ 211 (by decide +kernel) (by decide +kernel)
theorem w_212 : (Jvm.Cond.instanceMethod ({ cls := "ClassPools$Row", name := "clear", desc := "()V" } : Jvm.MethodName)) ∈ lwg := lwg_1 _ 212 (by decide +kernel) (by decide +kernel)
theorem w_213 : (Jvm.Cond.selects "ClassPools$Row" ({ cls := "ClassPools$Row", name := "clear", desc := "()V" } : Jvm.MethodName) ({ cls := "ClassPools$Row", name := "clear", desc := "()V" } : Jvm.MethodName)) ∈ lwg := lwg_1 _ 213 (by decide +kernel) (by decide +kernel)
theorem w_215 : (Jvm.Cond.methodLink "ClassPools$Row" (40 : Nat) ({ cls := "ClassPools$Row", name := "append", desc := "(LClassPools$Row;II)V" } : Jvm.MethodName)) ∈ lwg := lwg_1 _ 215 (by decide +kernel) (by decide +kernel)
theorem w_216 : (Jvm.Cond.instanceMethod ({ cls := "ClassPools$Row", name := "append", desc := "(LClassPools$Row;II)V" } : Jvm.MethodName)) ∈ lwg := lwg_1 _ 216 (by decide +kernel) (by decide +kernel)
theorem w_217 : (Jvm.Cond.selects "ClassPools$Row" ({ cls := "ClassPools$Row", name := "append", desc := "(LClassPools$Row;II)V" } : Jvm.MethodName) ({ cls := "ClassPools$Row", name := "append", desc := "(LClassPools$Row;II)V" } : Jvm.MethodName)) ∈ lwg := lwg_1 _ 217 (by decide +kernel) (by decide +kernel)
theorem w_219 : (Jvm.Cond.methodLink "ClassPools$Row" (27 : Nat) ({ cls := "ClassPools$Row", name := "has", desc := "(II)Z" } : Jvm.MethodName)) ∈ lwg := lwg_1 _ 219 (by decide +kernel) (by decide +kernel)
theorem w_220 : (Jvm.Cond.instanceMethod ({ cls := "ClassPools$Row", name := "has", desc := "(II)Z" } : Jvm.MethodName)) ∈ lwg := lwg_1 _ 220 (by decide +kernel) (by decide +kernel)
theorem w_221 : (Jvm.Cond.selects "ClassPools$Row" ({ cls := "ClassPools$Row", name := "has", desc := "(II)Z" } : Jvm.MethodName) ({ cls := "ClassPools$Row", name := "has", desc := "(II)Z" } : Jvm.MethodName)) ∈ lwg := lwg_1 _ 221 (by decide +kernel) (by decide +kernel)
theorem w_223 : (Jvm.Cond.methodLink "ClassPools$Row" (31 : Nat) ({ cls := "java/lang/System", name := "arraycopy", desc := "(Ljava/lang/Object;ILjava/lang/Object;II)V" } : Jvm.MethodName)) ∈ lwg := lwg_1 _ 223 (by decide +kernel) (by decide +kernel)
theorem w_224 : (Jvm.Cond.static ({ cls := "java/lang/System", name := "arraycopy", desc := "(Ljava/lang/Object;ILjava/lang/Object;II)V" } : Jvm.MethodName)) ∈ lwg := lwg_1 _ 224 (by decide +kernel) (by decide +kernel)
theorem w_225 : (Jvm.Cond.native ({ cls := "java/lang/System", name := "arraycopy", desc := "(Ljava/lang/Object;ILjava/lang/Object;II)V" } : Jvm.MethodName)) ∈ lwg := lwg_1 _ 225 (by decide +kernel) (by decide +kernel)
theorem w_226 : (Jvm.Cond.methodLink "ClassPools$ClassFile" (58 : Nat) ({ cls := "ClassPools$Pool", name := "begin", desc := "(I)V" } : Jvm.MethodName)) ∈ lwg := lwg_1 _ 226 (by decide +kernel) (by decide +kernel)
theorem w_227 : (Jvm.Cond.instanceMethod ({ cls := "ClassPools$Pool", name := "begin", desc := "(I)V" } : Jvm.MethodName)) ∈ lwg := lwg_1 _ 227 (by decide +kernel) (by decide +kernel)
theorem w_228 : (Jvm.Cond.selects "ClassPools$Pool" ({ cls := "ClassPools$Pool", name := "begin", desc := "(I)V" } : Jvm.MethodName) ({ cls := "ClassPools$Pool", name := "begin", desc := "(I)V" } : Jvm.MethodName)) ∈ lwg := lwg_1 _ 228 (by decide +kernel) (by decide +kernel)
theorem w_230 : (Jvm.Cond.methodLink "ClassPools$Pool" (26 : Nat) ({ cls := "java/util/Arrays", name := "fill", desc := "([II)V" } : Jvm.MethodName)) ∈ lwg := lwg_1 _ 230 (by decide +kernel) (by decide +kernel)
theorem w_231 : (Jvm.Cond.static ({ cls := "java/util/Arrays", name := "fill", desc := "([II)V" } : Jvm.MethodName)) ∈ lwg := lwg_1 _ 231 (by decide +kernel) (by decide +kernel)
theorem w_233 : (Jvm.Cond.methodLink "ClassPools$ClassFile" (62 : Nat) ({ cls := "java/util/Arrays", name := "fill", desc := "([II)V" } : Jvm.MethodName)) ∈ lwg := lwg_1 _ 233 (by decide +kernel) (by decide +kernel)
theorem w_234 : (Jvm.Cond.methodLink "ClassPools" (62 : Nat) ({ cls := "ClassPools$Row", name := "clear", desc := "()V" } : Jvm.MethodName)) ∈ lwg := lwg_1 _ 234 (by decide +kernel) (by decide +kernel)
theorem w_235 : (Jvm.Cond.classLink "ClassPools" (65 : Nat) "ClassPools$Reader") ∈ lwg := lwg_1 _ 235 (by decide +kernel) (by decide +kernel)
theorem w_236 : (Jvm.Cond.instantiable "ClassPools$Reader" (5 : Nat)) ∈ lwg := lwg_1 _ 236 (by decide +kernel) (by decide +kernel)
theorem w_237 : (Jvm.Cond.methodLink "ClassPools" (67 : Nat) ({ cls := "ClassPools$Reader", name := "<init>", desc := "(LClassPools$ClassFile;)V" } : Jvm.MethodName)) ∈ lwg := lwg_1 _ 237 (by decide +kernel) (by decide +kernel)
theorem w_238 : (Jvm.Cond.instanceMethod ({ cls := "ClassPools$Reader", name := "<init>", desc := "(LClassPools$ClassFile;)V" } : Jvm.MethodName)) ∈ lwg := lwg_1 _ 238 (by decide +kernel) (by decide +kernel)
theorem w_240 : (Jvm.Cond.methodLink "ClassPools$Reader" (3 : Nat) ({ cls := "java/lang/Object", name := "<init>", desc := "()V" } : Jvm.MethodName)) ∈ lwg := lwg_2 _ 0 (by decide +kernel) (by decide +kernel)
theorem w_241 : (Jvm.Cond.fieldLink "ClassPools$Reader" (9 : Nat) "ClassPools$Reader" "fault" "I") ∈ lwg := lwg_2 _ 1 (by decide +kernel) (by decide +kernel)
theorem w_242 : (Jvm.Cond.fieldLink "ClassPools" (82 : Nat) "ClassPools$Reader" "fault" "I") ∈ lwg := lwg_2 _ 2 (by decide +kernel) (by decide +kernel)
theorem w_243 : (Jvm.Cond.fieldLink "ClassPools$Reader" (15 : Nat) "ClassPools$Reader" "where" "I") ∈ lwg := lwg_2 _ 3 (by decide +kernel) (by decide +kernel)
theorem w_244 : (Jvm.Cond.fieldLink "ClassPools" (79 : Nat) "ClassPools$Reader" "where" "I") ∈ lwg := lwg_2 _ 4 (by decide +kernel) (by decide +kernel)
theorem w_245 : (Jvm.Cond.fieldLink "ClassPools$Reader" (21 : Nat) "ClassPools$Reader" "file" "LClassPools$ClassFile;") ∈ lwg := lwg_2 _ 5 (by decide +kernel) (by decide +kernel)
theorem w_246 : (Jvm.Cond.fieldLink "ClassPools$Reader" (31 : Nat) "ClassPools$Reader" "row" "LClassPools$Row;") ∈ lwg := lwg_2 _ 6 (by decide +kernel) (by decide +kernel)
theorem w_247 : (Jvm.Cond.fieldLink "ClassPools$Reader" (18 : Nat) "ClassPools$Reader" "at" "I") ∈ lwg := lwg_2 _ 7 (by decide +kernel) (by decide +kernel)
theorem w_259 : (Jvm.Cond.methodLink "ClassPools" (70 : Nat) ({ cls := "ClassPools$Reader", name := "scan", desc := "()V" } : Jvm.MethodName)) ∈ lwg := lwg_2 _ 19 (by decide +kernel) (by decide +kernel)
theorem w_260 : (Jvm.Cond.instanceMethod ({ cls := "ClassPools$Reader", name := "scan", desc := "()V" } : Jvm.MethodName)) ∈ lwg := lwg_2 _ 20 (by decide +kernel) (by decide +kernel)
theorem w_261 : (Jvm.Cond.selects "ClassPools$Reader" ({ cls := "ClassPools$Reader", name := "scan", desc := "()V" } : Jvm.MethodName) ({ cls := "ClassPools$Reader", name := "scan", desc := "()V" } : Jvm.MethodName)) ∈ lwg := lwg_2 _ 21 (by decide +kernel) (by decide +kernel)
theorem w_263 : (Jvm.Cond.methodLink "ClassPools$Reader" (32 : Nat) ({ cls := "ClassPools$Reader", name := "magic", desc := "()V" } : Jvm.MethodName)) ∈ lwg := lwg_2 _ 23 (by decide +kernel) (by decide +kernel)
theorem w_265 : (Jvm.Cond.instanceMethod ({ cls := "ClassPools$Reader", name := "magic", desc := "()V" } : Jvm.MethodName)) ∈ lwg := lwg_2 _ 25 (by decide +kernel) (by decide +kernel)
theorem w_267 : (Jvm.Cond.methodLink "ClassPools$Reader" (35 : Nat) ({ cls := "ClassPools$Reader", name := "skip", desc := "(I)V" } : Jvm.MethodName)) ∈ lwg := lwg_2 _ 27 (by decide +kernel) (by decide +kernel)
theorem w_269 : (Jvm.Cond.instanceMethod ({ cls := "ClassPools$Reader", name := "skip", desc := "(I)V" } : Jvm.MethodName)) ∈ lwg := lwg_2 _ 29 (by decide +kernel) (by decide +kernel)
theorem w_271 : (Jvm.Cond.methodLink "ClassPools$Reader" (74 : Nat) ({ cls := "ClassPools$Row", name := "has", desc := "(II)Z" } : Jvm.MethodName)) ∈ lwg := lwg_2 _ 31 (by decide +kernel) (by decide +kernel)
theorem w_272 : (Jvm.Cond.methodLink "ClassPools$Reader" (64 : Nat) ({ cls := "ClassPools$Row", name := "size", desc := "()I" } : Jvm.MethodName)) ∈ lwg := lwg_2 _ 32 (by decide +kernel) (by decide +kernel)
theorem w_273 : (Jvm.Cond.methodLink "ClassPools$Reader" (70 : Nat) ({ cls := "ClassPools$Reader", name := "fail", desc := "(II)V" } : Jvm.MethodName)) ∈ lwg := lwg_2 _ 33 (by decide +kernel) (by decide +kernel)
theorem w_275 : (Jvm.Cond.instanceMethod ({ cls := "ClassPools$Reader", name := "fail", desc := "(II)V" } : Jvm.MethodName)) ∈ lwg := lwg_2 _ 35 (by decide +kernel) (by decide +kernel)
theorem w_277 : (Jvm.Cond.methodLink "ClassPools$Reader" (84 : Nat) ({ cls := "ClassPools$Row", name := "one", desc := "(I)I" } : Jvm.MethodName)) ∈ lwg := lwg_2 _ 37 (by decide +kernel) (by decide +kernel)
theorem w_278 : (Jvm.Cond.instanceMethod ({ cls := "ClassPools$Row", name := "one", desc := "(I)I" } : Jvm.MethodName)) ∈ lwg := lwg_2 _ 38 (by decide +kernel) (by decide +kernel)
theorem w_279 : (Jvm.Cond.selects "ClassPools$Row" ({ cls := "ClassPools$Row", name := "one", desc := "(I)I" } : Jvm.MethodName) ({ cls := "ClassPools$Row", name := "one", desc := "(I)I" } : Jvm.MethodName)) ∈ lwg := lwg_2 _ 39 (by decide +kernel) (by decide +kernel)
theorem w_281 : (Jvm.Cond.constant "ClassPools$Reader" (87 : Nat) (-889275714 : Int32)) ∈ lwg := lwg_2 _ 41 (by decide +kernel) (by decide +kernel)
theorem w_282 : (Jvm.Cond.methodLink "ClassPools$Reader" (39 : Nat) ({ cls := "ClassPools$Reader", name := "entries", desc := "()V" } : Jvm.MethodName)) ∈ lwg := lwg_2 _ 42 (by decide +kernel) (by decide +kernel)
theorem w_284 : (Jvm.Cond.instanceMethod ({ cls := "ClassPools$Reader", name := "entries", desc := "()V" } : Jvm.MethodName)) ∈ lwg := lwg_2 _ 44 (by decide +kernel) (by decide +kernel)
theorem w_286 : (Jvm.Cond.methodLink "ClassPools$Reader" (51 : Nat) ({ cls := "ClassPools$Reader", name := "many", desc := "(I)I" } : Jvm.MethodName)) ∈ lwg := lwg_2 _ 46 (by decide +kernel) (by decide +kernel)
theorem w_288 : (Jvm.Cond.instanceMethod ({ cls := "ClassPools$Reader", name := "many", desc := "(I)I" } : Jvm.MethodName)) ∈ lwg := lwg_2 _ 48 (by decide +kernel) (by decide +kernel)
theorem w_290 : (Jvm.Cond.methodLink "ClassPools$Reader" (81 : Nat) ({ cls := "ClassPools$Row", name := "two", desc := "(I)I" } : Jvm.MethodName)) ∈ lwg := lwg_2 _ 50 (by decide +kernel) (by decide +kernel)
theorem w_291 : (Jvm.Cond.instanceMethod ({ cls := "ClassPools$Row", name := "two", desc := "(I)I" } : Jvm.MethodName)) ∈ lwg := lwg_2 _ 51 (by decide +kernel) (by decide +kernel)
theorem w_292 : (Jvm.Cond.selects "ClassPools$Row" ({ cls := "ClassPools$Row", name := "two", desc := "(I)I" } : Jvm.MethodName) ({ cls := "ClassPools$Row", name := "two", desc := "(I)I" } : Jvm.MethodName)) ∈ lwg := lwg_2 _ 52 (by decide +kernel) (by decide +kernel)
theorem w_294 : (Jvm.Cond.methodLink "ClassPools$Reader" (92 : Nat) ({ cls := "ClassPools$Pool", name := "begin", desc := "(I)V" } : Jvm.MethodName)) ∈ lwg := lwg_2 _ 54 (by decide +kernel) (by decide +kernel)
theorem w_295 : (Jvm.Cond.methodLink "ClassPools$Reader" (97 : Nat) ({ cls := "ClassPools$Pool", name := "set", desc := "(II)V" } : Jvm.MethodName)) ∈ lwg := lwg_2 _ 55 (by decide +kernel) (by decide +kernel)
theorem w_296 : (Jvm.Cond.instanceMethod ({ cls := "ClassPools$Pool", name := "set", desc := "(II)V" } : Jvm.MethodName)) ∈ lwg := lwg_2 _ 56 (by decide +kernel) (by decide +kernel)
theorem w_297 : (Jvm.Cond.selects "ClassPools$Pool" ({ cls := "ClassPools$Pool", name := "set", desc := "(II)V" } : Jvm.MethodName) ({ cls := "ClassPools$Pool", name := "set", desc := "(II)V" } : Jvm.MethodName)) ∈ lwg := lwg_2 _ 57 (by decide +kernel) (by decide +kernel)
theorem w_299 : (Jvm.Cond.methodLink "ClassPools$Pool" (32 : Nat) ({ cls := "ClassPools$Pool", name := "has", desc := "(I)Z" } : Jvm.MethodName)) ∈ lwg := lwg_2 _ 59 (by decide +kernel) (by decide +kernel)
theorem w_300 : (Jvm.Cond.instanceMethod ({ cls := "ClassPools$Pool", name := "has", desc := "(I)Z" } : Jvm.MethodName)) ∈ lwg := lwg_2 _ 60 (by decide +kernel) (by decide +kernel)
theorem w_301 : (Jvm.Cond.selects "ClassPools$Pool" ({ cls := "ClassPools$Pool", name := "has", desc := "(I)Z" } : Jvm.MethodName) ({ cls := "ClassPools$Pool", name := "has", desc := "(I)Z" } : Jvm.MethodName)) ∈ lwg := lwg_2 _ 61 (by decide +kernel) (by decide +kernel)
theorem w_303 : (Jvm.Cond.methodLink "ClassPools$Reader" (100 : Nat) ({ cls := "ClassPools$Reader", name := "anEntry", desc := "(Z)V" } : Jvm.MethodName)) ∈ lwg := lwg_2 _ 63 (by decide +kernel) (by decide +kernel)
theorem w_305 : (Jvm.Cond.instanceMethod ({ cls := "ClassPools$Reader", name := "anEntry", desc := "(Z)V" } : Jvm.MethodName)) ∈ lwg := lwg_2 _ 65 (by decide +kernel) (by decide +kernel)
theorem w_308 : (Jvm.Cond.static ({ cls := "ClassPools", name := "isTag", desc := "(I)Z" } : Jvm.MethodName)) ∈ lwg := lwg_2 _ 68 (by decide +kernel) (by decide +kernel)
theorem w_311 : (Jvm.Cond.static ({ cls := "ClassPools", name := "isWide", desc := "(I)Z" } : Jvm.MethodName)) ∈ lwg := lwg_2 _ 71 (by decide +kernel) (by decide +kernel)
theorem w_313 : (Jvm.Cond.methodLink "ClassPools$Reader" (111 : Nat) ({ cls := "ClassPools$Reader", name := "two", desc := "()I" } : Jvm.MethodName)) ∈ lwg := lwg_2 _ 73 (by decide +kernel) (by decide +kernel)
theorem w_315 : (Jvm.Cond.instanceMethod ({ cls := "ClassPools$Reader", name := "two", desc := "()I" } : Jvm.MethodName)) ∈ lwg := lwg_2 _ 75 (by decide +kernel) (by decide +kernel)
theorem w_318 : (Jvm.Cond.static ({ cls := "ClassPools", name := "isNumber", desc := "(I)Z" } : Jvm.MethodName)) ∈ lwg := lwg_2 _ 78 (by decide +kernel) (by decide +kernel)
theorem w_320 : (Jvm.Cond.methodLink "ClassPools$Reader" (45 : Nat) ({ cls := "ClassPools$Reader", name := "tell", desc := "(I)V" } : Jvm.MethodName)) ∈ lwg := lwg_2 _ 80 (by decide +kernel) (by decide +kernel)
theorem w_322 : (Jvm.Cond.instanceMethod ({ cls := "ClassPools$Reader", name := "tell", desc := "(I)V" } : Jvm.MethodName)) ∈ lwg := lwg_2 _ 82 (by decide +kernel) (by decide +kernel)
theorem w_324 : (Jvm.Cond.methodLink "ClassPools$Reader" (78 : Nat) ({ cls := "ClassPools$ClassFile", name := "addTell", desc := "(II)V" } : Jvm.MethodName)) ∈ lwg := lwg_2 _ 84 (by decide +kernel) (by decide +kernel)
theorem w_325 : (Jvm.Cond.instanceMethod ({ cls := "ClassPools$ClassFile", name := "addTell", desc := "(II)V" } : Jvm.MethodName)) ∈ lwg := lwg_2 _ 85 (by decide +kernel) (by decide +kernel)
theorem w_326 : (Jvm.Cond.selects "ClassPools$ClassFile" ({ cls := "ClassPools$ClassFile", name := "addTell", desc := "(II)V" } : Jvm.MethodName) ({ cls := "ClassPools$ClassFile", name := "addTell", desc := "(II)V" } : Jvm.MethodName)) ∈ lwg := lwg_2 _ 86 (by decide +kernel) (by decide +kernel)
theorem w_328 : (Jvm.Cond.methodLink "ClassPools$Reader" (48 : Nat) ({ cls := "ClassPools$Reader", name := "classAbove", desc := "()V" } : Jvm.MethodName)) ∈ lwg := lwg_2 _ 88 (by decide +kernel) (by decide +kernel)
theorem w_330 : (Jvm.Cond.instanceMethod ({ cls := "ClassPools$Reader", name := "classAbove", desc := "()V" } : Jvm.MethodName)) ∈ lwg := lwg_2 _ 90 (by decide +kernel) (by decide +kernel)
theorem w_332 : (Jvm.Cond.methodLink "ClassPools$Reader" (55 : Nat) ({ cls := "ClassPools$Reader", name := "members", desc := "(I)V" } : Jvm.MethodName)) ∈ lwg := lwg_2 _ 92 (by decide +kernel) (by decide +kernel)
theorem w_334 : (Jvm.Cond.instanceMethod ({ cls := "ClassPools$Reader", name := "members", desc := "(I)V" } : Jvm.MethodName)) ∈ lwg := lwg_2 _ 94 (by decide +kernel) (by decide +kernel)
theorem w_336 : (Jvm.Cond.methodLink "ClassPools$Reader" (116 : Nat) ({ cls := "ClassPools$ClassFile", name := "addMember", desc := "(II)V" } : Jvm.MethodName)) ∈ lwg := lwg_2 _ 96 (by decide +kernel) (by decide +kernel)
theorem w_337 : (Jvm.Cond.instanceMethod ({ cls := "ClassPools$ClassFile", name := "addMember", desc := "(II)V" } : Jvm.MethodName)) ∈ lwg := lwg_2 _ 97 (by decide +kernel) (by decide +kernel)
theorem w_338 : (Jvm.Cond.selects "ClassPools$ClassFile" ({ cls := "ClassPools$ClassFile", name := "addMember", desc := "(II)V" } : Jvm.MethodName) ({ cls := "ClassPools$ClassFile", name := "addMember", desc := "(II)V" } : Jvm.MethodName)) ∈ lwg := lwg_2 _ 98 (by decide +kernel) (by decide +kernel)
theorem w_340 : (Jvm.Cond.methodLink "ClassPools$ClassFile" (72 : Nat) ({ cls := "ClassPools$ClassFile", name := "members", desc := "(I)I" } : Jvm.MethodName)) ∈ lwg := lwg_2 _ 100 (by decide +kernel) (by decide +kernel)
theorem w_341 : (Jvm.Cond.instanceMethod ({ cls := "ClassPools$ClassFile", name := "members", desc := "(I)I" } : Jvm.MethodName)) ∈ lwg := lwg_2 _ 101 (by decide +kernel) (by decide +kernel)
theorem w_342 : (Jvm.Cond.selects "ClassPools$ClassFile" ({ cls := "ClassPools$ClassFile", name := "members", desc := "(I)I" } : Jvm.MethodName) ({ cls := "ClassPools$ClassFile", name := "members", desc := "(I)I" } : Jvm.MethodName)) ∈ lwg := lwg_2 _ 102 (by decide +kernel) (by decide +kernel)
theorem w_344 : (Jvm.Cond.methodLink "ClassPools$Reader" (61 : Nat) ({ cls := "ClassPools$Reader", name := "attributes", desc := "()V" } : Jvm.MethodName)) ∈ lwg := lwg_2 _ 104 (by decide +kernel) (by decide +kernel)
theorem w_346 : (Jvm.Cond.instanceMethod ({ cls := "ClassPools$Reader", name := "attributes", desc := "()V" } : Jvm.MethodName)) ∈ lwg := lwg_2 _ 106 (by decide +kernel) (by decide +kernel)
theorem w_348 : (Jvm.Cond.methodLink "ClassPools$Reader" (119 : Nat) ({ cls := "ClassPools$Row", name := "four", desc := "(I)I" } : Jvm.MethodName)) ∈ lwg := lwg_2 _ 108 (by decide +kernel) (by decide +kernel)
theorem w_349 : (Jvm.Cond.instanceMethod ({ cls := "ClassPools$Row", name := "four", desc := "(I)I" } : Jvm.MethodName)) ∈ lwg := lwg_2 _ 109 (by decide +kernel) (by decide +kernel)
theorem w_350 : (Jvm.Cond.selects "ClassPools$Row" ({ cls := "ClassPools$Row", name := "four", desc := "(I)I" } : Jvm.MethodName) ({ cls := "ClassPools$Row", name := "four", desc := "(I)I" } : Jvm.MethodName)) ∈ lwg := lwg_2 _ 110 (by decide +kernel) (by decide +kernel)
theorem w_352 : (Jvm.Cond.methodLink "ClassPools$Row" (19 : Nat) ({ cls := "ClassPools$Row", name := "two", desc := "(I)I" } : Jvm.MethodName)) ∈ lwg := lwg_2 _ 112 (by decide +kernel) (by decide +kernel)
theorem w_353 : (Jvm.Cond.methodLink "ClassPools" (73 : Nat) ({ cls := "ClassPools$Reader", name := "checkTells", desc := "()V" } : Jvm.MethodName)) ∈ lwg := lwg_2 _ 113 (by decide +kernel) (by decide +kernel)
theorem w_354 : (Jvm.Cond.instanceMethod ({ cls := "ClassPools$Reader", name := "checkTells", desc := "()V" } : Jvm.MethodName)) ∈ lwg := lwg_2 _ 114 (by decide +kernel) (by decide +kernel)
theorem w_355 : (Jvm.Cond.selects "ClassPools$Reader" ({ cls := "ClassPools$Reader", name := "checkTells", desc := "()V" } : Jvm.MethodName) ({ cls := "ClassPools$Reader", name := "checkTells", desc := "()V" } : Jvm.MethodName)) ∈ lwg := lwg_2 _ 115 (by decide +kernel) (by decide +kernel)
theorem w_357 : (Jvm.Cond.methodLink "ClassPools$Reader" (122 : Nat) ({ cls := "ClassPools$ClassFile", name := "tellCount", desc := "()I" } : Jvm.MethodName)) ∈ lwg := lwg_2 _ 117 (by decide +kernel) (by decide +kernel)
theorem w_358 : (Jvm.Cond.instanceMethod ({ cls := "ClassPools$ClassFile", name := "tellCount", desc := "()I" } : Jvm.MethodName)) ∈ lwg := lwg_2 _ 118 (by decide +kernel) (by decide +kernel)
theorem w_359 : (Jvm.Cond.selects "ClassPools$ClassFile" ({ cls := "ClassPools$ClassFile", name := "tellCount", desc := "()I" } : Jvm.MethodName) ({ cls := "ClassPools$ClassFile", name := "tellCount", desc := "()I" } : Jvm.MethodName)) ∈ lwg := lwg_2 _ 119 (by decide +kernel) (by decide +kernel)
theorem w_361 : (Jvm.Cond.methodLink "ClassPools$Reader" (125 : Nat) ({ cls := "ClassPools$ClassFile", name := "tellAt", desc := "(I)I" } : Jvm.MethodName)) ∈ lwg := lwg_2 _ 121 (by decide +kernel) (by decide +kernel)
theorem w_362 : (Jvm.Cond.instanceMethod ({ cls := "ClassPools$ClassFile", name := "tellAt", desc := "(I)I" } : Jvm.MethodName)) ∈ lwg := lwg_2 _ 122 (by decide +kernel) (by decide +kernel)
theorem w_363 : (Jvm.Cond.selects "ClassPools$ClassFile" ({ cls := "ClassPools$ClassFile", name := "tellAt", desc := "(I)I" } : Jvm.MethodName) ({ cls := "ClassPools$ClassFile", name := "tellAt", desc := "(I)I" } : Jvm.MethodName)) ∈ lwg := lwg_2 _ 123 (by decide +kernel) (by decide +kernel)
theorem w_365 : (Jvm.Cond.methodLink "ClassPools$Reader" (128 : Nat) ({ cls := "ClassPools$ClassFile", name := "wanted", desc := "(I)I" } : Jvm.MethodName)) ∈ lwg := lwg_2 _ 125 (by decide +kernel) (by decide +kernel)
theorem w_366 : (Jvm.Cond.instanceMethod ({ cls := "ClassPools$ClassFile", name := "wanted", desc := "(I)I" } : Jvm.MethodName)) ∈ lwg := lwg_2 _ 126 (by decide +kernel) (by decide +kernel)
theorem w_367 : (Jvm.Cond.selects "ClassPools$ClassFile" ({ cls := "ClassPools$ClassFile", name := "wanted", desc := "(I)I" } : Jvm.MethodName) ({ cls := "ClassPools$ClassFile", name := "wanted", desc := "(I)I" } : Jvm.MethodName)) ∈ lwg := lwg_2 _ 127 (by decide +kernel) (by decide +kernel)
theorem w_369 : (Jvm.Cond.methodLink "ClassPools$Reader" (131 : Nat) ({ cls := "ClassPools$Pool", name := "wrong", desc := "(II)I" } : Jvm.MethodName)) ∈ lwg := lwg_2 _ 129 (by decide +kernel) (by decide +kernel)
theorem w_370 : (Jvm.Cond.instanceMethod ({ cls := "ClassPools$Pool", name := "wrong", desc := "(II)I" } : Jvm.MethodName)) ∈ lwg := lwg_2 _ 130 (by decide +kernel) (by decide +kernel)
theorem w_371 : (Jvm.Cond.selects "ClassPools$Pool" ({ cls := "ClassPools$Pool", name := "wrong", desc := "(II)I" } : Jvm.MethodName) ({ cls := "ClassPools$Pool", name := "wrong", desc := "(II)I" } : Jvm.MethodName)) ∈ lwg := lwg_2 _ 131 (by decide +kernel) (by decide +kernel)
theorem w_373 : (Jvm.Cond.methodLink "ClassPools$Pool" (60 : Nat) ({ cls := "ClassPools$Pool", name := "tag", desc := "(I)I" } : Jvm.MethodName)) ∈ lwg := lwg_2 _ 133 (by decide +kernel) (by decide +kernel)
theorem w_374 : (Jvm.Cond.instanceMethod ({ cls := "ClassPools$Pool", name := "tag", desc := "(I)I" } : Jvm.MethodName)) ∈ lwg := lwg_2 _ 134 (by decide +kernel) (by decide +kernel)
theorem w_375 : (Jvm.Cond.selects "ClassPools$Pool" ({ cls := "ClassPools$Pool", name := "tag", desc := "(I)I" } : Jvm.MethodName) ({ cls := "ClassPools$Pool", name := "tag", desc := "(I)I" } : Jvm.MethodName)) ∈ lwg := lwg_2 _ 135 (by decide +kernel) (by decide +kernel)
theorem w_377 : (Jvm.Cond.methodLink "ClassPools$Pool" (50 : Nat) ({ cls := "ClassPools$Pool", name := "start", desc := "(I)I" } : Jvm.MethodName)) ∈ lwg := lwg_2 _ 137 (by decide +kernel) (by decide +kernel)
theorem w_378 : (Jvm.Cond.instanceMethod ({ cls := "ClassPools$Pool", name := "start", desc := "(I)I" } : Jvm.MethodName)) ∈ lwg := lwg_2 _ 138 (by decide +kernel) (by decide +kernel)
theorem w_379 : (Jvm.Cond.selects "ClassPools$Pool" ({ cls := "ClassPools$Pool", name := "start", desc := "(I)I" } : Jvm.MethodName) ({ cls := "ClassPools$Pool", name := "start", desc := "(I)I" } : Jvm.MethodName)) ∈ lwg := lwg_2 _ 139 (by decide +kernel) (by decide +kernel)
theorem w_381 : (Jvm.Cond.methodLink "ClassPools$Pool" (54 : Nat) ({ cls := "ClassPools$Row", name := "one", desc := "(I)I" } : Jvm.MethodName)) ∈ lwg := lwg_2 _ 141 (by decide +kernel) (by decide +kernel)
theorem w_382 : (Jvm.Cond.methodLink "ClassPools" (76 : Nat) ({ cls := "ClassPools$Reader", name := "checkSorts", desc := "(I)V" } : Jvm.MethodName)) ∈ lwg := lwg_2 _ 142 (by decide +kernel) (by decide +kernel)
theorem w_383 : (Jvm.Cond.instanceMethod ({ cls := "ClassPools$Reader", name := "checkSorts", desc := "(I)V" } : Jvm.MethodName)) ∈ lwg := lwg_2 _ 143 (by decide +kernel) (by decide +kernel)
theorem w_384 : (Jvm.Cond.selects "ClassPools$Reader" ({ cls := "ClassPools$Reader", name := "checkSorts", desc := "(I)V" } : Jvm.MethodName) ({ cls := "ClassPools$Reader", name := "checkSorts", desc := "(I)V" } : Jvm.MethodName)) ∈ lwg := lwg_2 _ 144 (by decide +kernel) (by decide +kernel)
theorem w_386 : (Jvm.Cond.methodLink "ClassPools$Reader" (135 : Nat) ({ cls := "ClassPools$ClassFile", name := "members", desc := "(I)I" } : Jvm.MethodName)) ∈ lwg := lwg_2 _ 146 (by decide +kernel) (by decide +kernel)
theorem w_387 : (Jvm.Cond.methodLink "ClassPools$Reader" (137 : Nat) ({ cls := "ClassPools$ClassFile", name := "memberAt", desc := "(II)I" } : Jvm.MethodName)) ∈ lwg := lwg_2 _ 147 (by decide +kernel) (by decide +kernel)
theorem w_388 : (Jvm.Cond.instanceMethod ({ cls := "ClassPools$ClassFile", name := "memberAt", desc := "(II)I" } : Jvm.MethodName)) ∈ lwg := lwg_2 _ 148 (by decide +kernel) (by decide +kernel)
theorem w_389 : (Jvm.Cond.selects "ClassPools$ClassFile" ({ cls := "ClassPools$ClassFile", name := "memberAt", desc := "(II)I" } : Jvm.MethodName) ({ cls := "ClassPools$ClassFile", name := "memberAt", desc := "(II)I" } : Jvm.MethodName)) ∈ lwg := lwg_2 _ 149 (by decide +kernel) (by decide +kernel)
theorem w_391 : (Jvm.Cond.methodLink "ClassPools$Reader" (140 : Nat) ({ cls := "ClassPools$Pool", name := "textAt", desc := "(I)I" } : Jvm.MethodName)) ∈ lwg := lwg_2 _ 151 (by decide +kernel) (by decide +kernel)
theorem w_392 : (Jvm.Cond.instanceMethod ({ cls := "ClassPools$Pool", name := "textAt", desc := "(I)I" } : Jvm.MethodName)) ∈ lwg := lwg_2 _ 152 (by decide +kernel) (by decide +kernel)
theorem w_393 : (Jvm.Cond.selects "ClassPools$Pool" ({ cls := "ClassPools$Pool", name := "textAt", desc := "(I)I" } : Jvm.MethodName) ({ cls := "ClassPools$Pool", name := "textAt", desc := "(I)I" } : Jvm.MethodName)) ∈ lwg := lwg_2 _ 153 (by decide +kernel) (by decide +kernel)
theorem w_395 : (Jvm.Cond.methodLink "ClassPools$Reader" (143 : Nat) ({ cls := "ClassPools$Pool", name := "textSize", desc := "(I)I" } : Jvm.MethodName)) ∈ lwg := lwg_2 _ 155 (by decide +kernel) (by decide +kernel)
theorem w_396 : (Jvm.Cond.instanceMethod ({ cls := "ClassPools$Pool", name := "textSize", desc := "(I)I" } : Jvm.MethodName)) ∈ lwg := lwg_2 _ 156 (by decide +kernel) (by decide +kernel)
theorem w_397 : (Jvm.Cond.selects "ClassPools$Pool" ({ cls := "ClassPools$Pool", name := "textSize", desc := "(I)I" } : Jvm.MethodName) ({ cls := "ClassPools$Pool", name := "textSize", desc := "(I)I" } : Jvm.MethodName)) ∈ lwg := lwg_2 _ 157 (by decide +kernel) (by decide +kernel)
theorem w_399 : (Jvm.Cond.methodLink "ClassPools$Pool" (63 : Nat) ({ cls := "ClassPools$Pool", name := "twoOf", desc := "(II)I" } : Jvm.MethodName)) ∈ lwg := lwg_2 _ 159 (by decide +kernel) (by decide +kernel)
theorem w_401 : (Jvm.Cond.instanceMethod ({ cls := "ClassPools$Pool", name := "twoOf", desc := "(II)I" } : Jvm.MethodName)) ∈ lwg := lwg_2 _ 161 (by decide +kernel) (by decide +kernel)
theorem w_403 : (Jvm.Cond.methodLink "ClassPools$Pool" (57 : Nat) ({ cls := "ClassPools$Row", name := "two", desc := "(I)I" } : Jvm.MethodName)) ∈ lwg := lwg_2 _ 163 (by decide +kernel) (by decide +kernel)
theorem w_404 : (Jvm.Cond.methodLink "ClassPools$Reader" (146 : Nat) ({ cls := "ClassPools$Sorts", name := "isType", desc := "(LClassPools$Row;II)Z" } : Jvm.MethodName)) ∈ lwg := lwg_2 _ 164 (by decide +kernel) (by decide +kernel)
theorem w_405 : (Jvm.Cond.static ({ cls := "ClassPools$Sorts", name := "isType", desc := "(LClassPools$Row;II)Z" } : Jvm.MethodName)) ∈ lwg := lwg_2 _ 165 (by decide +kernel) (by decide +kernel)
theorem w_407 : (Jvm.Cond.methodLink "ClassPools$Sorts" (9 : Nat) ({ cls := "ClassPools$Sorts", name := "typeEnd", desc := "(LClassPools$Row;II)I" } : Jvm.MethodName)) ∈ lwg := lwg_2 _ 167 (by decide +kernel) (by decide +kernel)
theorem w_408 : (Jvm.Cond.static ({ cls := "ClassPools$Sorts", name := "typeEnd", desc := "(LClassPools$Row;II)I" } : Jvm.MethodName)) ∈ lwg := lwg_2 _ 168 (by decide +kernel) (by decide +kernel)
theorem w_410 : (Jvm.Cond.methodLink "ClassPools$Sorts" (18 : Nat) ({ cls := "ClassPools$Row", name := "one", desc := "(I)I" } : Jvm.MethodName)) ∈ lwg := lwg_2 _ 170 (by decide +kernel) (by decide +kernel)
theorem w_411 : (Jvm.Cond.methodLink "ClassPools$Sorts" (32 : Nat) ({ cls := "ClassPools$Sorts", name := "nameEnd", desc := "(LClassPools$Row;II)I" } : Jvm.MethodName)) ∈ lwg := lwg_2 _ 171 (by decide +kernel) (by decide +kernel)
theorem w_412 : (Jvm.Cond.static ({ cls := "ClassPools$Sorts", name := "nameEnd", desc := "(LClassPools$Row;II)I" } : Jvm.MethodName)) ∈ lwg := lwg_2 _ 172 (by decide +kernel) (by decide +kernel)
theorem w_414 : (Jvm.Cond.methodLink "ClassPools$Reader" (152 : Nat) ({ cls := "ClassPools$Sorts", name := "isMethod", desc := "(LClassPools$Row;II)Z" } : Jvm.MethodName)) ∈ lwg := lwg_2 _ 174 (by decide +kernel) (by decide +kernel)
theorem w_415 : (Jvm.Cond.static ({ cls := "ClassPools$Sorts", name := "isMethod", desc := "(LClassPools$Row;II)Z" } : Jvm.MethodName)) ∈ lwg := lwg_2 _ 175 (by decide +kernel) (by decide +kernel)
theorem w_417 : (Jvm.Cond.methodLink "ClassPools$Sorts" (15 : Nat) ({ cls := "ClassPools$Sorts", name := "closing", desc := "(LClassPools$Row;II)I" } : Jvm.MethodName)) ∈ lwg := lwg_2 _ 177 (by decide +kernel) (by decide +kernel)
theorem w_418 : (Jvm.Cond.static ({ cls := "ClassPools$Sorts", name := "closing", desc := "(LClassPools$Row;II)I" } : Jvm.MethodName)) ∈ lwg := lwg_2 _ 178 (by decide +kernel) (by decide +kernel)
theorem w_420 : (Jvm.Cond.methodLink "ClassPools$Sorts" (24 : Nat) ({ cls := "ClassPools$Sorts", name := "isType", desc := "(LClassPools$Row;II)Z" } : Jvm.MethodName)) ∈ lwg := lwg_2 _ 180 (by decide +kernel) (by decide +kernel)
theorem w_421 : (Jvm.Cond.methodLink "ClassPoolsLaw" (37 : Nat) ({ cls := "ClassPools", name := "place", desc := "()I" } : Jvm.MethodName)) ∈ lwg := lwg_2 _ 181 (by decide +kernel) (by decide +kernel)
theorem w_422 : (Jvm.Cond.instanceMethod ({ cls := "ClassPools", name := "place", desc := "()I" } : Jvm.MethodName)) ∈ lwg := lwg_2 _ 182 (by decide +kernel) (by decide +kernel)
theorem w_423 : (Jvm.Cond.selects "ClassPools" ({ cls := "ClassPools", name := "place", desc := "()I" } : Jvm.MethodName) ({ cls := "ClassPools", name := "place", desc := "()I" } : Jvm.MethodName)) ∈ lwg := lwg_2 _ 183 (by decide +kernel) (by decide +kernel)
theorem w_425 : (Jvm.Cond.methodLink "ClassPoolsLaw" (41 : Nat) ({ cls := "ClassPools", name := "drop", desc := "(I)I" } : Jvm.MethodName)) ∈ lwg := lwg_2 _ 185 (by decide +kernel) (by decide +kernel)
theorem w_426 : (Jvm.Cond.instanceMethod ({ cls := "ClassPools", name := "drop", desc := "(I)I" } : Jvm.MethodName)) ∈ lwg := lwg_2 _ 186 (by decide +kernel) (by decide +kernel)
theorem w_427 : (Jvm.Cond.selects "ClassPools" ({ cls := "ClassPools", name := "drop", desc := "(I)I" } : Jvm.MethodName) ({ cls := "ClassPools", name := "drop", desc := "(I)I" } : Jvm.MethodName)) ∈ lwg := lwg_2 _ 187 (by decide +kernel) (by decide +kernel)
theorem w_429 : (Jvm.Cond.methodLink "ClassPools" (85 : Nat) ({ cls := "ClassPools", name := "fileAt", desc := "(I)LClassPools$ClassFile;" } : Jvm.MethodName)) ∈ lwg := lwg_2 _ 189 (by decide +kernel) (by decide +kernel)
theorem w_431 : (Jvm.Cond.instanceMethod ({ cls := "ClassPools", name := "fileAt", desc := "(I)LClassPools$ClassFile;" } : Jvm.MethodName)) ∈ lwg := lwg_2 _ 191 (by decide +kernel) (by decide +kernel)
theorem w_433 : (Jvm.Cond.methodLink "ClassPoolsLaw" (46 : Nat) ({ cls := "ClassPools", name := "file", desc := "(II)I" } : Jvm.MethodName)) ∈ lwg := lwg_2 _ 193 (by decide +kernel) (by decide +kernel)
theorem w_434 : (Jvm.Cond.instanceMethod ({ cls := "ClassPools", name := "file", desc := "(II)I" } : Jvm.MethodName)) ∈ lwg := lwg_2 _ 194 (by decide +kernel) (by decide +kernel)
theorem w_435 : (Jvm.Cond.selects "ClassPools" ({ cls := "ClassPools", name := "file", desc := "(II)I" } : Jvm.MethodName) ({ cls := "ClassPools", name := "file", desc := "(II)I" } : Jvm.MethodName)) ∈ lwg := lwg_2 _ 195 (by decide +kernel) (by decide +kernel)
theorem w_437 : (Jvm.Cond.methodLink "ClassPools" (92 : Nat) ({ cls := "ClassPools$Row", name := "two", desc := "(I)I" } : Jvm.MethodName)) ∈ lwg := lwg_2 _ 197 (by decide +kernel) (by decide +kernel)
theorem w_438 : (Jvm.Cond.methodLink "ClassPools" (100 : Nat) ({ cls := "ClassPools$Pool", name := "places", desc := "()I" } : Jvm.MethodName)) ∈ lwg := lwg_2 _ 198 (by decide +kernel) (by decide +kernel)
theorem w_439 : (Jvm.Cond.instanceMethod ({ cls := "ClassPools$Pool", name := "places", desc := "()I" } : Jvm.MethodName)) ∈ lwg := lwg_2 _ 199 (by decide +kernel) (by decide +kernel)
theorem w_440 : (Jvm.Cond.selects "ClassPools$Pool" ({ cls := "ClassPools$Pool", name := "places", desc := "()I" } : Jvm.MethodName) ({ cls := "ClassPools$Pool", name := "places", desc := "()I" } : Jvm.MethodName)) ∈ lwg := lwg_2 _ 200 (by decide +kernel) (by decide +kernel)
theorem w_442 : (Jvm.Cond.methodLink "ClassPools" (108 : Nat) ({ cls := "ClassPools$ClassFile", name := "faces", desc := "()I" } : Jvm.MethodName)) ∈ lwg := lwg_2 _ 202 (by decide +kernel) (by decide +kernel)
theorem w_443 : (Jvm.Cond.instanceMethod ({ cls := "ClassPools$ClassFile", name := "faces", desc := "()I" } : Jvm.MethodName)) ∈ lwg := lwg_2 _ 203 (by decide +kernel) (by decide +kernel)
theorem w_444 : (Jvm.Cond.selects "ClassPools$ClassFile" ({ cls := "ClassPools$ClassFile", name := "faces", desc := "()I" } : Jvm.MethodName) ({ cls := "ClassPools$ClassFile", name := "faces", desc := "()I" } : Jvm.MethodName)) ∈ lwg := lwg_2 _ 204 (by decide +kernel) (by decide +kernel)
theorem w_446 : (Jvm.Cond.methodLink "ClassPools$ClassFile" (75 : Nat) ({ cls := "ClassPools$Row", name := "two", desc := "(I)I" } : Jvm.MethodName)) ∈ lwg := lwg_2 _ 206 (by decide +kernel) (by decide +kernel)
theorem w_447 : (Jvm.Cond.methodLink "ClassPools" (111 : Nat) ({ cls := "ClassPools$ClassFile", name := "members", desc := "(I)I" } : Jvm.MethodName)) ∈ lwg := lwg_2 _ 207 (by decide +kernel) (by decide +kernel)
theorem w_448 : (Jvm.Cond.methodLink "ClassPoolsLaw" (51 : Nat) ({ cls := "ClassPools", name := "entry", desc := "(III)I" } : Jvm.MethodName)) ∈ lwg := lwg_2 _ 208 (by decide +kernel) (by decide +kernel)
theorem w_449 : (Jvm.Cond.instanceMethod ({ cls := "ClassPools", name := "entry", desc := "(III)I" } : Jvm.MethodName)) ∈ lwg := lwg_2 _ 209 (by decide +kernel) (by decide +kernel)
theorem w_450 : (Jvm.Cond.selects "ClassPools" ({ cls := "ClassPools", name := "entry", desc := "(III)I" } : Jvm.MethodName) ({ cls := "ClassPools", name := "entry", desc := "(III)I" } : Jvm.MethodName)) ∈ lwg := lwg_2 _ 210 (by decide +kernel) (by decide +kernel)
theorem w_452 : (Jvm.Cond.methodLink "ClassPools" (117 : Nat) ({ cls := "ClassPools$Pool", name := "has", desc := "(I)Z" } : Jvm.MethodName)) ∈ lwg := lwg_2 _ 212 (by decide +kernel) (by decide +kernel)
theorem w_453 : (Jvm.Cond.methodLink "ClassPools" (121 : Nat) ({ cls := "ClassPools$Pool", name := "tag", desc := "(I)I" } : Jvm.MethodName)) ∈ lwg := lwg_2 _ 213 (by decide +kernel) (by decide +kernel)
theorem w_454 : (Jvm.Cond.methodLink "ClassPools" (124 : Nat) ({ cls := "ClassPools$Pool", name := "first", desc := "(I)I" } : Jvm.MethodName)) ∈ lwg := lwg_2 _ 214 (by decide +kernel) (by decide +kernel)
theorem w_455 : (Jvm.Cond.instanceMethod ({ cls := "ClassPools$Pool", name := "first", desc := "(I)I" } : Jvm.MethodName)) ∈ lwg := lwg_2 _ 215 (by decide +kernel) (by decide +kernel)
theorem w_456 : (Jvm.Cond.selects "ClassPools$Pool" ({ cls := "ClassPools$Pool", name := "first", desc := "(I)I" } : Jvm.MethodName) ({ cls := "ClassPools$Pool", name := "first", desc := "(I)I" } : Jvm.MethodName)) ∈ lwg := lwg_2 _ 216 (by decide +kernel) (by decide +kernel)
theorem w_458 : (Jvm.Cond.methodLink "ClassPools" (127 : Nat) ({ cls := "ClassPools$Pool", name := "second", desc := "(I)I" } : Jvm.MethodName)) ∈ lwg := lwg_2 _ 218 (by decide +kernel) (by decide +kernel)
theorem w_459 : (Jvm.Cond.instanceMethod ({ cls := "ClassPools$Pool", name := "second", desc := "(I)I" } : Jvm.MethodName)) ∈ lwg := lwg_2 _ 219 (by decide +kernel) (by decide +kernel)
theorem w_460 : (Jvm.Cond.selects "ClassPools$Pool" ({ cls := "ClassPools$Pool", name := "second", desc := "(I)I" } : Jvm.MethodName) ({ cls := "ClassPools$Pool", name := "second", desc := "(I)I" } : Jvm.MethodName)) ∈ lwg := lwg_2 _ 220 (by decide +kernel) (by decide +kernel)
theorem w_462 : (Jvm.Cond.methodLink "ClassPools" (130 : Nat) ({ cls := "ClassPools$Pool", name := "textSize", desc := "(I)I" } : Jvm.MethodName)) ∈ lwg := lwg_2 _ 222 (by decide +kernel) (by decide +kernel)
theorem w_463 : (Jvm.Cond.methodLink "ClassPoolsLaw" (65 : Nat) ({ cls := "ClassPools", name := "text", desc := "(III)I" } : Jvm.MethodName)) ∈ lwg := lwg_2 _ 223 (by decide +kernel) (by decide +kernel)
theorem w_464 : (Jvm.Cond.instanceMethod ({ cls := "ClassPools", name := "text", desc := "(III)I" } : Jvm.MethodName)) ∈ lwg := lwg_2 _ 224 (by decide +kernel) (by decide +kernel)
theorem w_465 : (Jvm.Cond.selects "ClassPools" ({ cls := "ClassPools", name := "text", desc := "(III)I" } : Jvm.MethodName) ({ cls := "ClassPools", name := "text", desc := "(III)I" } : Jvm.MethodName)) ∈ lwg := lwg_2 _ 225 (by decide +kernel) (by decide +kernel)
theorem w_467 : (Jvm.Cond.methodLink "ClassPools" (162 : Nat) ({ cls := "ClassPools$Pool", name := "wrong", desc := "(II)I" } : Jvm.MethodName)) ∈ lwg := lwg_2 _ 227 (by decide +kernel) (by decide +kernel)
theorem w_468 : (Jvm.Cond.methodLink "ClassPools" (166 : Nat) ({ cls := "ClassPools$Pool", name := "textOf", desc := "(II)I" } : Jvm.MethodName)) ∈ lwg := lwg_2 _ 228 (by decide +kernel) (by decide +kernel)
theorem w_469 : (Jvm.Cond.instanceMethod ({ cls := "ClassPools$Pool", name := "textOf", desc := "(II)I" } : Jvm.MethodName)) ∈ lwg := lwg_2 _ 229 (by decide +kernel) (by decide +kernel)
theorem w_470 : (Jvm.Cond.selects "ClassPools$Pool" ({ cls := "ClassPools$Pool", name := "textOf", desc := "(II)I" } : Jvm.MethodName) ({ cls := "ClassPools$Pool", name := "textOf", desc := "(II)I" } : Jvm.MethodName)) ∈ lwg := lwg_2 _ 230 (by decide +kernel) (by decide +kernel)
theorem w_472 : (Jvm.Cond.methodLink "ClassPools" (169 : Nat) ({ cls := "ClassPools", name := "showText", desc := "(LClassPools$ClassFile;I)I" } : Jvm.MethodName)) ∈ lwg := lwg_2 _ 232 (by decide +kernel) (by decide +kernel)
theorem w_474 : (Jvm.Cond.instanceMethod ({ cls := "ClassPools", name := "showText", desc := "(LClassPools$ClassFile;I)I" } : Jvm.MethodName)) ∈ lwg := lwg_2 _ 234 (by decide +kernel) (by decide +kernel)
theorem w_476 : (Jvm.Cond.methodLink "ClassPools" (180 : Nat) ({ cls := "ClassPools$Pool", name := "textAt", desc := "(I)I" } : Jvm.MethodName)) ∈ lwg := lwg_2 _ 236 (by decide +kernel) (by decide +kernel)
theorem w_477 : (Jvm.Cond.methodLink "ClassPools" (200 : Nat) ({ cls := "ClassPools$Row", name := "take", desc := "(LClassPools$Row;II)I" } : Jvm.MethodName)) ∈ lwg := lwg_2 _ 237 (by decide +kernel) (by decide +kernel)
theorem w_478 : (Jvm.Cond.methodLink "ClassPoolsLaw" (69 : Nat) ({ cls := "ClassPools", name := "member", desc := "(IIII)I" } : Jvm.MethodName)) ∈ lwg := lwg_2 _ 238 (by decide +kernel) (by decide +kernel)
theorem w_479 : (Jvm.Cond.instanceMethod ({ cls := "ClassPools", name := "member", desc := "(IIII)I" } : Jvm.MethodName)) ∈ lwg := lwg_2 _ 239 (by decide +kernel) (by decide +kernel)
theorem w_480 : (Jvm.Cond.selects "ClassPools" ({ cls := "ClassPools", name := "member", desc := "(IIII)I" } : Jvm.MethodName) ({ cls := "ClassPools", name := "member", desc := "(IIII)I" } : Jvm.MethodName)) ∈ lwg := lwg_3 _ 0 (by decide +kernel) (by decide +kernel)
theorem w_482 : (Jvm.Cond.methodLink "ClassPools" (173 : Nat) ({ cls := "ClassPools", name := "showClass", desc := "(LClassPools$ClassFile;II)I" } : Jvm.MethodName)) ∈ lwg := lwg_3 _ 2 (by decide +kernel) (by decide +kernel)
theorem w_484 : (Jvm.Cond.instanceMethod ({ cls := "ClassPools", name := "showClass", desc := "(LClassPools$ClassFile;II)I" } : Jvm.MethodName)) ∈ lwg := lwg_3 _ 4 (by decide +kernel) (by decide +kernel)
theorem w_486 : (Jvm.Cond.methodLink "ClassPools" (239 : Nat) ({ cls := "ClassPools$ClassFile", name := "classPlace", desc := "(I)I" } : Jvm.MethodName)) ∈ lwg := lwg_3 _ 6 (by decide +kernel) (by decide +kernel)
theorem w_487 : (Jvm.Cond.instanceMethod ({ cls := "ClassPools$ClassFile", name := "classPlace", desc := "(I)I" } : Jvm.MethodName)) ∈ lwg := lwg_3 _ 7 (by decide +kernel) (by decide +kernel)
theorem w_488 : (Jvm.Cond.selects "ClassPools$ClassFile" ({ cls := "ClassPools$ClassFile", name := "classPlace", desc := "(I)I" } : Jvm.MethodName) ({ cls := "ClassPools$ClassFile", name := "classPlace", desc := "(I)I" } : Jvm.MethodName)) ∈ lwg := lwg_3 _ 8 (by decide +kernel) (by decide +kernel)
theorem w_490 : (Jvm.Cond.methodLink "ClassPools$ClassFile" (78 : Nat) ({ cls := "ClassPools$ClassFile", name := "faces", desc := "()I" } : Jvm.MethodName)) ∈ lwg := lwg_3 _ 10 (by decide +kernel) (by decide +kernel)
theorem w_491 : (Jvm.Cond.methodLink "ClassPools" (177 : Nat) ({ cls := "ClassPools$ClassFile", name := "memberAt", desc := "(II)I" } : Jvm.MethodName)) ∈ lwg := lwg_3 _ 11 (by decide +kernel) (by decide +kernel)
theorem w_492 : (Jvm.Cond.methodLink "ClassPoolsLaw" (74 : Nat) ({ cls := "ClassPools", name := "told", desc := "(IIII)I" } : Jvm.MethodName)) ∈ lwg := lwg_3 _ 12 (by decide +kernel) (by decide +kernel)
theorem w_493 : (Jvm.Cond.instanceMethod ({ cls := "ClassPools", name := "told", desc := "(IIII)I" } : Jvm.MethodName)) ∈ lwg := lwg_3 _ 13 (by decide +kernel) (by decide +kernel)
theorem w_494 : (Jvm.Cond.selects "ClassPools" ({ cls := "ClassPools", name := "told", desc := "(IIII)I" } : Jvm.MethodName) ({ cls := "ClassPools", name := "told", desc := "(IIII)I" } : Jvm.MethodName)) ∈ lwg := lwg_3 _ 14 (by decide +kernel) (by decide +kernel)
theorem w_496 : (Jvm.Cond.methodLink "ClassPools" (183 : Nat) ({ cls := "ClassPools$Sorts", name := "width", desc := "(LClassPools$Row;I)I" } : Jvm.MethodName)) ∈ lwg := lwg_3 _ 16 (by decide +kernel) (by decide +kernel)
theorem w_497 : (Jvm.Cond.static ({ cls := "ClassPools$Sorts", name := "width", desc := "(LClassPools$Row;I)I" } : Jvm.MethodName)) ∈ lwg := lwg_3 _ 17 (by decide +kernel) (by decide +kernel)
theorem w_499 : (Jvm.Cond.methodLink "ClassPools" (189 : Nat) ({ cls := "ClassPools$Sorts", name := "sum", desc := "(LClassPools$Row;IIZ)I" } : Jvm.MethodName)) ∈ lwg := lwg_3 _ 19 (by decide +kernel) (by decide +kernel)
theorem w_500 : (Jvm.Cond.static ({ cls := "ClassPools$Sorts", name := "sum", desc := "(LClassPools$Row;IIZ)I" } : Jvm.MethodName)) ∈ lwg := lwg_3 _ 20 (by decide +kernel) (by decide +kernel)
theorem w_502 : (Jvm.Cond.methodLink "ClassPools$Sorts" (28 : Nat) ({ cls := "ClassPools$Sorts", name := "width", desc := "(LClassPools$Row;I)I" } : Jvm.MethodName)) ∈ lwg := lwg_3 _ 22 (by decide +kernel) (by decide +kernel)
theorem w_503 : (Jvm.Cond.methodLink "ClassPoolsLaw" (78 : Nat) ({ cls := "ClassPools", name := "attribute", desc := "(IIIII)I" } : Jvm.MethodName)) ∈ lwg := lwg_3 _ 23 (by decide +kernel) (by decide +kernel)
theorem w_504 : (Jvm.Cond.instanceMethod ({ cls := "ClassPools", name := "attribute", desc := "(IIIII)I" } : Jvm.MethodName)) ∈ lwg := lwg_3 _ 24 (by decide +kernel) (by decide +kernel)
theorem w_505 : (Jvm.Cond.selects "ClassPools" ({ cls := "ClassPools", name := "attribute", desc := "(IIIII)I" } : Jvm.MethodName) ({ cls := "ClassPools", name := "attribute", desc := "(IIIII)I" } : Jvm.MethodName)) ∈ lwg := lwg_3 _ 25 (by decide +kernel) (by decide +kernel)
theorem w_507 : (Jvm.Cond.methodLink "ClassPools" (193 : Nat) ({ cls := "ClassPools$ClassFile", name := "attributeAt", desc := "(III)I" } : Jvm.MethodName)) ∈ lwg := lwg_3 _ 27 (by decide +kernel) (by decide +kernel)
theorem w_508 : (Jvm.Cond.instanceMethod ({ cls := "ClassPools$ClassFile", name := "attributeAt", desc := "(III)I" } : Jvm.MethodName)) ∈ lwg := lwg_3 _ 28 (by decide +kernel) (by decide +kernel)
theorem w_509 : (Jvm.Cond.selects "ClassPools$ClassFile" ({ cls := "ClassPools$ClassFile", name := "attributeAt", desc := "(III)I" } : Jvm.MethodName) ({ cls := "ClassPools$ClassFile", name := "attributeAt", desc := "(III)I" } : Jvm.MethodName)) ∈ lwg := lwg_3 _ 29 (by decide +kernel) (by decide +kernel)
theorem w_511 : (Jvm.Cond.methodLink "ClassPools$ClassFile" (85 : Nat) ({ cls := "ClassPools$ClassFile", name := "attributesOf", desc := "(II)I" } : Jvm.MethodName)) ∈ lwg := lwg_3 _ 31 (by decide +kernel) (by decide +kernel)
theorem w_513 : (Jvm.Cond.instanceMethod ({ cls := "ClassPools$ClassFile", name := "attributesOf", desc := "(II)I" } : Jvm.MethodName)) ∈ lwg := lwg_3 _ 33 (by decide +kernel) (by decide +kernel)
theorem w_515 : (Jvm.Cond.methodLink "ClassPools$ClassFile" (81 : Nat) ({ cls := "ClassPools$ClassFile", name := "memberAt", desc := "(II)I" } : Jvm.MethodName)) ∈ lwg := lwg_3 _ 35 (by decide +kernel) (by decide +kernel)
theorem w_516 : (Jvm.Cond.methodLink "ClassPools$ClassFile" (88 : Nat) ({ cls := "ClassPools$Row", name := "four", desc := "(I)I" } : Jvm.MethodName)) ∈ lwg := lwg_3 _ 36 (by decide +kernel) (by decide +kernel)
theorem w_517 : (Jvm.Cond.methodLink "ClassPools" (197 : Nat) ({ cls := "ClassPools$Row", name := "four", desc := "(I)I" } : Jvm.MethodName)) ∈ lwg := lwg_3 _ 37 (by decide +kernel) (by decide +kernel)
theorem w_518 : (Jvm.Cond.methodLink "ClassPoolsLaw" (83 : Nat) ({ cls := "ClassPools", name := "out", desc := "(I)I" } : Jvm.MethodName)) ∈ lwg := lwg_3 _ 38 (by decide +kernel) (by decide +kernel)
theorem w_519 : (Jvm.Cond.instanceMethod ({ cls := "ClassPools", name := "out", desc := "(I)I" } : Jvm.MethodName)) ∈ lwg := lwg_3 _ 39 (by decide +kernel) (by decide +kernel)
theorem w_520 : (Jvm.Cond.selects "ClassPools" ({ cls := "ClassPools", name := "out", desc := "(I)I" } : Jvm.MethodName) ({ cls := "ClassPools", name := "out", desc := "(I)I" } : Jvm.MethodName)) ∈ lwg := lwg_3 _ 40 (by decide +kernel) (by decide +kernel)
theorem w_522 : (Jvm.Cond.methodLink "ClassPools" (204 : Nat) ({ cls := "ClassPools$Row", name := "has", desc := "(II)Z" } : Jvm.MethodName)) ∈ lwg := lwg_3 _ 42 (by decide +kernel) (by decide +kernel)
theorem w_523 : (Jvm.Cond.methodLink "ClassPools" (207 : Nat) ({ cls := "ClassPools$Row", name := "one", desc := "(I)I" } : Jvm.MethodName)) ∈ lwg := lwg_3 _ 43 (by decide +kernel) (by decide +kernel)
theorem w_524 : (Jvm.Cond.methodLink "ClassPoolsLaw" (87 : Nat) ({ cls := "ClassPools", name := "join", desc := "()I" } : Jvm.MethodName)) ∈ lwg := lwg_3 _ 44 (by decide +kernel) (by decide +kernel)
theorem w_525 : (Jvm.Cond.instanceMethod ({ cls := "ClassPools", name := "join", desc := "()I" } : Jvm.MethodName)) ∈ lwg := lwg_3 _ 45 (by decide +kernel) (by decide +kernel)
theorem w_526 : (Jvm.Cond.selects "ClassPools" ({ cls := "ClassPools", name := "join", desc := "()I" } : Jvm.MethodName) ({ cls := "ClassPools", name := "join", desc := "()I" } : Jvm.MethodName)) ∈ lwg := lwg_3 _ 46 (by decide +kernel) (by decide +kernel)
theorem w_528 : (Jvm.Cond.methodLink "ClassPools" (210 : Nat) ({ cls := "ClassPools$Ranking", name := "clear", desc := "()V" } : Jvm.MethodName)) ∈ lwg := lwg_3 _ 48 (by decide +kernel) (by decide +kernel)
theorem w_529 : (Jvm.Cond.instanceMethod ({ cls := "ClassPools$Ranking", name := "clear", desc := "()V" } : Jvm.MethodName)) ∈ lwg := lwg_3 _ 49 (by decide +kernel) (by decide +kernel)
theorem w_530 : (Jvm.Cond.selects "ClassPools$Ranking" ({ cls := "ClassPools$Ranking", name := "clear", desc := "()V" } : Jvm.MethodName) ({ cls := "ClassPools$Ranking", name := "clear", desc := "()V" } : Jvm.MethodName)) ∈ lwg := lwg_3 _ 50 (by decide +kernel) (by decide +kernel)
theorem w_532 : (Jvm.Cond.methodLink "ClassPools" (211 : Nat) ({ cls := "ClassPools$Ranking", name := "add", desc := "(LClassPools$Pool;)Z" } : Jvm.MethodName)) ∈ lwg := lwg_3 _ 52 (by decide +kernel) (by decide +kernel)
theorem w_533 : (Jvm.Cond.instanceMethod ({ cls := "ClassPools$Ranking", name := "add", desc := "(LClassPools$Pool;)Z" } : Jvm.MethodName)) ∈ lwg := lwg_3 _ 53 (by decide +kernel) (by decide +kernel)
theorem w_534 : (Jvm.Cond.selects "ClassPools$Ranking" ({ cls := "ClassPools$Ranking", name := "add", desc := "(LClassPools$Pool;)Z" } : Jvm.MethodName) ({ cls := "ClassPools$Ranking", name := "add", desc := "(LClassPools$Pool;)Z" } : Jvm.MethodName)) ∈ lwg := lwg_3 _ 54 (by decide +kernel) (by decide +kernel)
theorem w_536 : (Jvm.Cond.methodLink "ClassPools$Ranking" (32 : Nat) ({ cls := "ClassPools$Pool", name := "copy", desc := "(LClassPools$Pool;)V" } : Jvm.MethodName)) ∈ lwg := lwg_3 _ 56 (by decide +kernel) (by decide +kernel)
theorem w_537 : (Jvm.Cond.instanceMethod ({ cls := "ClassPools$Pool", name := "copy", desc := "(LClassPools$Pool;)V" } : Jvm.MethodName)) ∈ lwg := lwg_3 _ 57 (by decide +kernel) (by decide +kernel)
theorem w_538 : (Jvm.Cond.selects "ClassPools$Pool" ({ cls := "ClassPools$Pool", name := "copy", desc := "(LClassPools$Pool;)V" } : Jvm.MethodName) ({ cls := "ClassPools$Pool", name := "copy", desc := "(LClassPools$Pool;)V" } : Jvm.MethodName)) ∈ lwg := lwg_3 _ 58 (by decide +kernel) (by decide +kernel)
theorem w_540 : (Jvm.Cond.methodLink "ClassPools$Pool" (36 : Nat) ({ cls := "ClassPools$Row", name := "size", desc := "()I" } : Jvm.MethodName)) ∈ lwg := lwg_3 _ 60 (by decide +kernel) (by decide +kernel)
theorem w_541 : (Jvm.Cond.methodLink "ClassPools$Pool" (40 : Nat) ({ cls := "ClassPools$Row", name := "take", desc := "(LClassPools$Row;II)I" } : Jvm.MethodName)) ∈ lwg := lwg_3 _ 61 (by decide +kernel) (by decide +kernel)
theorem w_542 : (Jvm.Cond.methodLink "ClassPools$Pool" (44 : Nat) ({ cls := "java/lang/System", name := "arraycopy", desc := "(Ljava/lang/Object;ILjava/lang/Object;II)V" } : Jvm.MethodName)) ∈ lwg := lwg_3 _ 62 (by decide +kernel) (by decide +kernel)
theorem w_543 : (Jvm.Cond.methodLink "ClassPools$Ranking" (36 : Nat) ({ cls := "ClassPools$Pool", name := "places", desc := "()I" } : Jvm.MethodName)) ∈ lwg := lwg_3 _ 63 (by decide +kernel) (by decide +kernel)
theorem w_544 : (Jvm.Cond.methodLink "ClassPools$Ranking" (39 : Nat) ({ cls := "ClassPools$Pool", name := "tag", desc := "(I)I" } : Jvm.MethodName)) ∈ lwg := lwg_3 _ 64 (by decide +kernel) (by decide +kernel)
theorem w_545 : (Jvm.Cond.methodLink "ClassPools$Ranking" (43 : Nat) ({ cls := "ClassPools$Ranking", name := "firstNotBelow", desc := "(LClassPools$Pool;I)I" } : Jvm.MethodName)) ∈ lwg := lwg_3 _ 65 (by decide +kernel) (by decide +kernel)
theorem w_547 : (Jvm.Cond.instanceMethod ({ cls := "ClassPools$Ranking", name := "firstNotBelow", desc := "(LClassPools$Pool;I)I" } : Jvm.MethodName)) ∈ lwg := lwg_3 _ 67 (by decide +kernel) (by decide +kernel)
theorem w_549 : (Jvm.Cond.methodLink "ClassPools$Ranking" (61 : Nat) ({ cls := "ClassPools$Ranking", name := "poolOf", desc := "(I)LClassPools$Pool;" } : Jvm.MethodName)) ∈ lwg := lwg_3 _ 69 (by decide +kernel) (by decide +kernel)
theorem w_551 : (Jvm.Cond.instanceMethod ({ cls := "ClassPools$Ranking", name := "poolOf", desc := "(I)LClassPools$Pool;" } : Jvm.MethodName)) ∈ lwg := lwg_3 _ 71 (by decide +kernel) (by decide +kernel)
theorem w_553 : (Jvm.Cond.methodLink "ClassPools$Ranking" (65 : Nat) ({ cls := "ClassPools$Ranking", name := "placeOf", desc := "(I)I" } : Jvm.MethodName)) ∈ lwg := lwg_3 _ 73 (by decide +kernel) (by decide +kernel)
theorem w_554 : (Jvm.Cond.instanceMethod ({ cls := "ClassPools$Ranking", name := "placeOf", desc := "(I)I" } : Jvm.MethodName)) ∈ lwg := lwg_3 _ 74 (by decide +kernel) (by decide +kernel)
theorem w_555 : (Jvm.Cond.selects "ClassPools$Ranking" ({ cls := "ClassPools$Ranking", name := "placeOf", desc := "(I)I" } : Jvm.MethodName) ({ cls := "ClassPools$Ranking", name := "placeOf", desc := "(I)I" } : Jvm.MethodName)) ∈ lwg := lwg_3 _ 75 (by decide +kernel) (by decide +kernel)
theorem w_557 : (Jvm.Cond.methodLink "ClassPools$Ranking" (68 : Nat) ({ cls := "ClassPools$Pool", name := "order", desc := "(ILClassPools$Pool;I)I" } : Jvm.MethodName)) ∈ lwg := lwg_3 _ 77 (by decide +kernel) (by decide +kernel)
theorem w_558 : (Jvm.Cond.instanceMethod ({ cls := "ClassPools$Pool", name := "order", desc := "(ILClassPools$Pool;I)I" } : Jvm.MethodName)) ∈ lwg := lwg_3 _ 78 (by decide +kernel) (by decide +kernel)
theorem w_559 : (Jvm.Cond.selects "ClassPools$Pool" ({ cls := "ClassPools$Pool", name := "order", desc := "(ILClassPools$Pool;I)I" } : Jvm.MethodName) ({ cls := "ClassPools$Pool", name := "order", desc := "(ILClassPools$Pool;I)I" } : Jvm.MethodName)) ∈ lwg := lwg_3 _ 79 (by decide +kernel) (by decide +kernel)
theorem w_561 : (Jvm.Cond.methodLink "ClassPools$Pool" (81 : Nat) ({ cls := "java/lang/Integer", name := "compare", desc := "(II)I" } : Jvm.MethodName)) ∈ lwg := lwg_3 _ 81 (by decide +kernel) (by decide +kernel)
theorem w_562 : (Jvm.Cond.static ({ cls := "java/lang/Integer", name := "compare", desc := "(II)I" } : Jvm.MethodName)) ∈ lwg := lwg_3 _ 82 (by decide +kernel) (by decide +kernel)
theorem w_565 : (Jvm.Cond.methodLink "ClassPools$Pool" (86 : Nat) ({ cls := "ClassPools$Pool", name := "bits", desc := "(I)J" } : Jvm.MethodName)) ∈ lwg := lwg_3 _ 85 (by decide +kernel) (by decide +kernel)
theorem w_566 : (Jvm.Cond.instanceMethod ({ cls := "ClassPools$Pool", name := "bits", desc := "(I)J" } : Jvm.MethodName)) ∈ lwg := lwg_3 _ 86 (by decide +kernel) (by decide +kernel)
theorem w_567 : (Jvm.Cond.selects "ClassPools$Pool" ({ cls := "ClassPools$Pool", name := "bits", desc := "(I)J" } : Jvm.MethodName) ({ cls := "ClassPools$Pool", name := "bits", desc := "(I)J" } : Jvm.MethodName)) ∈ lwg := lwg_3 _ 87 (by decide +kernel) (by decide +kernel)
theorem w_569 : (Jvm.Cond.methodLink "ClassPools$Pool" (70 : Nat) ({ cls := "ClassPools$Row", name := "four", desc := "(I)I" } : Jvm.MethodName)) ∈ lwg := lwg_3 _ 89 (by decide +kernel) (by decide +kernel)
theorem w_571 : (Jvm.Cond.constantLong "ClassPools$Pool" (76 : Nat) (4294967295 : Int64)) ∈ lwg := lwg_3 _ 91 (by decide +kernel) (by decide +kernel)
theorem w_572 : (Jvm.Cond.methodLink "ClassPools$Pool" (90 : Nat) ({ cls := "java/lang/Long", name := "compare", desc := "(JJ)I" } : Jvm.MethodName)) ∈ lwg := lwg_3 _ 92 (by decide +kernel) (by decide +kernel)
theorem w_573 : (Jvm.Cond.static ({ cls := "java/lang/Long", name := "compare", desc := "(JJ)I" } : Jvm.MethodName)) ∈ lwg := lwg_3 _ 93 (by decide +kernel) (by decide +kernel)
theorem w_575 : (Jvm.Cond.methodLink "ClassPools$Pool" (95 : Nat) ({ cls := "ClassPools$Pool", name := "textOf", desc := "(II)I" } : Jvm.MethodName)) ∈ lwg := lwg_3 _ 95 (by decide +kernel) (by decide +kernel)
theorem w_576 : (Jvm.Cond.methodLink "ClassPools$Pool" (98 : Nat) ({ cls := "ClassPools$Pool", name := "textAt", desc := "(I)I" } : Jvm.MethodName)) ∈ lwg := lwg_3 _ 96 (by decide +kernel) (by decide +kernel)
theorem w_577 : (Jvm.Cond.methodLink "ClassPools$Pool" (78 : Nat) ({ cls := "ClassPools$Pool", name := "textSize", desc := "(I)I" } : Jvm.MethodName)) ∈ lwg := lwg_3 _ 97 (by decide +kernel) (by decide +kernel)
theorem w_578 : (Jvm.Cond.methodLink "ClassPools$Pool" (101 : Nat) ({ cls := "ClassPools$Row", name := "order", desc := "(IILClassPools$Row;II)I" } : Jvm.MethodName)) ∈ lwg := lwg_3 _ 98 (by decide +kernel) (by decide +kernel)
theorem w_579 : (Jvm.Cond.instanceMethod ({ cls := "ClassPools$Row", name := "order", desc := "(IILClassPools$Row;II)I" } : Jvm.MethodName)) ∈ lwg := lwg_3 _ 99 (by decide +kernel) (by decide +kernel)
theorem w_580 : (Jvm.Cond.selects "ClassPools$Row" ({ cls := "ClassPools$Row", name := "order", desc := "(IILClassPools$Row;II)I" } : Jvm.MethodName) ({ cls := "ClassPools$Row", name := "order", desc := "(IILClassPools$Row;II)I" } : Jvm.MethodName)) ∈ lwg := lwg_3 _ 100 (by decide +kernel) (by decide +kernel)
theorem w_582 : (Jvm.Cond.methodLink "ClassPools$Row" (44 : Nat) ({ cls := "java/lang/Math", name := "min", desc := "(II)I" } : Jvm.MethodName)) ∈ lwg := lwg_3 _ 102 (by decide +kernel) (by decide +kernel)
theorem w_583 : (Jvm.Cond.static ({ cls := "java/lang/Math", name := "min", desc := "(II)I" } : Jvm.MethodName)) ∈ lwg := lwg_3 _ 103 (by decide +kernel) (by decide +kernel)
theorem w_585 : (Jvm.Cond.methodLink "ClassPools$Row" (50 : Nat) ({ cls := "ClassPools$Row", name := "one", desc := "(I)I" } : Jvm.MethodName)) ∈ lwg := lwg_3 _ 105 (by decide +kernel) (by decide +kernel)
theorem w_586 : (Jvm.Cond.methodLink "ClassPools$Row" (53 : Nat) ({ cls := "java/lang/Integer", name := "compare", desc := "(II)I" } : Jvm.MethodName)) ∈ lwg := lwg_3 _ 106 (by decide +kernel) (by decide +kernel)
theorem w_587 : (Jvm.Cond.methodLink "ClassPools$Ranking" (47 : Nat) ({ cls := "ClassPools$Ranking", name := "orderOf", desc := "(ILClassPools$Pool;I)I" } : Jvm.MethodName)) ∈ lwg := lwg_3 _ 107 (by decide +kernel) (by decide +kernel)
theorem w_589 : (Jvm.Cond.instanceMethod ({ cls := "ClassPools$Ranking", name := "orderOf", desc := "(ILClassPools$Pool;I)I" } : Jvm.MethodName)) ∈ lwg := lwg_3 _ 109 (by decide +kernel) (by decide +kernel)
theorem w_591 : (Jvm.Cond.methodLink "ClassPools$Ranking" (51 : Nat) ({ cls := "ClassPools$Ranking", name := "insert", desc := "(II)Z" } : Jvm.MethodName)) ∈ lwg := lwg_3 _ 111 (by decide +kernel) (by decide +kernel)
theorem w_593 : (Jvm.Cond.instanceMethod ({ cls := "ClassPools$Ranking", name := "insert", desc := "(II)Z" } : Jvm.MethodName)) ∈ lwg := lwg_3 _ 113 (by decide +kernel) (by decide +kernel)
theorem w_595 : (Jvm.Cond.methodLink "ClassPools$Ranking" (55 : Nat) ({ cls := "java/lang/System", name := "arraycopy", desc := "(Ljava/lang/Object;ILjava/lang/Object;II)V" } : Jvm.MethodName)) ∈ lwg := lwg_3 _ 115 (by decide +kernel) (by decide +kernel)
theorem w_596 : (Jvm.Cond.methodLink "ClassPools" (215 : Nat) ({ cls := "ClassPools$Ranking", name := "size", desc := "()I" } : Jvm.MethodName)) ∈ lwg := lwg_3 _ 116 (by decide +kernel) (by decide +kernel)
theorem w_597 : (Jvm.Cond.instanceMethod ({ cls := "ClassPools$Ranking", name := "size", desc := "()I" } : Jvm.MethodName)) ∈ lwg := lwg_3 _ 117 (by decide +kernel) (by decide +kernel)
theorem w_598 : (Jvm.Cond.selects "ClassPools$Ranking" ({ cls := "ClassPools$Ranking", name := "size", desc := "()I" } : Jvm.MethodName) ({ cls := "ClassPools$Ranking", name := "size", desc := "()I" } : Jvm.MethodName)) ∈ lwg := lwg_3 _ 118 (by decide +kernel) (by decide +kernel)
theorem w_600 : (Jvm.Cond.methodLink "ClassPoolsLaw" (91 : Nat) ({ cls := "ClassPools", name := "joined", desc := "(II)I" } : Jvm.MethodName)) ∈ lwg := lwg_3 _ 120 (by decide +kernel) (by decide +kernel)
theorem w_601 : (Jvm.Cond.instanceMethod ({ cls := "ClassPools", name := "joined", desc := "(II)I" } : Jvm.MethodName)) ∈ lwg := lwg_3 _ 121 (by decide +kernel) (by decide +kernel)
theorem w_602 : (Jvm.Cond.selects "ClassPools" ({ cls := "ClassPools", name := "joined", desc := "(II)I" } : Jvm.MethodName) ({ cls := "ClassPools", name := "joined", desc := "(II)I" } : Jvm.MethodName)) ∈ lwg := lwg_3 _ 122 (by decide +kernel) (by decide +kernel)
theorem w_604 : (Jvm.Cond.methodLink "ClassPools" (216 : Nat) ({ cls := "ClassPools$Ranking", name := "find", desc := "(LClassPools$Pool;I)I" } : Jvm.MethodName)) ∈ lwg := lwg_3 _ 124 (by decide +kernel) (by decide +kernel)
theorem w_605 : (Jvm.Cond.instanceMethod ({ cls := "ClassPools$Ranking", name := "find", desc := "(LClassPools$Pool;I)I" } : Jvm.MethodName)) ∈ lwg := lwg_3 _ 125 (by decide +kernel) (by decide +kernel)
theorem w_606 : (Jvm.Cond.selects "ClassPools$Ranking" ({ cls := "ClassPools$Ranking", name := "find", desc := "(LClassPools$Pool;I)I" } : Jvm.MethodName) ({ cls := "ClassPools$Ranking", name := "find", desc := "(LClassPools$Pool;I)I" } : Jvm.MethodName)) ∈ lwg := lwg_3 _ 126 (by decide +kernel) (by decide +kernel)
theorem w_608 : (Jvm.Cond.methodLink "ClassPoolsLaw" (95 : Nat) ({ cls := "ClassPools", name := "meaning", desc := "(II)I" } : Jvm.MethodName)) ∈ lwg := lwg_3 _ 128 (by decide +kernel) (by decide +kernel)
theorem w_609 : (Jvm.Cond.instanceMethod ({ cls := "ClassPools", name := "meaning", desc := "(II)I" } : Jvm.MethodName)) ∈ lwg := lwg_3 _ 129 (by decide +kernel) (by decide +kernel)
theorem w_610 : (Jvm.Cond.selects "ClassPools" ({ cls := "ClassPools", name := "meaning", desc := "(II)I" } : Jvm.MethodName) ({ cls := "ClassPools", name := "meaning", desc := "(II)I" } : Jvm.MethodName)) ∈ lwg := lwg_3 _ 130 (by decide +kernel) (by decide +kernel)
theorem w_612 : (Jvm.Cond.methodLink "ClassPools" (220 : Nat) ({ cls := "ClassPools$Ranking", name := "tag", desc := "(I)I" } : Jvm.MethodName)) ∈ lwg := lwg_3 _ 132 (by decide +kernel) (by decide +kernel)
theorem w_613 : (Jvm.Cond.instanceMethod ({ cls := "ClassPools$Ranking", name := "tag", desc := "(I)I" } : Jvm.MethodName)) ∈ lwg := lwg_3 _ 133 (by decide +kernel) (by decide +kernel)
theorem w_614 : (Jvm.Cond.selects "ClassPools$Ranking" ({ cls := "ClassPools$Ranking", name := "tag", desc := "(I)I" } : Jvm.MethodName) ({ cls := "ClassPools$Ranking", name := "tag", desc := "(I)I" } : Jvm.MethodName)) ∈ lwg := lwg_3 _ 134 (by decide +kernel) (by decide +kernel)
theorem w_616 : (Jvm.Cond.methodLink "ClassPools" (221 : Nat) ({ cls := "ClassPools", name := "placesOf", desc := "(I)I" } : Jvm.MethodName)) ∈ lwg := lwg_3 _ 136 (by decide +kernel) (by decide +kernel)
theorem w_618 : (Jvm.Cond.instanceMethod ({ cls := "ClassPools", name := "placesOf", desc := "(I)I" } : Jvm.MethodName)) ∈ lwg := lwg_3 _ 138 (by decide +kernel) (by decide +kernel)
theorem w_620 : (Jvm.Cond.methodLink "ClassPools" (242 : Nat) ({ cls := "ClassPools$Ranking", name := "tally", desc := "(ILClassPools$Pool;)I" } : Jvm.MethodName)) ∈ lwg := lwg_3 _ 140 (by decide +kernel) (by decide +kernel)
theorem w_621 : (Jvm.Cond.instanceMethod ({ cls := "ClassPools$Ranking", name := "tally", desc := "(ILClassPools$Pool;)I" } : Jvm.MethodName)) ∈ lwg := lwg_3 _ 141 (by decide +kernel) (by decide +kernel)
theorem w_622 : (Jvm.Cond.selects "ClassPools$Ranking" ({ cls := "ClassPools$Ranking", name := "tally", desc := "(ILClassPools$Pool;)I" } : Jvm.MethodName) ({ cls := "ClassPools$Ranking", name := "tally", desc := "(ILClassPools$Pool;)I" } : Jvm.MethodName)) ∈ lwg := lwg_3 _ 142 (by decide +kernel) (by decide +kernel)
theorem w_624 : (Jvm.Cond.methodLink "ClassPoolsLaw" (99 : Nat) ({ cls := "ClassPools", name := "alike", desc := "(II)I" } : Jvm.MethodName)) ∈ lwg := lwg_3 _ 144 (by decide +kernel) (by decide +kernel)
theorem w_625 : (Jvm.Cond.instanceMethod ({ cls := "ClassPools", name := "alike", desc := "(II)I" } : Jvm.MethodName)) ∈ lwg := lwg_3 _ 145 (by decide +kernel) (by decide +kernel)
theorem w_626 : (Jvm.Cond.selects "ClassPools" ({ cls := "ClassPools", name := "alike", desc := "(II)I" } : Jvm.MethodName) ({ cls := "ClassPools", name := "alike", desc := "(II)I" } : Jvm.MethodName)) ∈ lwg := lwg_3 _ 146 (by decide +kernel) (by decide +kernel)
theorem w_628 : (Jvm.Cond.methodLink "ClassPools" (224 : Nat) ({ cls := "ClassPools$Row", name := "order", desc := "(IILClassPools$Row;II)I" } : Jvm.MethodName)) ∈ lwg := lwg_3 _ 148 (by decide +kernel) (by decide +kernel)
theorem w_629 : (Jvm.Cond.methodLink "ClassPools" (228 : Nat) ({ cls := "ClassPools$ClassFile", name := "meansAs", desc := "(LClassPools$ClassFile;)Z" } : Jvm.MethodName)) ∈ lwg := lwg_3 _ 149 (by decide +kernel) (by decide +kernel)
theorem w_630 : (Jvm.Cond.instanceMethod ({ cls := "ClassPools$ClassFile", name := "meansAs", desc := "(LClassPools$ClassFile;)Z" } : Jvm.MethodName)) ∈ lwg := lwg_3 _ 150 (by decide +kernel) (by decide +kernel)
theorem w_631 : (Jvm.Cond.selects "ClassPools$ClassFile" ({ cls := "ClassPools$ClassFile", name := "meansAs", desc := "(LClassPools$ClassFile;)Z" } : Jvm.MethodName) ({ cls := "ClassPools$ClassFile", name := "meansAs", desc := "(LClassPools$ClassFile;)Z" } : Jvm.MethodName)) ∈ lwg := lwg_3 _ 151 (by decide +kernel) (by decide +kernel)
theorem w_633 : (Jvm.Cond.methodLink "ClassPools$ClassFile" (91 : Nat) ({ cls := "ClassPools$ClassFile", name := "firstBehind", desc := "()I" } : Jvm.MethodName)) ∈ lwg := lwg_3 _ 153 (by decide +kernel) (by decide +kernel)
theorem w_634 : (Jvm.Cond.instanceMethod ({ cls := "ClassPools$ClassFile", name := "firstBehind", desc := "()I" } : Jvm.MethodName)) ∈ lwg := lwg_3 _ 154 (by decide +kernel) (by decide +kernel)
theorem w_635 : (Jvm.Cond.selects "ClassPools$ClassFile" ({ cls := "ClassPools$ClassFile", name := "firstBehind", desc := "()I" } : Jvm.MethodName) ({ cls := "ClassPools$ClassFile", name := "firstBehind", desc := "()I" } : Jvm.MethodName)) ∈ lwg := lwg_3 _ 155 (by decide +kernel) (by decide +kernel)
theorem w_637 : (Jvm.Cond.methodLink "ClassPools$ClassFile" (68 : Nat) ({ cls := "ClassPools$ClassFile", name := "tellAt", desc := "(I)I" } : Jvm.MethodName)) ∈ lwg := lwg_3 _ 157 (by decide +kernel) (by decide +kernel)
theorem w_638 : (Jvm.Cond.methodLink "ClassPools$ClassFile" (94 : Nat) ({ cls := "ClassPools$Row", name := "order", desc := "(IILClassPools$Row;II)I" } : Jvm.MethodName)) ∈ lwg := lwg_3 _ 158 (by decide +kernel) (by decide +kernel)
theorem w_639 : (Jvm.Cond.methodLink "ClassPools$ClassFile" (98 : Nat) ({ cls := "ClassPools$Pool", name := "order", desc := "(ILClassPools$Pool;I)I" } : Jvm.MethodName)) ∈ lwg := lwg_3 _ 159 (by decide +kernel) (by decide +kernel)
theorem w_640 : (Jvm.Cond.methodLink "ClassPoolsLaw" (103 : Nat) ({ cls := "ClassPools", name := "write", desc := "(II)I" } : Jvm.MethodName)) ∈ lwg := lwg_3 _ 160 (by decide +kernel) (by decide +kernel)
theorem w_641 : (Jvm.Cond.instanceMethod ({ cls := "ClassPools", name := "write", desc := "(II)I" } : Jvm.MethodName)) ∈ lwg := lwg_3 _ 161 (by decide +kernel) (by decide +kernel)
theorem w_642 : (Jvm.Cond.selects "ClassPools" ({ cls := "ClassPools", name := "write", desc := "(II)I" } : Jvm.MethodName) ({ cls := "ClassPools", name := "write", desc := "(II)I" } : Jvm.MethodName)) ∈ lwg := lwg_3 _ 162 (by decide +kernel) (by decide +kernel)
theorem w_644 : (Jvm.Cond.methodLink "ClassPools" (232 : Nat) ({ cls := "ClassPools$Writer", name := "movePlaces", desc := "(LClassPools$ClassFile;LClassPools$Ranking;)I" } : Jvm.MethodName)) ∈ lwg := lwg_3 _ 164 (by decide +kernel) (by decide +kernel)
theorem w_645 : (Jvm.Cond.instanceMethod ({ cls := "ClassPools$Writer", name := "movePlaces", desc := "(LClassPools$ClassFile;LClassPools$Ranking;)I" } : Jvm.MethodName)) ∈ lwg := lwg_3 _ 165 (by decide +kernel) (by decide +kernel)
theorem w_646 : (Jvm.Cond.selects "ClassPools$Writer" ({ cls := "ClassPools$Writer", name := "movePlaces", desc := "(LClassPools$ClassFile;LClassPools$Ranking;)I" } : Jvm.MethodName) ({ cls := "ClassPools$Writer", name := "movePlaces", desc := "(LClassPools$ClassFile;LClassPools$Ranking;)I" } : Jvm.MethodName)) ∈ lwg := lwg_3 _ 166 (by decide +kernel) (by decide +kernel)
theorem w_648 : (Jvm.Cond.methodLink "ClassPools$Writer" (18 : Nat) ({ cls := "ClassPools$Ranking", name := "size", desc := "()I" } : Jvm.MethodName)) ∈ lwg := lwg_3 _ 168 (by decide +kernel) (by decide +kernel)
theorem w_649 : (Jvm.Cond.methodLink "ClassPools$Writer" (24 : Nat) ({ cls := "ClassPools$Ranking", name := "tag", desc := "(I)I" } : Jvm.MethodName)) ∈ lwg := lwg_3 _ 169 (by decide +kernel) (by decide +kernel)
theorem w_651 : (Jvm.Cond.methodLink "ClassPools$Writer" (38 : Nat) ({ cls := "ClassPools$Pool", name := "places", desc := "()I" } : Jvm.MethodName)) ∈ lwg := lwg_3 _ 171 (by decide +kernel) (by decide +kernel)
theorem w_652 : (Jvm.Cond.methodLink "ClassPools$Writer" (43 : Nat) ({ cls := "ClassPools$Pool", name := "tag", desc := "(I)I" } : Jvm.MethodName)) ∈ lwg := lwg_3 _ 172 (by decide +kernel) (by decide +kernel)
theorem w_653 : (Jvm.Cond.methodLink "ClassPools$Writer" (44 : Nat) ({ cls := "ClassPools$Ranking", name := "find", desc := "(LClassPools$Pool;I)I" } : Jvm.MethodName)) ∈ lwg := lwg_3 _ 173 (by decide +kernel) (by decide +kernel)
theorem w_654 : (Jvm.Cond.methodLink "ClassPools" (236 : Nat) ({ cls := "ClassPools$Writer", name := "push", desc := "(LClassPools$ClassFile;LClassPools$Ranking;ILClassPools$Row;)I" } : Jvm.MethodName)) ∈ lwg := lwg_3 _ 174 (by decide +kernel) (by decide +kernel)
theorem w_655 : (Jvm.Cond.instanceMethod ({ cls := "ClassPools$Writer", name := "push", desc := "(LClassPools$ClassFile;LClassPools$Ranking;ILClassPools$Row;)I" } : Jvm.MethodName)) ∈ lwg := lwg_3 _ 175 (by decide +kernel) (by decide +kernel)
theorem w_656 : (Jvm.Cond.selects "ClassPools$Writer" ({ cls := "ClassPools$Writer", name := "push", desc := "(LClassPools$ClassFile;LClassPools$Ranking;ILClassPools$Row;)I" } : Jvm.MethodName) ({ cls := "ClassPools$Writer", name := "push", desc := "(LClassPools$ClassFile;LClassPools$Ranking;ILClassPools$Row;)I" } : Jvm.MethodName)) ∈ lwg := lwg_3 _ 176 (by decide +kernel) (by decide +kernel)
theorem w_658 : (Jvm.Cond.methodLink "ClassPools$Writer" (52 : Nat) ({ cls := "ClassPools$Row", name := "take", desc := "(LClassPools$Row;II)I" } : Jvm.MethodName)) ∈ lwg := lwg_3 _ 178 (by decide +kernel) (by decide +kernel)
theorem w_659 : (Jvm.Cond.methodLink "ClassPools$Writer" (58 : Nat) ({ cls := "ClassPools$Row", name := "pushTwo", desc := "(I)V" } : Jvm.MethodName)) ∈ lwg := lwg_3 _ 179 (by decide +kernel) (by decide +kernel)
theorem w_660 : (Jvm.Cond.instanceMethod ({ cls := "ClassPools$Row", name := "pushTwo", desc := "(I)V" } : Jvm.MethodName)) ∈ lwg := lwg_3 _ 180 (by decide +kernel) (by decide +kernel)
theorem w_661 : (Jvm.Cond.selects "ClassPools$Row" ({ cls := "ClassPools$Row", name := "pushTwo", desc := "(I)V" } : Jvm.MethodName) ({ cls := "ClassPools$Row", name := "pushTwo", desc := "(I)V" } : Jvm.MethodName)) ∈ lwg := lwg_3 _ 181 (by decide +kernel) (by decide +kernel)
theorem w_663 : (Jvm.Cond.methodLink "ClassPools$Row" (23 : Nat) ({ cls := "ClassPools$Row", name := "push", desc := "(I)V" } : Jvm.MethodName)) ∈ lwg := lwg_3 _ 183 (by decide +kernel) (by decide +kernel)
theorem w_664 : (Jvm.Cond.methodLink "ClassPools$Writer" (62 : Nat) ({ cls := "ClassPools$Ranking", name := "placeOf", desc := "(I)I" } : Jvm.MethodName)) ∈ lwg := lwg_3 _ 184 (by decide +kernel) (by decide +kernel)
theorem w_665 : (Jvm.Cond.methodLink "ClassPools$Writer" (65 : Nat) ({ cls := "ClassPools$Writer", name := "pushEntry", desc := "(LClassPools$Pool;ILClassPools$Row;)V" } : Jvm.MethodName)) ∈ lwg := lwg_3 _ 185 (by decide +kernel) (by decide +kernel)
theorem w_667 : (Jvm.Cond.instanceMethod ({ cls := "ClassPools$Writer", name := "pushEntry", desc := "(LClassPools$Pool;ILClassPools$Row;)V" } : Jvm.MethodName)) ∈ lwg := lwg_3 _ 187 (by decide +kernel) (by decide +kernel)
theorem w_669 : (Jvm.Cond.methodLink "ClassPools$Writer" (73 : Nat) ({ cls := "ClassPools$Row", name := "size", desc := "()I" } : Jvm.MethodName)) ∈ lwg := lwg_3 _ 189 (by decide +kernel) (by decide +kernel)
theorem w_670 : (Jvm.Cond.methodLink "ClassPools$Writer" (75 : Nat) ({ cls := "ClassPools$Pool", name := "start", desc := "(I)I" } : Jvm.MethodName)) ∈ lwg := lwg_3 _ 190 (by decide +kernel) (by decide +kernel)
theorem w_671 : (Jvm.Cond.methodLink "ClassPools$Writer" (78 : Nat) ({ cls := "ClassPools$Pool", name := "bytesOf", desc := "(I)I" } : Jvm.MethodName)) ∈ lwg := lwg_3 _ 191 (by decide +kernel) (by decide +kernel)
theorem w_672 : (Jvm.Cond.instanceMethod ({ cls := "ClassPools$Pool", name := "bytesOf", desc := "(I)I" } : Jvm.MethodName)) ∈ lwg := lwg_3 _ 192 (by decide +kernel) (by decide +kernel)
theorem w_673 : (Jvm.Cond.selects "ClassPools$Pool" ({ cls := "ClassPools$Pool", name := "bytesOf", desc := "(I)I" } : Jvm.MethodName) ({ cls := "ClassPools$Pool", name := "bytesOf", desc := "(I)I" } : Jvm.MethodName)) ∈ lwg := lwg_3 _ 193 (by decide +kernel) (by decide +kernel)
theorem w_675 : (Jvm.Cond.methodLink "ClassPools$Writer" (81 : Nat) ({ cls := "ClassPools$Row", name := "append", desc := "(LClassPools$Row;II)V" } : Jvm.MethodName)) ∈ lwg := lwg_3 _ 195 (by decide +kernel) (by decide +kernel)
theorem w_676 : (Jvm.Cond.methodLink "ClassPools$Writer" (85 : Nat) ({ cls := "ClassPools$Pool", name := "first", desc := "(I)I" } : Jvm.MethodName)) ∈ lwg := lwg_3 _ 196 (by decide +kernel) (by decide +kernel)
theorem w_677 : (Jvm.Cond.methodLink "ClassPools$Writer" (88 : Nat) ({ cls := "ClassPools$Writer", name := "movedTo", desc := "(I)I" } : Jvm.MethodName)) ∈ lwg := lwg_3 _ 197 (by decide +kernel) (by decide +kernel)
theorem w_679 : (Jvm.Cond.instanceMethod ({ cls := "ClassPools$Writer", name := "movedTo", desc := "(I)I" } : Jvm.MethodName)) ∈ lwg := lwg_3 _ 199 (by decide +kernel) (by decide +kernel)
theorem w_681 : (Jvm.Cond.methodLink "ClassPools$Writer" (91 : Nat) ({ cls := "ClassPools$Row", name := "putTwo", desc := "(II)V" } : Jvm.MethodName)) ∈ lwg := lwg_3 _ 201 (by decide +kernel) (by decide +kernel)
theorem w_682 : (Jvm.Cond.instanceMethod ({ cls := "ClassPools$Row", name := "putTwo", desc := "(II)V" } : Jvm.MethodName)) ∈ lwg := lwg_3 _ 202 (by decide +kernel) (by decide +kernel)
theorem w_683 : (Jvm.Cond.selects "ClassPools$Row" ({ cls := "ClassPools$Row", name := "putTwo", desc := "(II)V" } : Jvm.MethodName) ({ cls := "ClassPools$Row", name := "putTwo", desc := "(II)V" } : Jvm.MethodName)) ∈ lwg := lwg_3 _ 203 (by decide +kernel) (by decide +kernel)
theorem w_685 : (Jvm.Cond.methodLink "ClassPools$Writer" (95 : Nat) ({ cls := "ClassPools$Pool", name := "second", desc := "(I)I" } : Jvm.MethodName)) ∈ lwg := lwg_3 _ 205 (by decide +kernel) (by decide +kernel)
theorem w_686 : (Jvm.Cond.methodLink "ClassPools$Writer" (69 : Nat) ({ cls := "ClassPools$Writer", name := "pushRest", desc := "(LClassPools$ClassFile;LClassPools$Row;)V" } : Jvm.MethodName)) ∈ lwg := lwg_3 _ 206 (by decide +kernel) (by decide +kernel)
theorem w_688 : (Jvm.Cond.instanceMethod ({ cls := "ClassPools$Writer", name := "pushRest", desc := "(LClassPools$ClassFile;LClassPools$Row;)V" } : Jvm.MethodName)) ∈ lwg := lwg_3 _ 208 (by decide +kernel) (by decide +kernel)
theorem w_690 : (Jvm.Cond.methodLink "ClassPools$Writer" (102 : Nat) ({ cls := "ClassPools$ClassFile", name := "firstBehind", desc := "()I" } : Jvm.MethodName)) ∈ lwg := lwg_3 _ 210 (by decide +kernel) (by decide +kernel)
theorem w_691 : (Jvm.Cond.methodLink "ClassPools$Writer" (105 : Nat) ({ cls := "ClassPools$ClassFile", name := "tellCount", desc := "()I" } : Jvm.MethodName)) ∈ lwg := lwg_3 _ 211 (by decide +kernel) (by decide +kernel)
theorem w_692 : (Jvm.Cond.methodLink "ClassPools$Writer" (108 : Nat) ({ cls := "ClassPools$ClassFile", name := "tellAt", desc := "(I)I" } : Jvm.MethodName)) ∈ lwg := lwg_3 _ 212 (by decide +kernel) (by decide +kernel)
theorem w_693 : (Jvm.Cond.methodLink "ClassPools$Writer" (111 : Nat) ({ cls := "ClassPools$Row", name := "two", desc := "(I)I" } : Jvm.MethodName)) ∈ lwg := lwg_3 _ 213 (by decide +kernel) (by decide +kernel)
theorem w_694 : (Jvm.Cond.methodLink "ClassPoolsLaw" (107 : Nat) ({ cls := "ClassPools", name := "back", desc := "()I" } : Jvm.MethodName)) ∈ lwg := lwg_3 _ 214 (by decide +kernel) (by decide +kernel)
theorem w_695 : (Jvm.Cond.instanceMethod ({ cls := "ClassPools", name := "back", desc := "()I" } : Jvm.MethodName)) ∈ lwg := lwg_3 _ 215 (by decide +kernel) (by decide +kernel)
theorem w_696 : (Jvm.Cond.selects "ClassPools" ({ cls := "ClassPools", name := "back", desc := "()I" } : Jvm.MethodName) ({ cls := "ClassPools", name := "back", desc := "()I" } : Jvm.MethodName)) ∈ lwg := lwg_3 _ 216 (by decide +kernel) (by decide +kernel)
theorem w_698 : (Jvm.Cond.methodLink "ClassPoolsLaw" (56 : Nat) ({ cls := "ClassPoolsLaw", name := "number", desc := "(LClassPools;II[J)I" } : Jvm.MethodName)) ∈ lwg := lwg_3 _ 218 (by decide +kernel) (by decide +kernel)
theorem w_699 : (Jvm.Cond.static ({ cls := "ClassPoolsLaw", name := "number", desc := "(LClassPools;II[J)I" } : Jvm.MethodName)) ∈ lwg := lwg_3 _ 219 (by decide +kernel) (by decide +kernel)
theorem w_700 : (Jvm.Cond.codeWith ({ cls := "ClassPoolsLaw", name := "number", desc := "(LClassPools;II[J)I" } : Jvm.MethodName) method_3_code (5 : Nat) (Option.some Jvm.ClassFile.FieldType.int) [((0 : Nat), (9 : Nat), (12 : Nat), (13 : Nat)), ((0 : Nat), (9 : Nat), (16 : Nat), (15 : Nat)), ((0 : Nat), (9 : Nat), (20 : Nat), (17 : Nat)), ((0 : Nat), (9 : Nat), (24 : Nat), (19 : Nat))]) ∈ lwg := lwg_3 _ 220 (by decide +kernel) (by decide +kernel)
theorem w_873 : (Jvm.Cond.classLink "ClassPoolsLaw" (22 : Nat) "ClassPoolsModel") ∈ lwg := lwg_4 _ 153 (by decide +kernel) (by decide +kernel)
theorem w_874 : (Jvm.Cond.instantiable "ClassPoolsModel" (17 : Nat)) ∈ lwg := lwg_4 _ 154 (by decide +kernel) (by decide +kernel)
theorem w_875 : (Jvm.Cond.methodLink "ClassPoolsLaw" (24 : Nat) ({ cls := "ClassPoolsModel", name := "<init>", desc := "()V" } : Jvm.MethodName)) ∈ lwg := lwg_4 _ 155 (by decide +kernel) (by decide +kernel)
theorem w_876 : (Jvm.Cond.instanceMethod ({ cls := "ClassPoolsModel", name := "<init>", desc := "()V" } : Jvm.MethodName)) ∈ lwg := lwg_4 _ 156 (by decide +kernel) (by decide +kernel)
theorem w_878 : (Jvm.Cond.methodLink "ClassPoolsModel" (1 : Nat) ({ cls := "java/lang/Object", name := "<init>", desc := "()V" } : Jvm.MethodName)) ∈ lwg := lwg_4 _ 158 (by decide +kernel) (by decide +kernel)
theorem w_879 : (Jvm.Cond.classLink "ClassPoolsModel" (9 : Nat) "ClassPoolsModel$HeldFile") ∈ lwg := lwg_4 _ 159 (by decide +kernel) (by decide +kernel)
theorem w_881 : (Jvm.Cond.classLink "ClassPoolsModel" (26 : Nat) "ClassPoolsModel$Meaning") ∈ lwg := lwg_4 _ 161 (by decide +kernel) (by decide +kernel)
theorem w_883 : (Jvm.Cond.fieldLink "ClassPoolsModel" (39 : Nat) "ClassPoolsModel" "code" "I") ∈ lwg := lwg_4 _ 163 (by decide +kernel) (by decide +kernel)
theorem w_884 : (Jvm.Cond.fieldLink "ClassPoolsModel" (11 : Nat) "ClassPoolsModel" "files" "[LClassPoolsModel$HeldFile;") ∈ lwg := lwg_4 _ 164 (by decide +kernel) (by decide +kernel)
theorem w_885 : (Jvm.Cond.fieldLink "ClassPoolsModel" (42 : Nat) "ClassPoolsModel" "count" "I") ∈ lwg := lwg_4 _ 165 (by decide +kernel) (by decide +kernel)
theorem w_886 : (Jvm.Cond.fieldLink "ClassPoolsModel" (15 : Nat) "ClassPoolsModel" "tape" "[B") ∈ lwg := lwg_4 _ 166 (by decide +kernel) (by decide +kernel)
theorem w_887 : (Jvm.Cond.fieldLink "ClassPoolsModel" (49 : Nat) "ClassPoolsModel" "taped" "I") ∈ lwg := lwg_4 _ 167 (by decide +kernel) (by decide +kernel)
theorem w_888 : (Jvm.Cond.fieldLink "ClassPoolsModel" (19 : Nat) "ClassPoolsModel" "out" "[B") ∈ lwg := lwg_4 _ 168 (by decide +kernel) (by decide +kernel)
theorem w_889 : (Jvm.Cond.fieldLink "ClassPoolsModel" (55 : Nat) "ClassPoolsModel" "now" "LClassPoolsModel$HeldFile;") ∈ lwg := lwg_4 _ 169 (by decide +kernel) (by decide +kernel)
theorem w_890 : (Jvm.Cond.fieldLink "ClassPoolsModel" (62 : Nat) "ClassPoolsModel" "at" "I") ∈ lwg := lwg_4 _ 170 (by decide +kernel) (by decide +kernel)
theorem w_891 : (Jvm.Cond.fieldLink "ClassPoolsModel" (52 : Nat) "ClassPoolsModel" "fault" "I") ∈ lwg := lwg_4 _ 171 (by decide +kernel) (by decide +kernel)
theorem w_892 : (Jvm.Cond.fieldLink "ClassPoolsModel" (22 : Nat) "ClassPoolsModel" "faultPlace" "I") ∈ lwg := lwg_4 _ 172 (by decide +kernel) (by decide +kernel)
theorem w_893 : (Jvm.Cond.fieldLink "ClassPoolsModel" (28 : Nat) "ClassPoolsModel" "joined" "[LClassPoolsModel$Meaning;") ∈ lwg := lwg_4 _ 173 (by decide +kernel) (by decide +kernel)
theorem w_894 : (Jvm.Cond.fieldLink "ClassPoolsModel" (238 : Nat) "ClassPoolsModel" "joinedCount" "I") ∈ lwg := lwg_4 _ 174 (by decide +kernel) (by decide +kernel)
theorem w_895 : (Jvm.Cond.fieldLink "ClassPoolsModel" (32 : Nat) "ClassPoolsModel" "made" "[B") ∈ lwg := lwg_4 _ 175 (by decide +kernel) (by decide +kernel)
theorem w_896 : (Jvm.Cond.fieldLink "ClassPoolsModel" (266 : Nat) "ClassPoolsModel" "madeSize" "I") ∈ lwg := lwg_4 _ 176 (by decide +kernel) (by decide +kernel)
theorem w_897 : (Jvm.Cond.fieldLink "ClassPoolsModel" (276 : Nat) "ClassPoolsModel" "ordered" "[LClassPoolsModel$Meaning;") ∈ lwg := lwg_4 _ 177 (by decide +kernel) (by decide +kernel)
theorem w_898 : (Jvm.Cond.fieldLink "ClassPoolsModel" (279 : Nat) "ClassPoolsModel" "orderedCount" "I") ∈ lwg := lwg_4 _ 178 (by decide +kernel) (by decide +kernel)
theorem w_899 : (Jvm.Cond.fieldLink "ClassPoolsModel" (35 : Nat) "ClassPoolsModel" "newPlaces" "[I") ∈ lwg := lwg_4 _ 179 (by decide +kernel) (by decide +kernel)
theorem w_935 : (Jvm.Cond.methodLink "ClassPoolsLaw" (62 : Nat) ({ cls := "ClassPoolsModel", name := "thrown", desc := "()I" } : Jvm.MethodName)) ∈ lwg := lwg_4 _ 215 (by decide +kernel) (by decide +kernel)
theorem w_936 : (Jvm.Cond.instanceMethod ({ cls := "ClassPoolsModel", name := "thrown", desc := "()I" } : Jvm.MethodName)) ∈ lwg := lwg_4 _ 216 (by decide +kernel) (by decide +kernel)
theorem w_937 : (Jvm.Cond.selects "ClassPoolsModel" ({ cls := "ClassPoolsModel", name := "thrown", desc := "()I" } : Jvm.MethodName) ({ cls := "ClassPoolsModel", name := "thrown", desc := "()I" } : Jvm.MethodName)) ∈ lwg := lwg_4 _ 217 (by decide +kernel) (by decide +kernel)
theorem w_939 : (Jvm.Cond.methodLink "ClassPoolsLaw" (31 : Nat) ({ cls := "ClassPoolsModel", name := "feed", desc := "(JI)I" } : Jvm.MethodName)) ∈ lwg := lwg_4 _ 219 (by decide +kernel) (by decide +kernel)
theorem w_940 : (Jvm.Cond.instanceMethod ({ cls := "ClassPoolsModel", name := "feed", desc := "(JI)I" } : Jvm.MethodName)) ∈ lwg := lwg_4 _ 220 (by decide +kernel) (by decide +kernel)
theorem w_941 : (Jvm.Cond.selects "ClassPoolsModel" ({ cls := "ClassPoolsModel", name := "feed", desc := "(JI)I" } : Jvm.MethodName) ({ cls := "ClassPoolsModel", name := "feed", desc := "(JI)I" } : Jvm.MethodName)) ∈ lwg := lwg_4 _ 221 (by decide +kernel) (by decide +kernel)
theorem w_943 : (Jvm.Cond.methodLink "ClassPoolsModel" (45 : Nat) ({ cls := "ClassPoolsModel", name := "isIn", desc := "(III)Z" } : Jvm.MethodName)) ∈ lwg := lwg_4 _ 223 (by decide +kernel) (by decide +kernel)
theorem w_944 : (Jvm.Cond.static ({ cls := "ClassPoolsModel", name := "isIn", desc := "(III)Z" } : Jvm.MethodName)) ∈ lwg := lwg_4 _ 224 (by decide +kernel) (by decide +kernel)
theorem w_946 : (Jvm.Cond.methodLink "ClassPoolsLaw" (36 : Nat) ({ cls := "ClassPoolsModel", name := "read", desc := "()I" } : Jvm.MethodName)) ∈ lwg := lwg_4 _ 226 (by decide +kernel) (by decide +kernel)
theorem w_947 : (Jvm.Cond.instanceMethod ({ cls := "ClassPoolsModel", name := "read", desc := "()I" } : Jvm.MethodName)) ∈ lwg := lwg_4 _ 227 (by decide +kernel) (by decide +kernel)
theorem w_948 : (Jvm.Cond.selects "ClassPoolsModel" ({ cls := "ClassPoolsModel", name := "read", desc := "()I" } : Jvm.MethodName) ({ cls := "ClassPoolsModel", name := "read", desc := "()I" } : Jvm.MethodName)) ∈ lwg := lwg_4 _ 228 (by decide +kernel) (by decide +kernel)
theorem w_950 : (Jvm.Cond.instantiable "ClassPoolsModel$HeldFile" (10 : Nat)) ∈ lwg := lwg_4 _ 230 (by decide +kernel) (by decide +kernel)
theorem w_952 : (Jvm.Cond.instanceMethod ({ cls := "ClassPoolsModel$HeldFile", name := "<init>", desc := "()V" } : Jvm.MethodName)) ∈ lwg := lwg_4 _ 232 (by decide +kernel) (by decide +kernel)
theorem w_954 : (Jvm.Cond.methodLink "ClassPoolsModel$HeldFile" (3 : Nat) ({ cls := "java/lang/Object", name := "<init>", desc := "()V" } : Jvm.MethodName)) ∈ lwg := lwg_4 _ 234 (by decide +kernel) (by decide +kernel)
theorem w_955 : (Jvm.Cond.classLink "ClassPoolsModel$HeldFile" (18 : Nat) "[B") ∈ lwg := lwg_4 _ 235 (by decide +kernel) (by decide +kernel)
theorem w_957 : (Jvm.Cond.classLink "ClassPoolsModel$HeldFile" (24 : Nat) "[LClassPoolsModel$Member;") ∈ lwg := lwg_4 _ 237 (by decide +kernel) (by decide +kernel)
theorem w_959 : (Jvm.Cond.classLink "ClassPoolsModel$HeldFile" (26 : Nat) "ClassPoolsModel$Member") ∈ lwg := lwg_4 _ 239 (by decide +kernel) (by decide +kernel)
theorem w_961 : (Jvm.Cond.fieldLink "ClassPoolsModel$HeldFile" (35 : Nat) "ClassPoolsModel$HeldFile" "b" "[B") ∈ lwg := lwg_5 _ 1 (by decide +kernel) (by decide +kernel)
theorem w_962 : (Jvm.Cond.fieldLink "ClassPoolsModel" (59 : Nat) "ClassPoolsModel$HeldFile" "b" "[B") ∈ lwg := lwg_5 _ 2 (by decide +kernel) (by decide +kernel)
theorem w_963 : (Jvm.Cond.fieldLink "ClassPoolsModel" (81 : Nat) "ClassPoolsModel$HeldFile" "places" "I") ∈ lwg := lwg_5 _ 3 (by decide +kernel) (by decide +kernel)
theorem w_964 : (Jvm.Cond.fieldLink "ClassPoolsModel$HeldFile" (9 : Nat) "ClassPoolsModel$HeldFile" "tags" "[I") ∈ lwg := lwg_5 _ 4 (by decide +kernel) (by decide +kernel)
theorem w_965 : (Jvm.Cond.fieldLink "ClassPoolsModel" (126 : Nat) "ClassPoolsModel$HeldFile" "tags" "[I") ∈ lwg := lwg_5 _ 5 (by decide +kernel) (by decide +kernel)
theorem w_966 : (Jvm.Cond.fieldLink "ClassPoolsModel$HeldFile" (15 : Nat) "ClassPoolsModel$HeldFile" "at" "[I") ∈ lwg := lwg_5 _ 6 (by decide +kernel) (by decide +kernel)
theorem w_967 : (Jvm.Cond.fieldLink "ClassPoolsModel" (129 : Nat) "ClassPoolsModel$HeldFile" "at" "[I") ∈ lwg := lwg_5 _ 7 (by decide +kernel) (by decide +kernel)
theorem w_968 : (Jvm.Cond.fieldLink "ClassPoolsModel$HeldFile" (20 : Nat) "ClassPoolsModel$HeldFile" "texts" "[[B") ∈ lwg := lwg_5 _ 8 (by decide +kernel) (by decide +kernel)
theorem w_969 : (Jvm.Cond.fieldLink "ClassPoolsModel" (130 : Nat) "ClassPoolsModel$HeldFile" "texts" "[[B") ∈ lwg := lwg_5 _ 9 (by decide +kernel) (by decide +kernel)
theorem w_970 : (Jvm.Cond.fieldLink "ClassPoolsModel" (87 : Nat) "ClassPoolsModel$HeldFile" "behind" "I") ∈ lwg := lwg_5 _ 10 (by decide +kernel) (by decide +kernel)
theorem w_971 : (Jvm.Cond.fieldLink "ClassPoolsModel" (93 : Nat) "ClassPoolsModel$HeldFile" "faces" "I") ∈ lwg := lwg_5 _ 11 (by decide +kernel) (by decide +kernel)
theorem w_972 : (Jvm.Cond.fieldLink "ClassPoolsModel$HeldFile" (28 : Nat) "ClassPoolsModel$HeldFile" "members" "[[LClassPoolsModel$Member;") ∈ lwg := lwg_5 _ 12 (by decide +kernel) (by decide +kernel)
theorem w_973 : (Jvm.Cond.fieldLink "ClassPoolsModel" (110 : Nat) "ClassPoolsModel$HeldFile" "members" "[[LClassPoolsModel$Member;") ∈ lwg := lwg_5 _ 13 (by decide +kernel) (by decide +kernel)
theorem w_974 : (Jvm.Cond.fieldLink "ClassPoolsModel$HeldFile" (32 : Nat) "ClassPoolsModel$HeldFile" "counts" "[I") ∈ lwg := lwg_5 _ 14 (by decide +kernel) (by decide +kernel)
theorem w_975 : (Jvm.Cond.fieldLink "ClassPoolsModel" (96 : Nat) "ClassPoolsModel$HeldFile" "counts" "[I") ∈ lwg := lwg_5 _ 15 (by decide +kernel) (by decide +kernel)
theorem w_976 : (Jvm.Cond.fieldLink "ClassPoolsModel" (114 : Nat) "ClassPoolsModel$HeldFile" "own" "LClassPoolsModel$Attributes;") ∈ lwg := lwg_5 _ 16 (by decide +kernel) (by decide +kernel)
theorem w_998 : (Jvm.Cond.methodLink "ClassPoolsModel" (134 : Nat) ({ cls := "ClassPoolsModel", name := "part", desc := "([BII)[B" } : Jvm.MethodName)) ∈ lwg := lwg_5 _ 38 (by decide +kernel) (by decide +kernel)
theorem w_999 : (Jvm.Cond.static ({ cls := "ClassPoolsModel", name := "part", desc := "([BII)[B" } : Jvm.MethodName)) ∈ lwg := lwg_5 _ 39 (by decide +kernel) (by decide +kernel)
theorem w_1001 : (Jvm.Cond.methodLink "ClassPoolsModel" (138 : Nat) ({ cls := "java/lang/System", name := "arraycopy", desc := "(Ljava/lang/Object;ILjava/lang/Object;II)V" } : Jvm.MethodName)) ∈ lwg := lwg_5 _ 41 (by decide +kernel) (by decide +kernel)
theorem w_1002 : (Jvm.Cond.methodLink "ClassPoolsModel" (167 : Nat) ({ cls := "ClassPoolsModel", name := "parse", desc := "()V" } : Jvm.MethodName)) ∈ lwg := lwg_5 _ 42 (by decide +kernel) (by decide +kernel)
theorem w_1004 : (Jvm.Cond.instanceMethod ({ cls := "ClassPoolsModel", name := "parse", desc := "()V" } : Jvm.MethodName)) ∈ lwg := lwg_5 _ 44 (by decide +kernel) (by decide +kernel)
theorem w_1006 : (Jvm.Cond.methodLink "ClassPoolsModel" (69 : Nat) ({ cls := "ClassPoolsModel", name := "goes", desc := "(I)Z" } : Jvm.MethodName)) ∈ lwg := lwg_5 _ 46 (by decide +kernel) (by decide +kernel)
theorem w_1008 : (Jvm.Cond.instanceMethod ({ cls := "ClassPoolsModel", name := "goes", desc := "(I)Z" } : Jvm.MethodName)) ∈ lwg := lwg_5 _ 48 (by decide +kernel) (by decide +kernel)
theorem w_1010 : (Jvm.Cond.methodLink "ClassPoolsModel" (65 : Nat) ({ cls := "ClassPoolsModel", name := "fails", desc := "(II)V" } : Jvm.MethodName)) ∈ lwg := lwg_5 _ 50 (by decide +kernel) (by decide +kernel)
theorem w_1012 : (Jvm.Cond.instanceMethod ({ cls := "ClassPoolsModel", name := "fails", desc := "(II)V" } : Jvm.MethodName)) ∈ lwg := lwg_5 _ 52 (by decide +kernel) (by decide +kernel)
theorem w_1014 : (Jvm.Cond.methodLink "ClassPoolsModel" (77 : Nat) ({ cls := "ClassPoolsModel", name := "nextTwo", desc := "()I" } : Jvm.MethodName)) ∈ lwg := lwg_5 _ 54 (by decide +kernel) (by decide +kernel)
theorem w_1016 : (Jvm.Cond.instanceMethod ({ cls := "ClassPoolsModel", name := "nextTwo", desc := "()I" } : Jvm.MethodName)) ∈ lwg := lwg_5 _ 56 (by decide +kernel) (by decide +kernel)
theorem w_1018 : (Jvm.Cond.methodLink "ClassPoolsModel" (73 : Nat) ({ cls := "ClassPoolsModel$HeldFile", name := "two", desc := "(I)I" } : Jvm.MethodName)) ∈ lwg := lwg_5 _ 58 (by decide +kernel) (by decide +kernel)
theorem w_1019 : (Jvm.Cond.instanceMethod ({ cls := "ClassPoolsModel$HeldFile", name := "two", desc := "(I)I" } : Jvm.MethodName)) ∈ lwg := lwg_5 _ 59 (by decide +kernel) (by decide +kernel)
theorem w_1020 : (Jvm.Cond.selects "ClassPoolsModel$HeldFile" ({ cls := "ClassPoolsModel$HeldFile", name := "two", desc := "(I)I" } : Jvm.MethodName) ({ cls := "ClassPoolsModel$HeldFile", name := "two", desc := "(I)I" } : Jvm.MethodName)) ∈ lwg := lwg_5 _ 60 (by decide +kernel) (by decide +kernel)
theorem w_1022 : (Jvm.Cond.methodLink "ClassPoolsModel" (84 : Nat) ({ cls := "ClassPoolsModel", name := "entry", desc := "(I)I" } : Jvm.MethodName)) ∈ lwg := lwg_5 _ 62 (by decide +kernel) (by decide +kernel)
theorem w_1024 : (Jvm.Cond.instanceMethod ({ cls := "ClassPoolsModel", name := "entry", desc := "(I)I" } : Jvm.MethodName)) ∈ lwg := lwg_5 _ 64 (by decide +kernel) (by decide +kernel)
theorem w_1026 : (Jvm.Cond.methodLink "ClassPoolsModel" (90 : Nat) ({ cls := "ClassPoolsModel", name := "many", desc := "(I)I" } : Jvm.MethodName)) ∈ lwg := lwg_5 _ 66 (by decide +kernel) (by decide +kernel)
theorem w_1028 : (Jvm.Cond.instanceMethod ({ cls := "ClassPoolsModel", name := "many", desc := "(I)I" } : Jvm.MethodName)) ∈ lwg := lwg_5 _ 68 (by decide +kernel) (by decide +kernel)
theorem w_1030 : (Jvm.Cond.classLink "ClassPoolsModel" (99 : Nat) "ClassPoolsModel$Member") ∈ lwg := lwg_5 _ 70 (by decide +kernel) (by decide +kernel)
theorem w_1031 : (Jvm.Cond.instantiable "ClassPoolsModel$Member" (2 : Nat)) ∈ lwg := lwg_5 _ 71 (by decide +kernel) (by decide +kernel)
theorem w_1033 : (Jvm.Cond.instanceMethod ({ cls := "ClassPoolsModel$Member", name := "<init>", desc := "()V" } : Jvm.MethodName)) ∈ lwg := lwg_5 _ 73 (by decide +kernel) (by decide +kernel)
theorem w_1035 : (Jvm.Cond.methodLink "ClassPoolsModel$Member" (1 : Nat) ({ cls := "java/lang/Object", name := "<init>", desc := "()V" } : Jvm.MethodName)) ∈ lwg := lwg_5 _ 75 (by decide +kernel) (by decide +kernel)
theorem w_1036 : (Jvm.Cond.fieldLink "ClassPoolsModel" (102 : Nat) "ClassPoolsModel$Member" "at" "I") ∈ lwg := lwg_5 _ 76 (by decide +kernel) (by decide +kernel)
theorem w_1037 : (Jvm.Cond.fieldLink "ClassPoolsModel" (107 : Nat) "ClassPoolsModel$Member" "attributes" "LClassPoolsModel$Attributes;") ∈ lwg := lwg_5 _ 77 (by decide +kernel) (by decide +kernel)
theorem w_1043 : (Jvm.Cond.methodLink "ClassPoolsModel" (103 : Nat) ({ cls := "ClassPoolsModel", name := "attributes", desc := "()LClassPoolsModel$Attributes;" } : Jvm.MethodName)) ∈ lwg := lwg_5 _ 83 (by decide +kernel) (by decide +kernel)
theorem w_1045 : (Jvm.Cond.instanceMethod ({ cls := "ClassPoolsModel", name := "attributes", desc := "()LClassPoolsModel$Attributes;" } : Jvm.MethodName)) ∈ lwg := lwg_5 _ 85 (by decide +kernel) (by decide +kernel)
theorem w_1047 : (Jvm.Cond.classLink "ClassPoolsModel" (117 : Nat) "ClassPoolsModel$Attributes") ∈ lwg := lwg_5 _ 87 (by decide +kernel) (by decide +kernel)
theorem w_1048 : (Jvm.Cond.instantiable "ClassPoolsModel$Attributes" (2 : Nat)) ∈ lwg := lwg_5 _ 88 (by decide +kernel) (by decide +kernel)
theorem w_1050 : (Jvm.Cond.instanceMethod ({ cls := "ClassPoolsModel$Attributes", name := "<init>", desc := "()V" } : Jvm.MethodName)) ∈ lwg := lwg_5 _ 90 (by decide +kernel) (by decide +kernel)
theorem w_1052 : (Jvm.Cond.methodLink "ClassPoolsModel$Attributes" (3 : Nat) ({ cls := "java/lang/Object", name := "<init>", desc := "()V" } : Jvm.MethodName)) ∈ lwg := lwg_5 _ 92 (by decide +kernel) (by decide +kernel)
theorem w_1053 : (Jvm.Cond.fieldLink "ClassPoolsModel" (120 : Nat) "ClassPoolsModel$Attributes" "count" "I") ∈ lwg := lwg_5 _ 93 (by decide +kernel) (by decide +kernel)
theorem w_1054 : (Jvm.Cond.fieldLink "ClassPoolsModel$Attributes" (9 : Nat) "ClassPoolsModel$Attributes" "at" "[I") ∈ lwg := lwg_5 _ 94 (by decide +kernel) (by decide +kernel)
theorem w_1055 : (Jvm.Cond.fieldLink "ClassPoolsModel" (121 : Nat) "ClassPoolsModel$Attributes" "at" "[I") ∈ lwg := lwg_5 _ 95 (by decide +kernel) (by decide +kernel)
theorem w_1061 : (Jvm.Cond.methodLink "ClassPoolsModel" (123 : Nat) ({ cls := "ClassPoolsModel$HeldFile", name := "four", desc := "(I)I" } : Jvm.MethodName)) ∈ lwg := lwg_5 _ 101 (by decide +kernel) (by decide +kernel)
theorem w_1062 : (Jvm.Cond.instanceMethod ({ cls := "ClassPoolsModel$HeldFile", name := "four", desc := "(I)I" } : Jvm.MethodName)) ∈ lwg := lwg_5 _ 102 (by decide +kernel) (by decide +kernel)
theorem w_1063 : (Jvm.Cond.selects "ClassPoolsModel$HeldFile" ({ cls := "ClassPoolsModel$HeldFile", name := "four", desc := "(I)I" } : Jvm.MethodName) ({ cls := "ClassPoolsModel$HeldFile", name := "four", desc := "(I)I" } : Jvm.MethodName)) ∈ lwg := lwg_5 _ 103 (by decide +kernel) (by decide +kernel)
theorem w_1065 : (Jvm.Cond.methodLink "ClassPoolsModel$HeldFile" (38 : Nat) ({ cls := "ClassPoolsModel$HeldFile", name := "two", desc := "(I)I" } : Jvm.MethodName)) ∈ lwg := lwg_5 _ 105 (by decide +kernel) (by decide +kernel)
theorem w_1066 : (Jvm.Cond.methodLink "ClassPoolsModel" (170 : Nat) ({ cls := "ClassPoolsModel", name := "places", desc := "()V" } : Jvm.MethodName)) ∈ lwg := lwg_5 _ 106 (by decide +kernel) (by decide +kernel)
theorem w_1068 : (Jvm.Cond.instanceMethod ({ cls := "ClassPoolsModel", name := "places", desc := "()V" } : Jvm.MethodName)) ∈ lwg := lwg_5 _ 108 (by decide +kernel) (by decide +kernel)
theorem w_1070 : (Jvm.Cond.methodLink "ClassPoolsModel" (148 : Nat) ({ cls := "ClassPoolsModel", name := "place", desc := "(II)V" } : Jvm.MethodName)) ∈ lwg := lwg_5 _ 110 (by decide +kernel) (by decide +kernel)
theorem w_1072 : (Jvm.Cond.instanceMethod ({ cls := "ClassPoolsModel", name := "place", desc := "(II)V" } : Jvm.MethodName)) ∈ lwg := lwg_5 _ 112 (by decide +kernel) (by decide +kernel)
theorem w_1074 : (Jvm.Cond.methodLink "ClassPoolsModel" (144 : Nat) ({ cls := "ClassPoolsModel", name := "wrongPlace", desc := "(LClassPoolsModel$HeldFile;II)I" } : Jvm.MethodName)) ∈ lwg := lwg_5 _ 114 (by decide +kernel) (by decide +kernel)
theorem w_1075 : (Jvm.Cond.static ({ cls := "ClassPoolsModel", name := "wrongPlace", desc := "(LClassPoolsModel$HeldFile;II)I" } : Jvm.MethodName)) ∈ lwg := lwg_5 _ 115 (by decide +kernel) (by decide +kernel)
theorem w_1077 : (Jvm.Cond.methodLink "ClassPoolsModel" (151 : Nat) ({ cls := "ClassPoolsModel", name := "names", desc := "(LClassPoolsModel$Attributes;)V" } : Jvm.MethodName)) ∈ lwg := lwg_5 _ 117 (by decide +kernel) (by decide +kernel)
theorem w_1079 : (Jvm.Cond.instanceMethod ({ cls := "ClassPoolsModel", name := "names", desc := "(LClassPoolsModel$Attributes;)V" } : Jvm.MethodName)) ∈ lwg := lwg_5 _ 119 (by decide +kernel) (by decide +kernel)
theorem w_1081 : (Jvm.Cond.methodLink "ClassPoolsModel" (172 : Nat) ({ cls := "ClassPoolsModel", name := "sortOf", desc := "(LClassPoolsModel$HeldFile;II)[B" } : Jvm.MethodName)) ∈ lwg := lwg_5 _ 121 (by decide +kernel) (by decide +kernel)
theorem w_1083 : (Jvm.Cond.instanceMethod ({ cls := "ClassPoolsModel", name := "sortOf", desc := "(LClassPoolsModel$HeldFile;II)[B" } : Jvm.MethodName)) ∈ lwg := lwg_5 _ 123 (by decide +kernel) (by decide +kernel)
theorem w_1085 : (Jvm.Cond.methodLink "ClassPoolsModel" (176 : Nat) ({ cls := "ClassPoolsModel", name := "isSort", desc := "([BI)Z" } : Jvm.MethodName)) ∈ lwg := lwg_5 _ 125 (by decide +kernel) (by decide +kernel)
theorem w_1086 : (Jvm.Cond.static ({ cls := "ClassPoolsModel", name := "isSort", desc := "([BI)Z" } : Jvm.MethodName)) ∈ lwg := lwg_5 _ 126 (by decide +kernel) (by decide +kernel)
theorem w_1088 : (Jvm.Cond.methodLink "ClassPoolsModel" (162 : Nat) ({ cls := "ClassPoolsModel", name := "type", desc := "([BI)I" } : Jvm.MethodName)) ∈ lwg := lwg_5 _ 128 (by decide +kernel) (by decide +kernel)
theorem w_1089 : (Jvm.Cond.static ({ cls := "ClassPoolsModel", name := "type", desc := "([BI)I" } : Jvm.MethodName)) ∈ lwg := lwg_5 _ 129 (by decide +kernel) (by decide +kernel)
theorem w_1092 : (Jvm.Cond.methodLink "ClassPoolsModel" (157 : Nat) ({ cls := "java/lang/String", name := "indexOf", desc := "(I)I" } : Jvm.MethodName)) ∈ lwg := lwg_5 _ 132 (by decide +kernel) (by decide +kernel)
theorem w_1093 : (Jvm.Cond.instanceMethod ({ cls := "java/lang/String", name := "indexOf", desc := "(I)I" } : Jvm.MethodName)) ∈ lwg := lwg_5 _ 133 (by decide +kernel) (by decide +kernel)
theorem w_1094 : (Jvm.Cond.selects "java/lang/String" ({ cls := "java/lang/String", name := "indexOf", desc := "(I)I" } : Jvm.MethodName) ({ cls := "java/lang/String", name := "indexOf", desc := "(I)I" } : Jvm.MethodName)) ∈ lwg := lwg_5 _ 134 (by decide +kernel) (by decide +kernel)
theorem w_1096 : (Jvm.Cond.methodLink "java/lang/String" (633 : Nat) ({ cls := "java/lang/String", name := "indexOf", desc := "(II)I" } : Jvm.MethodName)) ∈ lwg := lwg_5 _ 136 (by decide +kernel) (by decide +kernel)
theorem w_1097 : (Jvm.Cond.instanceMethod ({ cls := "java/lang/String", name := "indexOf", desc := "(II)I" } : Jvm.MethodName)) ∈ lwg := lwg_5 _ 137 (by decide +kernel) (by decide +kernel)
theorem w_1098 : (Jvm.Cond.selects "java/lang/String" ({ cls := "java/lang/String", name := "indexOf", desc := "(II)I" } : Jvm.MethodName) ({ cls := "java/lang/String", name := "indexOf", desc := "(II)I" } : Jvm.MethodName)) ∈ lwg := lwg_5 _ 138 (by decide +kernel) (by decide +kernel)
theorem w_1100 : (Jvm.Cond.methodLink "java/lang/String" (492 : Nat) ({ cls := "java/lang/String", name := "isLatin1", desc := "()Z" } : Jvm.MethodName)) ∈ lwg := lwg_5 _ 140 (by decide +kernel) (by decide +kernel)
theorem w_1101 : (Jvm.Cond.instanceMethod ({ cls := "java/lang/String", name := "isLatin1", desc := "()Z" } : Jvm.MethodName)) ∈ lwg := lwg_5 _ 141 (by decide +kernel) (by decide +kernel)
theorem w_1102 : (Jvm.Cond.selects "java/lang/String" ({ cls := "java/lang/String", name := "isLatin1", desc := "()Z" } : Jvm.MethodName) ({ cls := "java/lang/String", name := "isLatin1", desc := "()Z" } : Jvm.MethodName)) ∈ lwg := lwg_5 _ 142 (by decide +kernel) (by decide +kernel)
theorem w_1104 : (Jvm.Cond.fieldLink "java/lang/String" (38 : Nat) "java/lang/String" "COMPACT_STRINGS" "Z") ∈ lwg := lwg_5 _ 144 (by decide +kernel) (by decide +kernel)
theorem w_1106 : (Jvm.Cond.methodLink "java/lang/String" (505 : Nat) ({ cls := "java/lang/String", name := "length", desc := "()I" } : Jvm.MethodName)) ∈ lwg := lwg_5 _ 146 (by decide +kernel) (by decide +kernel)
theorem w_1107 : (Jvm.Cond.instanceMethod ({ cls := "java/lang/String", name := "length", desc := "()I" } : Jvm.MethodName)) ∈ lwg := lwg_5 _ 147 (by decide +kernel) (by decide +kernel)
theorem w_1108 : (Jvm.Cond.selects "java/lang/String" ({ cls := "java/lang/String", name := "length", desc := "()I" } : Jvm.MethodName) ({ cls := "java/lang/String", name := "length", desc := "()I" } : Jvm.MethodName)) ∈ lwg := lwg_5 _ 148 (by decide +kernel) (by decide +kernel)
theorem w_1110 : (Jvm.Cond.methodLink "java/lang/String" (335 : Nat) ({ cls := "java/lang/String", name := "coder", desc := "()B" } : Jvm.MethodName)) ∈ lwg := lwg_5 _ 150 (by decide +kernel) (by decide +kernel)
theorem w_1111 : (Jvm.Cond.instanceMethod ({ cls := "java/lang/String", name := "coder", desc := "()B" } : Jvm.MethodName)) ∈ lwg := lwg_5 _ 151 (by decide +kernel) (by decide +kernel)
theorem w_1112 : (Jvm.Cond.selects "java/lang/String" ({ cls := "java/lang/String", name := "coder", desc := "()B" } : Jvm.MethodName) ({ cls := "java/lang/String", name := "coder", desc := "()B" } : Jvm.MethodName)) ∈ lwg := lwg_5 _ 152 (by decide +kernel) (by decide +kernel)
theorem w_1114 : (Jvm.Cond.methodLink "java/lang/String" (637 : Nat) ({ cls := "java/lang/StringLatin1", name := "indexOf", desc := "([BIII)I" } : Jvm.MethodName)) ∈ lwg := lwg_5 _ 154 (by decide +kernel) (by decide +kernel)
theorem w_1115 : (Jvm.Cond.static ({ cls := "java/lang/StringLatin1", name := "indexOf", desc := "([BIII)I" } : Jvm.MethodName)) ∈ lwg := lwg_5 _ 155 (by decide +kernel) (by decide +kernel)
theorem w_1117 : (Jvm.Cond.methodLink "java/lang/StringLatin1" (88 : Nat) ({ cls := "java/lang/StringLatin1", name := "canEncode", desc := "(I)Z" } : Jvm.MethodName)) ∈ lwg := lwg_5 _ 157 (by decide +kernel) (by decide +kernel)
theorem w_1118 : (Jvm.Cond.static ({ cls := "java/lang/StringLatin1", name := "canEncode", desc := "(I)Z" } : Jvm.MethodName)) ∈ lwg := lwg_5 _ 158 (by decide +kernel) (by decide +kernel)
theorem w_1120 : (Jvm.Cond.methodLink "java/lang/StringLatin1" (92 : Nat) ({ cls := "java/lang/Math", name := "max", desc := "(II)I" } : Jvm.MethodName)) ∈ lwg := lwg_5 _ 160 (by decide +kernel) (by decide +kernel)
theorem w_1121 : (Jvm.Cond.static ({ cls := "java/lang/Math", name := "max", desc := "(II)I" } : Jvm.MethodName)) ∈ lwg := lwg_5 _ 161 (by decide +kernel) (by decide +kernel)
theorem w_1123 : (Jvm.Cond.methodLink "java/lang/StringLatin1" (38 : Nat) ({ cls := "java/lang/Math", name := "min", desc := "(II)I" } : Jvm.MethodName)) ∈ lwg := lwg_5 _ 163 (by decide +kernel) (by decide +kernel)
theorem w_1124 : (Jvm.Cond.methodLink "java/lang/StringLatin1" (95 : Nat) ({ cls := "java/lang/StringLatin1", name := "indexOfChar", desc := "([BIII)I" } : Jvm.MethodName)) ∈ lwg := lwg_5 _ 164 (by decide +kernel) (by decide +kernel)
theorem w_1125 : (Jvm.Cond.static ({ cls := "java/lang/StringLatin1", name := "indexOfChar", desc := "([BIII)I" } : Jvm.MethodName)) ∈ lwg := lwg_5 _ 165 (by decide +kernel) (by decide +kernel)
theorem w_1176 : (Jvm.Cond.methodLink "ClassPoolsLaw" (40 : Nat) ({ cls := "ClassPoolsModel", name := "place", desc := "()I" } : Jvm.MethodName)) ∈ lwg := lwg_5 _ 216 (by decide +kernel) (by decide +kernel)
theorem w_1177 : (Jvm.Cond.instanceMethod ({ cls := "ClassPoolsModel", name := "place", desc := "()I" } : Jvm.MethodName)) ∈ lwg := lwg_5 _ 217 (by decide +kernel) (by decide +kernel)
theorem w_1178 : (Jvm.Cond.selects "ClassPoolsModel" ({ cls := "ClassPoolsModel", name := "place", desc := "()I" } : Jvm.MethodName) ({ cls := "ClassPoolsModel", name := "place", desc := "()I" } : Jvm.MethodName)) ∈ lwg := lwg_5 _ 218 (by decide +kernel) (by decide +kernel)
theorem w_1180 : (Jvm.Cond.methodLink "ClassPoolsLaw" (45 : Nat) ({ cls := "ClassPoolsModel", name := "drop", desc := "(I)I" } : Jvm.MethodName)) ∈ lwg := lwg_5 _ 220 (by decide +kernel) (by decide +kernel)
theorem w_1181 : (Jvm.Cond.instanceMethod ({ cls := "ClassPoolsModel", name := "drop", desc := "(I)I" } : Jvm.MethodName)) ∈ lwg := lwg_5 _ 221 (by decide +kernel) (by decide +kernel)
theorem w_1182 : (Jvm.Cond.selects "ClassPoolsModel" ({ cls := "ClassPoolsModel", name := "drop", desc := "(I)I" } : Jvm.MethodName) ({ cls := "ClassPoolsModel", name := "drop", desc := "(I)I" } : Jvm.MethodName)) ∈ lwg := lwg_5 _ 222 (by decide +kernel) (by decide +kernel)
theorem w_1184 : (Jvm.Cond.methodLink "ClassPoolsModel" (180 : Nat) ({ cls := "ClassPoolsModel", name := "isFile", desc := "(I)Z" } : Jvm.MethodName)) ∈ lwg := lwg_5 _ 224 (by decide +kernel) (by decide +kernel)
theorem w_1186 : (Jvm.Cond.instanceMethod ({ cls := "ClassPoolsModel", name := "isFile", desc := "(I)Z" } : Jvm.MethodName)) ∈ lwg := lwg_5 _ 226 (by decide +kernel) (by decide +kernel)
theorem w_1188 : (Jvm.Cond.methodLink "ClassPoolsLaw" (50 : Nat) ({ cls := "ClassPoolsModel", name := "file", desc := "(II)I" } : Jvm.MethodName)) ∈ lwg := lwg_5 _ 228 (by decide +kernel) (by decide +kernel)
theorem w_1189 : (Jvm.Cond.instanceMethod ({ cls := "ClassPoolsModel", name := "file", desc := "(II)I" } : Jvm.MethodName)) ∈ lwg := lwg_5 _ 229 (by decide +kernel) (by decide +kernel)
theorem w_1190 : (Jvm.Cond.selects "ClassPoolsModel" ({ cls := "ClassPoolsModel", name := "file", desc := "(II)I" } : Jvm.MethodName) ({ cls := "ClassPoolsModel", name := "file", desc := "(II)I" } : Jvm.MethodName)) ∈ lwg := lwg_5 _ 230 (by decide +kernel) (by decide +kernel)
theorem w_1192 : (Jvm.Cond.methodLink "ClassPoolsLaw" (55 : Nat) ({ cls := "ClassPoolsModel", name := "entry", desc := "(III)I" } : Jvm.MethodName)) ∈ lwg := lwg_5 _ 232 (by decide +kernel) (by decide +kernel)
theorem w_1193 : (Jvm.Cond.instanceMethod ({ cls := "ClassPoolsModel", name := "entry", desc := "(III)I" } : Jvm.MethodName)) ∈ lwg := lwg_5 _ 233 (by decide +kernel) (by decide +kernel)
theorem w_1194 : (Jvm.Cond.selects "ClassPoolsModel" ({ cls := "ClassPoolsModel", name := "entry", desc := "(III)I" } : Jvm.MethodName) ({ cls := "ClassPoolsModel", name := "entry", desc := "(III)I" } : Jvm.MethodName)) ∈ lwg := lwg_5 _ 234 (by decide +kernel) (by decide +kernel)
theorem w_1196 : (Jvm.Cond.methodLink "ClassPoolsModel" (183 : Nat) ({ cls := "ClassPoolsModel$HeldFile", name := "first", desc := "(I)I" } : Jvm.MethodName)) ∈ lwg := lwg_5 _ 236 (by decide +kernel) (by decide +kernel)
theorem w_1197 : (Jvm.Cond.instanceMethod ({ cls := "ClassPoolsModel$HeldFile", name := "first", desc := "(I)I" } : Jvm.MethodName)) ∈ lwg := lwg_5 _ 237 (by decide +kernel) (by decide +kernel)
theorem w_1198 : (Jvm.Cond.selects "ClassPoolsModel$HeldFile" ({ cls := "ClassPoolsModel$HeldFile", name := "first", desc := "(I)I" } : Jvm.MethodName) ({ cls := "ClassPoolsModel$HeldFile", name := "first", desc := "(I)I" } : Jvm.MethodName)) ∈ lwg := lwg_5 _ 238 (by decide +kernel) (by decide +kernel)
theorem w_1200 : (Jvm.Cond.methodLink "ClassPoolsModel" (186 : Nat) ({ cls := "ClassPoolsModel$HeldFile", name := "second", desc := "(I)I" } : Jvm.MethodName)) ∈ lwg := lwg_6 _ 0 (by decide +kernel) (by decide +kernel)
theorem w_1201 : (Jvm.Cond.instanceMethod ({ cls := "ClassPoolsModel$HeldFile", name := "second", desc := "(I)I" } : Jvm.MethodName)) ∈ lwg := lwg_6 _ 1 (by decide +kernel) (by decide +kernel)
theorem w_1202 : (Jvm.Cond.selects "ClassPoolsModel$HeldFile" ({ cls := "ClassPoolsModel$HeldFile", name := "second", desc := "(I)I" } : Jvm.MethodName) ({ cls := "ClassPoolsModel$HeldFile", name := "second", desc := "(I)I" } : Jvm.MethodName)) ∈ lwg := lwg_6 _ 2 (by decide +kernel) (by decide +kernel)
theorem w_1204 : (Jvm.Cond.methodLink "ClassPoolsLaw" (61 : Nat) ({ cls := "ClassPoolsModel", name := "number", desc := "(II)J" } : Jvm.MethodName)) ∈ lwg := lwg_6 _ 4 (by decide +kernel) (by decide +kernel)
theorem w_1205 : (Jvm.Cond.instanceMethod ({ cls := "ClassPoolsModel", name := "number", desc := "(II)J" } : Jvm.MethodName)) ∈ lwg := lwg_6 _ 5 (by decide +kernel) (by decide +kernel)
theorem w_1206 : (Jvm.Cond.selects "ClassPoolsModel" ({ cls := "ClassPoolsModel", name := "number", desc := "(II)J" } : Jvm.MethodName) ({ cls := "ClassPoolsModel", name := "number", desc := "(II)J" } : Jvm.MethodName)) ∈ lwg := lwg_6 _ 6 (by decide +kernel) (by decide +kernel)
theorem w_1208 : (Jvm.Cond.methodLink "ClassPoolsModel" (189 : Nat) ({ cls := "ClassPoolsModel$HeldFile", name := "bits", desc := "(I)J" } : Jvm.MethodName)) ∈ lwg := lwg_6 _ 8 (by decide +kernel) (by decide +kernel)
theorem w_1209 : (Jvm.Cond.instanceMethod ({ cls := "ClassPoolsModel$HeldFile", name := "bits", desc := "(I)J" } : Jvm.MethodName)) ∈ lwg := lwg_6 _ 9 (by decide +kernel) (by decide +kernel)
theorem w_1210 : (Jvm.Cond.selects "ClassPoolsModel$HeldFile" ({ cls := "ClassPoolsModel$HeldFile", name := "bits", desc := "(I)J" } : Jvm.MethodName) ({ cls := "ClassPoolsModel$HeldFile", name := "bits", desc := "(I)J" } : Jvm.MethodName)) ∈ lwg := lwg_6 _ 10 (by decide +kernel) (by decide +kernel)
theorem w_1212 : (Jvm.Cond.methodLink "ClassPoolsModel$HeldFile" (42 : Nat) ({ cls := "ClassPoolsModel$HeldFile", name := "four", desc := "(I)I" } : Jvm.MethodName)) ∈ lwg := lwg_6 _ 12 (by decide +kernel) (by decide +kernel)
theorem w_1213 : (Jvm.Cond.constantLong "ClassPoolsModel$HeldFile" (45 : Nat) (4294967295 : Int64)) ∈ lwg := lwg_6 _ 13 (by decide +kernel) (by decide +kernel)
theorem w_1214 : (Jvm.Cond.methodLink "ClassPoolsLaw" (68 : Nat) ({ cls := "ClassPoolsModel", name := "text", desc := "(III)I" } : Jvm.MethodName)) ∈ lwg := lwg_6 _ 14 (by decide +kernel) (by decide +kernel)
theorem w_1215 : (Jvm.Cond.instanceMethod ({ cls := "ClassPoolsModel", name := "text", desc := "(III)I" } : Jvm.MethodName)) ∈ lwg := lwg_6 _ 15 (by decide +kernel) (by decide +kernel)
theorem w_1216 : (Jvm.Cond.selects "ClassPoolsModel" ({ cls := "ClassPoolsModel", name := "text", desc := "(III)I" } : Jvm.MethodName) ({ cls := "ClassPoolsModel", name := "text", desc := "(III)I" } : Jvm.MethodName)) ∈ lwg := lwg_6 _ 16 (by decide +kernel) (by decide +kernel)
theorem w_1218 : (Jvm.Cond.methodLink "ClassPoolsModel" (193 : Nat) ({ cls := "ClassPoolsModel", name := "shows", desc := "([B)I" } : Jvm.MethodName)) ∈ lwg := lwg_6 _ 18 (by decide +kernel) (by decide +kernel)
theorem w_1220 : (Jvm.Cond.instanceMethod ({ cls := "ClassPoolsModel", name := "shows", desc := "([B)I" } : Jvm.MethodName)) ∈ lwg := lwg_6 _ 20 (by decide +kernel) (by decide +kernel)
theorem w_1222 : (Jvm.Cond.methodLink "ClassPoolsLaw" (73 : Nat) ({ cls := "ClassPoolsModel", name := "member", desc := "(IIII)I" } : Jvm.MethodName)) ∈ lwg := lwg_6 _ 22 (by decide +kernel) (by decide +kernel)
theorem w_1223 : (Jvm.Cond.instanceMethod ({ cls := "ClassPoolsModel", name := "member", desc := "(IIII)I" } : Jvm.MethodName)) ∈ lwg := lwg_6 _ 23 (by decide +kernel) (by decide +kernel)
theorem w_1224 : (Jvm.Cond.selects "ClassPoolsModel" ({ cls := "ClassPoolsModel", name := "member", desc := "(IIII)I" } : Jvm.MethodName) ({ cls := "ClassPoolsModel", name := "member", desc := "(IIII)I" } : Jvm.MethodName)) ∈ lwg := lwg_6 _ 24 (by decide +kernel) (by decide +kernel)
theorem w_1226 : (Jvm.Cond.methodLink "ClassPoolsLaw" (77 : Nat) ({ cls := "ClassPoolsModel", name := "told", desc := "(IIII)I" } : Jvm.MethodName)) ∈ lwg := lwg_6 _ 26 (by decide +kernel) (by decide +kernel)
theorem w_1227 : (Jvm.Cond.instanceMethod ({ cls := "ClassPoolsModel", name := "told", desc := "(IIII)I" } : Jvm.MethodName)) ∈ lwg := lwg_6 _ 27 (by decide +kernel) (by decide +kernel)
theorem w_1228 : (Jvm.Cond.selects "ClassPoolsModel" ({ cls := "ClassPoolsModel", name := "told", desc := "(IIII)I" } : Jvm.MethodName) ({ cls := "ClassPoolsModel", name := "told", desc := "(IIII)I" } : Jvm.MethodName)) ∈ lwg := lwg_6 _ 28 (by decide +kernel) (by decide +kernel)
theorem w_1230 : (Jvm.Cond.methodLink "ClassPoolsModel" (197 : Nat) ({ cls := "ClassPoolsModel", name := "slotsOf", desc := "([BI)I" } : Jvm.MethodName)) ∈ lwg := lwg_6 _ 30 (by decide +kernel) (by decide +kernel)
theorem w_1231 : (Jvm.Cond.static ({ cls := "ClassPoolsModel", name := "slotsOf", desc := "([BI)I" } : Jvm.MethodName)) ∈ lwg := lwg_6 _ 31 (by decide +kernel) (by decide +kernel)
theorem w_1233 : (Jvm.Cond.methodLink "ClassPoolsLaw" (82 : Nat) ({ cls := "ClassPoolsModel", name := "attribute", desc := "(IIIII)I" } : Jvm.MethodName)) ∈ lwg := lwg_6 _ 33 (by decide +kernel) (by decide +kernel)
theorem w_1234 : (Jvm.Cond.instanceMethod ({ cls := "ClassPoolsModel", name := "attribute", desc := "(IIIII)I" } : Jvm.MethodName)) ∈ lwg := lwg_6 _ 34 (by decide +kernel) (by decide +kernel)
theorem w_1235 : (Jvm.Cond.selects "ClassPoolsModel" ({ cls := "ClassPoolsModel", name := "attribute", desc := "(IIIII)I" } : Jvm.MethodName) ({ cls := "ClassPoolsModel", name := "attribute", desc := "(IIIII)I" } : Jvm.MethodName)) ∈ lwg := lwg_6 _ 35 (by decide +kernel) (by decide +kernel)
theorem w_1237 : (Jvm.Cond.methodLink "ClassPoolsLaw" (86 : Nat) ({ cls := "ClassPoolsModel", name := "out", desc := "(I)I" } : Jvm.MethodName)) ∈ lwg := lwg_6 _ 37 (by decide +kernel) (by decide +kernel)
theorem w_1238 : (Jvm.Cond.instanceMethod ({ cls := "ClassPoolsModel", name := "out", desc := "(I)I" } : Jvm.MethodName)) ∈ lwg := lwg_6 _ 38 (by decide +kernel) (by decide +kernel)
theorem w_1239 : (Jvm.Cond.selects "ClassPoolsModel" ({ cls := "ClassPoolsModel", name := "out", desc := "(I)I" } : Jvm.MethodName) ({ cls := "ClassPoolsModel", name := "out", desc := "(I)I" } : Jvm.MethodName)) ∈ lwg := lwg_6 _ 39 (by decide +kernel) (by decide +kernel)
theorem w_1241 : (Jvm.Cond.methodLink "ClassPoolsLaw" (90 : Nat) ({ cls := "ClassPoolsModel", name := "join", desc := "()I" } : Jvm.MethodName)) ∈ lwg := lwg_6 _ 41 (by decide +kernel) (by decide +kernel)
theorem w_1242 : (Jvm.Cond.instanceMethod ({ cls := "ClassPoolsModel", name := "join", desc := "()I" } : Jvm.MethodName)) ∈ lwg := lwg_6 _ 42 (by decide +kernel) (by decide +kernel)
theorem w_1243 : (Jvm.Cond.selects "ClassPoolsModel" ({ cls := "ClassPoolsModel", name := "join", desc := "()I" } : Jvm.MethodName) ({ cls := "ClassPoolsModel", name := "join", desc := "()I" } : Jvm.MethodName)) ∈ lwg := lwg_6 _ 43 (by decide +kernel) (by decide +kernel)
theorem w_1245 : (Jvm.Cond.methodLink "ClassPoolsModel" (234 : Nat) ({ cls := "ClassPoolsModel", name := "lay", desc := "(LClassPoolsModel$HeldFile;[LClassPoolsModel$Meaning;I)I" } : Jvm.MethodName)) ∈ lwg := lwg_6 _ 45 (by decide +kernel) (by decide +kernel)
theorem w_1247 : (Jvm.Cond.instanceMethod ({ cls := "ClassPoolsModel", name := "lay", desc := "(LClassPoolsModel$HeldFile;[LClassPoolsModel$Meaning;I)I" } : Jvm.MethodName)) ∈ lwg := lwg_6 _ 47 (by decide +kernel) (by decide +kernel)
theorem w_1249 : (Jvm.Cond.methodLink "ClassPoolsModel" (226 : Nat) ({ cls := "ClassPoolsModel", name := "meaningOf", desc := "(LClassPoolsModel$HeldFile;I)LClassPoolsModel$Meaning;" } : Jvm.MethodName)) ∈ lwg := lwg_6 _ 49 (by decide +kernel) (by decide +kernel)
theorem w_1251 : (Jvm.Cond.instanceMethod ({ cls := "ClassPoolsModel", name := "meaningOf", desc := "(LClassPoolsModel$HeldFile;I)LClassPoolsModel$Meaning;" } : Jvm.MethodName)) ∈ lwg := lwg_6 _ 51 (by decide +kernel) (by decide +kernel)
theorem w_1253 : (Jvm.Cond.instantiable "ClassPoolsModel$Meaning" (5 : Nat)) ∈ lwg := lwg_6 _ 53 (by decide +kernel) (by decide +kernel)
theorem w_1255 : (Jvm.Cond.instanceMethod ({ cls := "ClassPoolsModel$Meaning", name := "<init>", desc := "()V" } : Jvm.MethodName)) ∈ lwg := lwg_6 _ 55 (by decide +kernel) (by decide +kernel)
theorem w_1257 : (Jvm.Cond.methodLink "ClassPoolsModel$Meaning" (1 : Nat) ({ cls := "java/lang/Object", name := "<init>", desc := "()V" } : Jvm.MethodName)) ∈ lwg := lwg_6 _ 57 (by decide +kernel) (by decide +kernel)
theorem w_1260 : (Jvm.Cond.fieldLink "ClassPoolsModel" (201 : Nat) "ClassPoolsModel$Meaning" "tag" "I") ∈ lwg := lwg_6 _ 60 (by decide +kernel) (by decide +kernel)
theorem w_1261 : (Jvm.Cond.fieldLink "ClassPoolsModel" (207 : Nat) "ClassPoolsModel$Meaning" "bits" "J") ∈ lwg := lwg_6 _ 61 (by decide +kernel) (by decide +kernel)
theorem w_1262 : (Jvm.Cond.fieldLink "ClassPoolsModel$Meaning" (13 : Nat) "ClassPoolsModel$Meaning" "a" "[B") ∈ lwg := lwg_6 _ 62 (by decide +kernel) (by decide +kernel)
theorem w_1263 : (Jvm.Cond.fieldLink "ClassPoolsModel" (204 : Nat) "ClassPoolsModel$Meaning" "a" "[B") ∈ lwg := lwg_6 _ 63 (by decide +kernel) (by decide +kernel)
theorem w_1264 : (Jvm.Cond.fieldLink "ClassPoolsModel$Meaning" (18 : Nat) "ClassPoolsModel$Meaning" "b" "[B") ∈ lwg := lwg_6 _ 64 (by decide +kernel) (by decide +kernel)
theorem w_1265 : (Jvm.Cond.fieldLink "ClassPoolsModel" (210 : Nat) "ClassPoolsModel$Meaning" "b" "[B") ∈ lwg := lwg_6 _ 65 (by decide +kernel) (by decide +kernel)
theorem w_1266 : (Jvm.Cond.fieldLink "ClassPoolsModel$Meaning" (21 : Nat) "ClassPoolsModel$Meaning" "c" "[B") ∈ lwg := lwg_6 _ 66 (by decide +kernel) (by decide +kernel)
theorem w_1267 : (Jvm.Cond.fieldLink "ClassPoolsModel" (211 : Nat) "ClassPoolsModel$Meaning" "c" "[B") ∈ lwg := lwg_6 _ 67 (by decide +kernel) (by decide +kernel)
theorem w_1279 : (Jvm.Cond.methodLink "ClassPoolsModel" (230 : Nat) ({ cls := "ClassPoolsModel", name := "find", desc := "([LClassPoolsModel$Meaning;ILClassPoolsModel$Meaning;)I" } : Jvm.MethodName)) ∈ lwg := lwg_6 _ 79 (by decide +kernel) (by decide +kernel)
theorem w_1280 : (Jvm.Cond.static ({ cls := "ClassPoolsModel", name := "find", desc := "([LClassPoolsModel$Meaning;ILClassPoolsModel$Meaning;)I" } : Jvm.MethodName)) ∈ lwg := lwg_6 _ 80 (by decide +kernel) (by decide +kernel)
theorem w_1282 : (Jvm.Cond.methodLink "ClassPoolsModel" (223 : Nat) ({ cls := "ClassPoolsModel", name := "compare", desc := "(LClassPoolsModel$Meaning;LClassPoolsModel$Meaning;)I" } : Jvm.MethodName)) ∈ lwg := lwg_6 _ 82 (by decide +kernel) (by decide +kernel)
theorem w_1283 : (Jvm.Cond.static ({ cls := "ClassPoolsModel", name := "compare", desc := "(LClassPoolsModel$Meaning;LClassPoolsModel$Meaning;)I" } : Jvm.MethodName)) ∈ lwg := lwg_6 _ 83 (by decide +kernel) (by decide +kernel)
theorem w_1285 : (Jvm.Cond.methodLink "ClassPoolsModel" (220 : Nat) ({ cls := "ClassPoolsModel", name := "compare", desc := "([B[B)I" } : Jvm.MethodName)) ∈ lwg := lwg_6 _ 85 (by decide +kernel) (by decide +kernel)
theorem w_1286 : (Jvm.Cond.static ({ cls := "ClassPoolsModel", name := "compare", desc := "([B[B)I" } : Jvm.MethodName)) ∈ lwg := lwg_6 _ 86 (by decide +kernel) (by decide +kernel)
theorem w_1288 : (Jvm.Cond.methodLink "ClassPoolsModel" (214 : Nat) ({ cls := "java/lang/Integer", name := "compare", desc := "(II)I" } : Jvm.MethodName)) ∈ lwg := lwg_6 _ 88 (by decide +kernel) (by decide +kernel)
theorem w_1289 : (Jvm.Cond.methodLink "ClassPoolsLaw" (94 : Nat) ({ cls := "ClassPoolsModel", name := "joined", desc := "(II)I" } : Jvm.MethodName)) ∈ lwg := lwg_6 _ 89 (by decide +kernel) (by decide +kernel)
theorem w_1290 : (Jvm.Cond.instanceMethod ({ cls := "ClassPoolsModel", name := "joined", desc := "(II)I" } : Jvm.MethodName)) ∈ lwg := lwg_6 _ 90 (by decide +kernel) (by decide +kernel)
theorem w_1291 : (Jvm.Cond.selects "ClassPoolsModel" ({ cls := "ClassPoolsModel", name := "joined", desc := "(II)I" } : Jvm.MethodName) ({ cls := "ClassPoolsModel", name := "joined", desc := "(II)I" } : Jvm.MethodName)) ∈ lwg := lwg_6 _ 91 (by decide +kernel) (by decide +kernel)
theorem w_1293 : (Jvm.Cond.methodLink "ClassPoolsModel" (241 : Nat) ({ cls := "ClassPoolsModel", name := "isEntry", desc := "(II)Z" } : Jvm.MethodName)) ∈ lwg := lwg_6 _ 93 (by decide +kernel) (by decide +kernel)
theorem w_1295 : (Jvm.Cond.instanceMethod ({ cls := "ClassPoolsModel", name := "isEntry", desc := "(II)Z" } : Jvm.MethodName)) ∈ lwg := lwg_6 _ 95 (by decide +kernel) (by decide +kernel)
theorem w_1297 : (Jvm.Cond.methodLink "ClassPoolsModel" (245 : Nat) ({ cls := "java/lang/Math", name := "max", desc := "(II)I" } : Jvm.MethodName)) ∈ lwg := lwg_6 _ 97 (by decide +kernel) (by decide +kernel)
theorem w_1298 : (Jvm.Cond.methodLink "ClassPoolsLaw" (98 : Nat) ({ cls := "ClassPoolsModel", name := "meaning", desc := "(II)I" } : Jvm.MethodName)) ∈ lwg := lwg_6 _ 98 (by decide +kernel) (by decide +kernel)
theorem w_1299 : (Jvm.Cond.instanceMethod ({ cls := "ClassPoolsModel", name := "meaning", desc := "(II)I" } : Jvm.MethodName)) ∈ lwg := lwg_6 _ 99 (by decide +kernel) (by decide +kernel)
theorem w_1300 : (Jvm.Cond.selects "ClassPoolsModel" ({ cls := "ClassPoolsModel", name := "meaning", desc := "(II)I" } : Jvm.MethodName) ({ cls := "ClassPoolsModel", name := "meaning", desc := "(II)I" } : Jvm.MethodName)) ∈ lwg := lwg_6 _ 100 (by decide +kernel) (by decide +kernel)
theorem w_1302 : (Jvm.Cond.methodLink "ClassPoolsLaw" (102 : Nat) ({ cls := "ClassPoolsModel", name := "alike", desc := "(II)I" } : Jvm.MethodName)) ∈ lwg := lwg_6 _ 102 (by decide +kernel) (by decide +kernel)
theorem w_1303 : (Jvm.Cond.instanceMethod ({ cls := "ClassPoolsModel", name := "alike", desc := "(II)I" } : Jvm.MethodName)) ∈ lwg := lwg_6 _ 103 (by decide +kernel) (by decide +kernel)
theorem w_1304 : (Jvm.Cond.selects "ClassPoolsModel" ({ cls := "ClassPoolsModel", name := "alike", desc := "(II)I" } : Jvm.MethodName) ({ cls := "ClassPoolsModel", name := "alike", desc := "(II)I" } : Jvm.MethodName)) ∈ lwg := lwg_6 _ 104 (by decide +kernel) (by decide +kernel)
theorem w_1306 : (Jvm.Cond.methodLink "ClassPoolsModel" (262 : Nat) ({ cls := "ClassPoolsModel", name := "isAlike", desc := "(LClassPoolsModel$HeldFile;LClassPoolsModel$HeldFile;)Z" } : Jvm.MethodName)) ∈ lwg := lwg_6 _ 106 (by decide +kernel) (by decide +kernel)
theorem w_1308 : (Jvm.Cond.instanceMethod ({ cls := "ClassPoolsModel", name := "isAlike", desc := "(LClassPoolsModel$HeldFile;LClassPoolsModel$HeldFile;)Z" } : Jvm.MethodName)) ∈ lwg := lwg_6 _ 108 (by decide +kernel) (by decide +kernel)
theorem w_1310 : (Jvm.Cond.methodLink "ClassPoolsModel" (250 : Nat) ({ cls := "ClassPoolsModel", name := "samePlace", desc := "(LClassPoolsModel$HeldFile;ILClassPoolsModel$HeldFile;I)Z" } : Jvm.MethodName)) ∈ lwg := lwg_6 _ 110 (by decide +kernel) (by decide +kernel)
theorem w_1312 : (Jvm.Cond.instanceMethod ({ cls := "ClassPoolsModel", name := "samePlace", desc := "(LClassPoolsModel$HeldFile;ILClassPoolsModel$HeldFile;I)Z" } : Jvm.MethodName)) ∈ lwg := lwg_6 _ 112 (by decide +kernel) (by decide +kernel)
theorem w_1314 : (Jvm.Cond.methodLink "ClassPoolsModel" (258 : Nat) ({ cls := "ClassPoolsModel", name := "same", desc := "(LClassPoolsModel$HeldFile;LClassPoolsModel$Attributes;LClassPoolsModel$HeldFile;LClassPoolsModel$Attributes;)Z" } : Jvm.MethodName)) ∈ lwg := lwg_6 _ 114 (by decide +kernel) (by decide +kernel)
theorem w_1316 : (Jvm.Cond.instanceMethod ({ cls := "ClassPoolsModel", name := "same", desc := "(LClassPoolsModel$HeldFile;LClassPoolsModel$Attributes;LClassPoolsModel$HeldFile;LClassPoolsModel$Attributes;)Z" } : Jvm.MethodName)) ∈ lwg := lwg_6 _ 116 (by decide +kernel) (by decide +kernel)
theorem w_1318 : (Jvm.Cond.methodLink "ClassPoolsModel" (254 : Nat) ({ cls := "ClassPoolsModel", name := "sameBytes", desc := "(LClassPoolsModel$HeldFile;ILClassPoolsModel$HeldFile;II)Z" } : Jvm.MethodName)) ∈ lwg := lwg_6 _ 118 (by decide +kernel) (by decide +kernel)
theorem w_1320 : (Jvm.Cond.instanceMethod ({ cls := "ClassPoolsModel", name := "sameBytes", desc := "(LClassPoolsModel$HeldFile;ILClassPoolsModel$HeldFile;II)Z" } : Jvm.MethodName)) ∈ lwg := lwg_6 _ 120 (by decide +kernel) (by decide +kernel)
theorem w_1322 : (Jvm.Cond.methodLink "ClassPoolsLaw" (106 : Nat) ({ cls := "ClassPoolsModel", name := "write", desc := "(II)I" } : Jvm.MethodName)) ∈ lwg := lwg_6 _ 122 (by decide +kernel) (by decide +kernel)
theorem w_1323 : (Jvm.Cond.instanceMethod ({ cls := "ClassPoolsModel", name := "write", desc := "(II)I" } : Jvm.MethodName)) ∈ lwg := lwg_6 _ 123 (by decide +kernel) (by decide +kernel)
theorem w_1324 : (Jvm.Cond.selects "ClassPoolsModel" ({ cls := "ClassPoolsModel", name := "write", desc := "(II)I" } : Jvm.MethodName) ({ cls := "ClassPoolsModel", name := "write", desc := "(II)I" } : Jvm.MethodName)) ∈ lwg := lwg_6 _ 124 (by decide +kernel) (by decide +kernel)
theorem w_1326 : (Jvm.Cond.methodLink "ClassPoolsModel" (308 : Nat) ({ cls := "ClassPoolsModel", name := "inOrder", desc := "(LClassPoolsModel$HeldFile;)I" } : Jvm.MethodName)) ∈ lwg := lwg_6 _ 126 (by decide +kernel) (by decide +kernel)
theorem w_1328 : (Jvm.Cond.instanceMethod ({ cls := "ClassPoolsModel", name := "inOrder", desc := "(LClassPoolsModel$HeldFile;)I" } : Jvm.MethodName)) ∈ lwg := lwg_6 _ 128 (by decide +kernel) (by decide +kernel)
theorem w_1330 : (Jvm.Cond.methodLink "ClassPoolsModel" (285 : Nat) ({ cls := "ClassPoolsModel", name := "addBytes", desc := "([BII)V" } : Jvm.MethodName)) ∈ lwg := lwg_6 _ 130 (by decide +kernel) (by decide +kernel)
theorem w_1332 : (Jvm.Cond.instanceMethod ({ cls := "ClassPoolsModel", name := "addBytes", desc := "([BII)V" } : Jvm.MethodName)) ∈ lwg := lwg_6 _ 132 (by decide +kernel) (by decide +kernel)
theorem w_1334 : (Jvm.Cond.methodLink "ClassPoolsModel" (269 : Nat) ({ cls := "ClassPoolsModel", name := "add", desc := "(I)V" } : Jvm.MethodName)) ∈ lwg := lwg_6 _ 134 (by decide +kernel) (by decide +kernel)
theorem w_1336 : (Jvm.Cond.instanceMethod ({ cls := "ClassPoolsModel", name := "add", desc := "(I)V" } : Jvm.MethodName)) ∈ lwg := lwg_6 _ 136 (by decide +kernel) (by decide +kernel)
theorem w_1338 : (Jvm.Cond.methodLink "ClassPoolsModel" (273 : Nat) ({ cls := "ClassPoolsModel", name := "addTwo", desc := "(I)V" } : Jvm.MethodName)) ∈ lwg := lwg_6 _ 138 (by decide +kernel) (by decide +kernel)
theorem w_1340 : (Jvm.Cond.instanceMethod ({ cls := "ClassPoolsModel", name := "addTwo", desc := "(I)V" } : Jvm.MethodName)) ∈ lwg := lwg_6 _ 140 (by decide +kernel) (by decide +kernel)
theorem w_1342 : (Jvm.Cond.methodLink "ClassPoolsModel" (300 : Nat) ({ cls := "ClassPoolsModel", name := "addEntry", desc := "(LClassPoolsModel$Meaning;)V" } : Jvm.MethodName)) ∈ lwg := lwg_6 _ 142 (by decide +kernel) (by decide +kernel)
theorem w_1344 : (Jvm.Cond.instanceMethod ({ cls := "ClassPoolsModel", name := "addEntry", desc := "(LClassPoolsModel$Meaning;)V" } : Jvm.MethodName)) ∈ lwg := lwg_6 _ 144 (by decide +kernel) (by decide +kernel)
theorem w_1346 : (Jvm.Cond.fieldLink "ClassPoolsModel" (282 : Nat) "ClassPoolsModel" "NO_BYTES" "[B") ∈ lwg := lwg_6 _ 146 (by decide +kernel) (by decide +kernel)
theorem w_1347 : (Jvm.Cond.methodLink "ClassPoolsModel" (289 : Nat) ({ cls := "ClassPoolsModel", name := "addFour", desc := "(I)V" } : Jvm.MethodName)) ∈ lwg := lwg_6 _ 147 (by decide +kernel) (by decide +kernel)
theorem w_1349 : (Jvm.Cond.instanceMethod ({ cls := "ClassPoolsModel", name := "addFour", desc := "(I)V" } : Jvm.MethodName)) ∈ lwg := lwg_6 _ 149 (by decide +kernel) (by decide +kernel)
theorem w_1351 : (Jvm.Cond.methodLink "ClassPoolsModel" (292 : Nat) ({ cls := "ClassPoolsModel", name := "placeOf", desc := "(I[B[B)I" } : Jvm.MethodName)) ∈ lwg := lwg_6 _ 151 (by decide +kernel) (by decide +kernel)
theorem w_1353 : (Jvm.Cond.instanceMethod ({ cls := "ClassPoolsModel", name := "placeOf", desc := "(I[B[B)I" } : Jvm.MethodName)) ∈ lwg := lwg_6 _ 153 (by decide +kernel) (by decide +kernel)
theorem w_1355 : (Jvm.Cond.methodLink "ClassPoolsModel" (296 : Nat) ({ cls := "ClassPoolsModel", name := "moved", desc := "(LClassPoolsModel$HeldFile;I)I" } : Jvm.MethodName)) ∈ lwg := lwg_6 _ 155 (by decide +kernel) (by decide +kernel)
theorem w_1357 : (Jvm.Cond.instanceMethod ({ cls := "ClassPoolsModel", name := "moved", desc := "(LClassPoolsModel$HeldFile;I)I" } : Jvm.MethodName)) ∈ lwg := lwg_6 _ 157 (by decide +kernel) (by decide +kernel)
theorem w_1359 : (Jvm.Cond.methodLink "ClassPoolsModel" (304 : Nat) ({ cls := "ClassPoolsModel", name := "addAttributes", desc := "(LClassPoolsModel$HeldFile;LClassPoolsModel$Attributes;)V" } : Jvm.MethodName)) ∈ lwg := lwg_6 _ 159 (by decide +kernel) (by decide +kernel)
theorem w_1361 : (Jvm.Cond.instanceMethod ({ cls := "ClassPoolsModel", name := "addAttributes", desc := "(LClassPoolsModel$HeldFile;LClassPoolsModel$Attributes;)V" } : Jvm.MethodName)) ∈ lwg := lwg_6 _ 161 (by decide +kernel) (by decide +kernel)
theorem w_1363 : (Jvm.Cond.methodLink "ClassPoolsLaw" (110 : Nat) ({ cls := "ClassPoolsModel", name := "back", desc := "()I" } : Jvm.MethodName)) ∈ lwg := lwg_6 _ 163 (by decide +kernel) (by decide +kernel)
theorem w_1364 : (Jvm.Cond.instanceMethod ({ cls := "ClassPoolsModel", name := "back", desc := "()I" } : Jvm.MethodName)) ∈ lwg := lwg_6 _ 164 (by decide +kernel) (by decide +kernel)
theorem w_1365 : (Jvm.Cond.selects "ClassPoolsModel" ({ cls := "ClassPoolsModel", name := "back", desc := "()I" } : Jvm.MethodName) ({ cls := "ClassPoolsModel", name := "back", desc := "()I" } : Jvm.MethodName)) ∈ lwg := lwg_6 _ 165 (by decide +kernel) (by decide +kernel)
theorem w_1367 : (Jvm.Cond.constantLong "ClassPoolsLaw" (25 : Nat) (4294967295 : Int64)) ∈ lwg := lwg_6 _ 167 (by decide +kernel) (by decide +kernel)
theorem w_1368 : (Jvm.Cond.arrayClass Jvm.ClassFile.FieldType.long) ∈ lwg := lwg_6 _ 168 (by decide +kernel) (by decide +kernel)
theorem w_1371 : (Jvm.Cond.fieldLink "java/lang/String" (15 : Nat) "java/lang/String" "coder" "B") ∈ lwg := lwg_6 _ 171 (by decide +kernel) (by decide +kernel)
theorem w_1372 : (Jvm.Cond.fieldLink "java/lang/String" (9 : Nat) "java/lang/String" "value" "[B") ∈ lwg := lwg_6 _ 172 (by decide +kernel) (by decide +kernel)
theorem ws_0 : Cond.selects "ClassPools$Reader" ⟨"ClassPools$Reader", "magic", "()V"⟩ ⟨"ClassPools$Reader", "magic", "()V"⟩ ∈ lwg := lwg_ofS _ 0 (by decide +kernel) (by decide +kernel)
theorem ws_1 : Cond.selects "ClassPools$Reader" ⟨"ClassPools$Reader", "skip", "(I)V"⟩ ⟨"ClassPools$Reader", "skip", "(I)V"⟩ ∈ lwg := lwg_ofS _ 1 (by decide +kernel) (by decide +kernel)
theorem ws_2 : Cond.selects "ClassPools$Reader" ⟨"ClassPools$Reader", "fail", "(II)V"⟩ ⟨"ClassPools$Reader", "fail", "(II)V"⟩ ∈ lwg := lwg_ofS _ 2 (by decide +kernel) (by decide +kernel)
theorem ws_3 : Cond.selects "ClassPools$Reader" ⟨"ClassPools$Reader", "entries", "()V"⟩ ⟨"ClassPools$Reader", "entries", "()V"⟩ ∈ lwg := lwg_ofS _ 3 (by decide +kernel) (by decide +kernel)
theorem ws_4 : Cond.selects "ClassPools$Reader" ⟨"ClassPools$Reader", "many", "(I)I"⟩ ⟨"ClassPools$Reader", "many", "(I)I"⟩ ∈ lwg := lwg_ofS _ 4 (by decide +kernel) (by decide +kernel)
theorem ws_5 : Cond.selects "ClassPools$Reader" ⟨"ClassPools$Reader", "anEntry", "(Z)V"⟩ ⟨"ClassPools$Reader", "anEntry", "(Z)V"⟩ ∈ lwg := lwg_ofS _ 5 (by decide +kernel) (by decide +kernel)
theorem ws_6 : Cond.selects "ClassPools$Reader" ⟨"ClassPools$Reader", "two", "()I"⟩ ⟨"ClassPools$Reader", "two", "()I"⟩ ∈ lwg := lwg_ofS _ 6 (by decide +kernel) (by decide +kernel)
theorem ws_7 : Cond.selects "ClassPools$Reader" ⟨"ClassPools$Reader", "tell", "(I)V"⟩ ⟨"ClassPools$Reader", "tell", "(I)V"⟩ ∈ lwg := lwg_ofS _ 7 (by decide +kernel) (by decide +kernel)
theorem ws_8 : Cond.selects "ClassPools$Reader" ⟨"ClassPools$Reader", "classAbove", "()V"⟩ ⟨"ClassPools$Reader", "classAbove", "()V"⟩ ∈ lwg := lwg_ofS _ 8 (by decide +kernel) (by decide +kernel)
theorem ws_9 : Cond.selects "ClassPools$Reader" ⟨"ClassPools$Reader", "members", "(I)V"⟩ ⟨"ClassPools$Reader", "members", "(I)V"⟩ ∈ lwg := lwg_ofS _ 9 (by decide +kernel) (by decide +kernel)
theorem ws_10 : Cond.selects "ClassPools$Reader" ⟨"ClassPools$Reader", "attributes", "()V"⟩ ⟨"ClassPools$Reader", "attributes", "()V"⟩ ∈ lwg := lwg_ofS _ 10 (by decide +kernel) (by decide +kernel)
theorem ws_11 : Cond.selects "ClassPools$Pool" ⟨"ClassPools$Pool", "twoOf", "(II)I"⟩ ⟨"ClassPools$Pool", "twoOf", "(II)I"⟩ ∈ lwg := lwg_ofS _ 11 (by decide +kernel) (by decide +kernel)
theorem ws_12 : Cond.selects "ClassPools" ⟨"ClassPools", "fileAt", "(I)LClassPools$ClassFile;"⟩ ⟨"ClassPools", "fileAt", "(I)LClassPools$ClassFile;"⟩ ∈ lwg := lwg_ofS _ 12 (by decide +kernel) (by decide +kernel)
theorem ws_13 : Cond.selects "ClassPools" ⟨"ClassPools", "showText", "(LClassPools$ClassFile;I)I"⟩ ⟨"ClassPools", "showText", "(LClassPools$ClassFile;I)I"⟩ ∈ lwg := lwg_ofS _ 13 (by decide +kernel) (by decide +kernel)
theorem ws_14 : Cond.selects "ClassPools" ⟨"ClassPools", "showClass", "(LClassPools$ClassFile;II)I"⟩ ⟨"ClassPools", "showClass", "(LClassPools$ClassFile;II)I"⟩ ∈ lwg := lwg_ofS _ 14 (by decide +kernel) (by decide +kernel)
theorem ws_15 : Cond.selects "ClassPools$ClassFile" ⟨"ClassPools$ClassFile", "attributesOf", "(II)I"⟩ ⟨"ClassPools$ClassFile", "attributesOf", "(II)I"⟩ ∈ lwg := lwg_ofS _ 15 (by decide +kernel) (by decide +kernel)
theorem ws_16 : Cond.selects "ClassPools$Ranking" ⟨"ClassPools$Ranking", "firstNotBelow", "(LClassPools$Pool;I)I"⟩ ⟨"ClassPools$Ranking", "firstNotBelow", "(LClassPools$Pool;I)I"⟩ ∈ lwg := lwg_ofS _ 16 (by decide +kernel) (by decide +kernel)
theorem ws_17 : Cond.selects "ClassPools$Ranking" ⟨"ClassPools$Ranking", "poolOf", "(I)LClassPools$Pool;"⟩ ⟨"ClassPools$Ranking", "poolOf", "(I)LClassPools$Pool;"⟩ ∈ lwg := lwg_ofS _ 17 (by decide +kernel) (by decide +kernel)
theorem ws_18 : Cond.selects "ClassPools$Ranking" ⟨"ClassPools$Ranking", "orderOf", "(ILClassPools$Pool;I)I"⟩ ⟨"ClassPools$Ranking", "orderOf", "(ILClassPools$Pool;I)I"⟩ ∈ lwg := lwg_ofS _ 18 (by decide +kernel) (by decide +kernel)
theorem ws_19 : Cond.selects "ClassPools$Ranking" ⟨"ClassPools$Ranking", "insert", "(II)Z"⟩ ⟨"ClassPools$Ranking", "insert", "(II)Z"⟩ ∈ lwg := lwg_ofS _ 19 (by decide +kernel) (by decide +kernel)
theorem ws_20 : Cond.selects "ClassPools" ⟨"ClassPools", "placesOf", "(I)I"⟩ ⟨"ClassPools", "placesOf", "(I)I"⟩ ∈ lwg := lwg_ofS _ 20 (by decide +kernel) (by decide +kernel)
theorem ws_21 : Cond.selects "ClassPools$Writer" ⟨"ClassPools$Writer", "pushEntry", "(LClassPools$Pool;ILClassPools$Row;)V"⟩ ⟨"ClassPools$Writer", "pushEntry", "(LClassPools$Pool;ILClassPools$Row;)V"⟩ ∈ lwg := lwg_ofS _ 21 (by decide +kernel) (by decide +kernel)
theorem ws_22 : Cond.selects "ClassPools$Writer" ⟨"ClassPools$Writer", "movedTo", "(I)I"⟩ ⟨"ClassPools$Writer", "movedTo", "(I)I"⟩ ∈ lwg := lwg_ofS _ 22 (by decide +kernel) (by decide +kernel)
theorem ws_23 : Cond.selects "ClassPools$Writer" ⟨"ClassPools$Writer", "pushRest", "(LClassPools$ClassFile;LClassPools$Row;)V"⟩ ⟨"ClassPools$Writer", "pushRest", "(LClassPools$ClassFile;LClassPools$Row;)V"⟩ ∈ lwg := lwg_ofS _ 23 (by decide +kernel) (by decide +kernel)
theorem ws_26 : Cond.selects "ClassPoolsModel" ⟨"ClassPoolsModel", "parse", "()V"⟩ ⟨"ClassPoolsModel", "parse", "()V"⟩ ∈ lwg := lwg_ofS _ 26 (by decide +kernel) (by decide +kernel)
theorem ws_27 : Cond.selects "ClassPoolsModel" ⟨"ClassPoolsModel", "goes", "(I)Z"⟩ ⟨"ClassPoolsModel", "goes", "(I)Z"⟩ ∈ lwg := lwg_ofS _ 27 (by decide +kernel) (by decide +kernel)
theorem ws_28 : Cond.selects "ClassPoolsModel" ⟨"ClassPoolsModel", "fails", "(II)V"⟩ ⟨"ClassPoolsModel", "fails", "(II)V"⟩ ∈ lwg := lwg_ofS _ 28 (by decide +kernel) (by decide +kernel)
theorem ws_29 : Cond.selects "ClassPoolsModel" ⟨"ClassPoolsModel", "nextTwo", "()I"⟩ ⟨"ClassPoolsModel", "nextTwo", "()I"⟩ ∈ lwg := lwg_ofS _ 29 (by decide +kernel) (by decide +kernel)
theorem ws_30 : Cond.selects "ClassPoolsModel" ⟨"ClassPoolsModel", "entry", "(I)I"⟩ ⟨"ClassPoolsModel", "entry", "(I)I"⟩ ∈ lwg := lwg_ofS _ 30 (by decide +kernel) (by decide +kernel)
theorem ws_31 : Cond.selects "ClassPoolsModel" ⟨"ClassPoolsModel", "many", "(I)I"⟩ ⟨"ClassPoolsModel", "many", "(I)I"⟩ ∈ lwg := lwg_ofS _ 31 (by decide +kernel) (by decide +kernel)
theorem ws_32 : Cond.selects "ClassPoolsModel" ⟨"ClassPoolsModel", "attributes", "()LClassPoolsModel$Attributes;"⟩ ⟨"ClassPoolsModel", "attributes", "()LClassPoolsModel$Attributes;"⟩ ∈ lwg := lwg_ofS _ 32 (by decide +kernel) (by decide +kernel)
theorem ws_33 : Cond.selects "ClassPoolsModel" ⟨"ClassPoolsModel", "places", "()V"⟩ ⟨"ClassPoolsModel", "places", "()V"⟩ ∈ lwg := lwg_ofS _ 33 (by decide +kernel) (by decide +kernel)
theorem ws_34 : Cond.selects "ClassPoolsModel" ⟨"ClassPoolsModel", "place", "(II)V"⟩ ⟨"ClassPoolsModel", "place", "(II)V"⟩ ∈ lwg := lwg_ofS _ 34 (by decide +kernel) (by decide +kernel)
theorem ws_35 : Cond.selects "ClassPoolsModel" ⟨"ClassPoolsModel", "names", "(LClassPoolsModel$Attributes;)V"⟩ ⟨"ClassPoolsModel", "names", "(LClassPoolsModel$Attributes;)V"⟩ ∈ lwg := lwg_ofS _ 35 (by decide +kernel) (by decide +kernel)
theorem ws_36 : Cond.selects "ClassPoolsModel" ⟨"ClassPoolsModel", "sortOf", "(LClassPoolsModel$HeldFile;II)[B"⟩ ⟨"ClassPoolsModel", "sortOf", "(LClassPoolsModel$HeldFile;II)[B"⟩ ∈ lwg := lwg_ofS _ 36 (by decide +kernel) (by decide +kernel)
theorem ws_37 : Cond.selects "ClassPoolsModel" ⟨"ClassPoolsModel", "isFile", "(I)Z"⟩ ⟨"ClassPoolsModel", "isFile", "(I)Z"⟩ ∈ lwg := lwg_ofS _ 37 (by decide +kernel) (by decide +kernel)
theorem ws_38 : Cond.selects "ClassPoolsModel" ⟨"ClassPoolsModel", "shows", "([B)I"⟩ ⟨"ClassPoolsModel", "shows", "([B)I"⟩ ∈ lwg := lwg_ofS _ 38 (by decide +kernel) (by decide +kernel)
theorem ws_39 : Cond.selects "ClassPoolsModel" ⟨"ClassPoolsModel", "lay", "(LClassPoolsModel$HeldFile;[LClassPoolsModel$Meaning;I)I"⟩ ⟨"ClassPoolsModel", "lay", "(LClassPoolsModel$HeldFile;[LClassPoolsModel$Meaning;I)I"⟩ ∈ lwg := lwg_ofS _ 39 (by decide +kernel) (by decide +kernel)
theorem ws_40 : Cond.selects "ClassPoolsModel" ⟨"ClassPoolsModel", "meaningOf", "(LClassPoolsModel$HeldFile;I)LClassPoolsModel$Meaning;"⟩ ⟨"ClassPoolsModel", "meaningOf", "(LClassPoolsModel$HeldFile;I)LClassPoolsModel$Meaning;"⟩ ∈ lwg := lwg_ofS _ 40 (by decide +kernel) (by decide +kernel)
theorem ws_41 : Cond.selects "ClassPoolsModel" ⟨"ClassPoolsModel", "isEntry", "(II)Z"⟩ ⟨"ClassPoolsModel", "isEntry", "(II)Z"⟩ ∈ lwg := lwg_ofS _ 41 (by decide +kernel) (by decide +kernel)
theorem ws_42 : Cond.selects "ClassPoolsModel" ⟨"ClassPoolsModel", "isAlike", "(LClassPoolsModel$HeldFile;LClassPoolsModel$HeldFile;)Z"⟩ ⟨"ClassPoolsModel", "isAlike", "(LClassPoolsModel$HeldFile;LClassPoolsModel$HeldFile;)Z"⟩ ∈ lwg := lwg_ofS _ 42 (by decide +kernel) (by decide +kernel)
theorem ws_43 : Cond.selects "ClassPoolsModel" ⟨"ClassPoolsModel", "samePlace", "(LClassPoolsModel$HeldFile;ILClassPoolsModel$HeldFile;I)Z"⟩ ⟨"ClassPoolsModel", "samePlace", "(LClassPoolsModel$HeldFile;ILClassPoolsModel$HeldFile;I)Z"⟩ ∈ lwg := lwg_ofS _ 43 (by decide +kernel) (by decide +kernel)
theorem ws_44 : Cond.selects "ClassPoolsModel" ⟨"ClassPoolsModel", "same", "(LClassPoolsModel$HeldFile;LClassPoolsModel$Attributes;LClassPoolsModel$HeldFile;LClassPoolsModel$Attributes;)Z"⟩ ⟨"ClassPoolsModel", "same", "(LClassPoolsModel$HeldFile;LClassPoolsModel$Attributes;LClassPoolsModel$HeldFile;LClassPoolsModel$Attributes;)Z"⟩ ∈ lwg := lwg_ofS _ 44 (by decide +kernel) (by decide +kernel)
theorem ws_45 : Cond.selects "ClassPoolsModel" ⟨"ClassPoolsModel", "sameBytes", "(LClassPoolsModel$HeldFile;ILClassPoolsModel$HeldFile;II)Z"⟩ ⟨"ClassPoolsModel", "sameBytes", "(LClassPoolsModel$HeldFile;ILClassPoolsModel$HeldFile;II)Z"⟩ ∈ lwg := lwg_ofS _ 45 (by decide +kernel) (by decide +kernel)
theorem ws_46 : Cond.selects "ClassPoolsModel" ⟨"ClassPoolsModel", "inOrder", "(LClassPoolsModel$HeldFile;)I"⟩ ⟨"ClassPoolsModel", "inOrder", "(LClassPoolsModel$HeldFile;)I"⟩ ∈ lwg := lwg_ofS _ 46 (by decide +kernel) (by decide +kernel)
theorem ws_47 : Cond.selects "ClassPoolsModel" ⟨"ClassPoolsModel", "addBytes", "([BII)V"⟩ ⟨"ClassPoolsModel", "addBytes", "([BII)V"⟩ ∈ lwg := lwg_ofS _ 47 (by decide +kernel) (by decide +kernel)
theorem ws_48 : Cond.selects "ClassPoolsModel" ⟨"ClassPoolsModel", "add", "(I)V"⟩ ⟨"ClassPoolsModel", "add", "(I)V"⟩ ∈ lwg := lwg_ofS _ 48 (by decide +kernel) (by decide +kernel)
theorem ws_49 : Cond.selects "ClassPoolsModel" ⟨"ClassPoolsModel", "addTwo", "(I)V"⟩ ⟨"ClassPoolsModel", "addTwo", "(I)V"⟩ ∈ lwg := lwg_ofS _ 49 (by decide +kernel) (by decide +kernel)
theorem ws_50 : Cond.selects "ClassPoolsModel" ⟨"ClassPoolsModel", "addEntry", "(LClassPoolsModel$Meaning;)V"⟩ ⟨"ClassPoolsModel", "addEntry", "(LClassPoolsModel$Meaning;)V"⟩ ∈ lwg := lwg_ofS _ 50 (by decide +kernel) (by decide +kernel)
theorem ws_51 : Cond.selects "ClassPoolsModel" ⟨"ClassPoolsModel", "addFour", "(I)V"⟩ ⟨"ClassPoolsModel", "addFour", "(I)V"⟩ ∈ lwg := lwg_ofS _ 51 (by decide +kernel) (by decide +kernel)
theorem ws_52 : Cond.selects "ClassPoolsModel" ⟨"ClassPoolsModel", "placeOf", "(I[B[B)I"⟩ ⟨"ClassPoolsModel", "placeOf", "(I[B[B)I"⟩ ∈ lwg := lwg_ofS _ 52 (by decide +kernel) (by decide +kernel)
theorem ws_53 : Cond.selects "ClassPoolsModel" ⟨"ClassPoolsModel", "moved", "(LClassPoolsModel$HeldFile;I)I"⟩ ⟨"ClassPoolsModel", "moved", "(LClassPoolsModel$HeldFile;I)I"⟩ ∈ lwg := lwg_ofS _ 53 (by decide +kernel) (by decide +kernel)
theorem ws_54 : Cond.selects "ClassPoolsModel" ⟨"ClassPoolsModel", "addAttributes", "(LClassPoolsModel$HeldFile;LClassPoolsModel$Attributes;)V"⟩ ⟨"ClassPoolsModel", "addAttributes", "(LClassPoolsModel$HeldFile;LClassPoolsModel$Attributes;)V"⟩ ∈ lwg := lwg_ofS _ 54 (by decide +kernel) (by decide +kernel)
theorem inX0 : ∀ w ∈ u_ws RX0 TX0 9, w ∈ lwg := lwg_list _ [142, 144, 146, 148, 150, 152, 154, 156, 158] (by decide +kernel) (by decide +kernel)
theorem inX1 : ∀ w ∈ u_ws RX1 TX1 3, w ∈ lwg := lwg_list _ [76, 78, 80] (by decide +kernel) (by decide +kernel)
theorem inX2 : ∀ w ∈ u_ws RX2 TX2 5, w ∈ lwg := lwg_list _ [89, 91, 93, 95, 97] (by decide +kernel) (by decide +kernel)
theorem inX3 : ∀ w ∈ u_ws RX3 TX3 5, w ∈ lwg := lwg_list _ [248, 250, 252, 254, 256] (by decide +kernel) (by decide +kernel)
theorem inX4 : ∀ w ∈ u_ws RX4 TX4 2, w ∈ lwg := lwg_list _ [48, 50] (by decide +kernel) (by decide +kernel)
theorem inX6 : ∀ w ∈ u_ws RX6 TX6 2, w ∈ lwg := lwg_list _ [108, 110] (by decide +kernel) (by decide +kernel)
theorem inX7 : ∀ w ∈ u_ws RX7 TX7 8, w ∈ lwg := lwg_list _ [169, 171, 173, 175, 177, 179, 181, 183] (by decide +kernel) (by decide +kernel)
theorem inX8 : ∀ w ∈ u_ws RX8 TX8 2, w ∈ lwg := lwg_list _ [1056, 1058] (by decide +kernel) (by decide +kernel)
theorem inX9 : ∀ w ∈ u_ws RX9 TX9 10, w ∈ lwg := lwg_list _ [977, 979, 981, 983, 985, 987, 989, 991, 993, 995] (by decide +kernel) (by decide +kernel)
theorem inX10 : ∀ w ∈ u_ws RX10 TX10 5, w ∈ lwg := lwg_list _ [1268, 1270, 1272, 1274, 1276] (by decide +kernel) (by decide +kernel)
theorem inX11 : ∀ w ∈ u_ws RX11 TX11 2, w ∈ lwg := lwg_list _ [1038, 1040] (by decide +kernel) (by decide +kernel)
theorem inX12 : ∀ w ∈ u_ws RX12 TX12 17, w ∈ lwg := lwg_list _ [900, 902, 904, 906, 908, 910, 912, 914, 916, 918, 920, 922, 924, 926, 928, 930, 932] (by decide +kernel) (by decide +kernel)
theorem inJ0 : ∀ w ∈ u_ws RJ0 TJ0 2, w ∈ lwg := lwg_list _ [785, 787] (by decide +kernel) (by decide +kernel)
theorem ra_B (s : State) (c : ClassId) (h : va_RA s c .byte) : s.vm.findClass (FieldType.array .byte).toString = some c := h
theorem ra_M (s : State) (c : ClassId) (h : va_RA s c (.object RX11)) : s.vm.findClass (FieldType.array (.object RX11)).toString = some c := by
  obtain ⟨_, _, -, -, -, h5⟩ := h
  exact h5
theorem ok_0 : cOK 0 0 := ⟨rfl, lwg_1 _ 116 (by decide +kernel) (by decide +kernel), lwg_1 _ 6 (by decide +kernel) (by decide +kernel), by decide +kernel⟩
theorem ok_1 : cOK 1 1 := ⟨rfl, lwg_1 _ 205 (by decide +kernel) (by decide +kernel), lwg_1 _ 6 (by decide +kernel) (by decide +kernel), by decide +kernel⟩
theorem ok_2 : cOK 2 2 := ⟨rfl, lwg_2 _ 87 (by decide +kernel) (by decide +kernel), lwg_1 _ 6 (by decide +kernel) (by decide +kernel), by decide +kernel⟩
theorem ok_3 : cOK 3 0 := ⟨rfl, lwg_2 _ 120 (by decide +kernel) (by decide +kernel), lwg_1 _ 6 (by decide +kernel) (by decide +kernel), by decide +kernel⟩
theorem ok_4 : cOK 4 1 := ⟨rfl, lwg_2 _ 124 (by decide +kernel) (by decide +kernel), lwg_1 _ 6 (by decide +kernel) (by decide +kernel), by decide +kernel⟩
theorem ok_5 : cOK 5 1 := ⟨rfl, lwg_2 _ 128 (by decide +kernel) (by decide +kernel), lwg_1 _ 6 (by decide +kernel) (by decide +kernel), by decide +kernel⟩
theorem ok_6 : cOK 6 0 := ⟨rfl, lwg_3 _ 156 (by decide +kernel) (by decide +kernel), lwg_1 _ 6 (by decide +kernel) (by decide +kernel), by decide +kernel⟩
theorem ok_7 : cOK 7 2 := ⟨rfl, lwg_2 _ 99 (by decide +kernel) (by decide +kernel), lwg_1 _ 6 (by decide +kernel) (by decide +kernel), by decide +kernel⟩
theorem ok_8 : cOK 8 1 := ⟨rfl, lwg_2 _ 103 (by decide +kernel) (by decide +kernel), lwg_1 _ 6 (by decide +kernel) (by decide +kernel), by decide +kernel⟩
theorem ok_9 : cOK 9 2 := ⟨rfl, lwg_2 _ 150 (by decide +kernel) (by decide +kernel), lwg_1 _ 6 (by decide +kernel) (by decide +kernel), by decide +kernel⟩
theorem ok_10 : cOK 10 0 := ⟨rfl, lwg_2 _ 205 (by decide +kernel) (by decide +kernel), lwg_1 _ 6 (by decide +kernel) (by decide +kernel), by decide +kernel⟩
theorem ok_11 : cOK 11 1 := ⟨rfl, lwg_3 _ 9 (by decide +kernel) (by decide +kernel), lwg_1 _ 6 (by decide +kernel) (by decide +kernel), by decide +kernel⟩
theorem ok_12 : cOK 12 2 := ⟨rfl, lwg_3 _ 34 (by decide +kernel) (by decide +kernel), lwg_1 _ 6 (by decide +kernel) (by decide +kernel), by decide +kernel⟩
theorem ok_13 : cOK 13 3 := ⟨rfl, lwg_3 _ 30 (by decide +kernel) (by decide +kernel), lwg_1 _ 6 (by decide +kernel) (by decide +kernel), by decide +kernel⟩
theorem ok_14 : cOK 14 1 := ⟨rfl, lwg_3 _ 152 (by decide +kernel) (by decide +kernel), lwg_1 _ 6 (by decide +kernel) (by decide +kernel), by decide +kernel⟩
theorem ok_15 : cOK 15 0 := ⟨rfl, lwg_1 _ 67 (by decide +kernel) (by decide +kernel), lwg_1 _ 4 (by decide +kernel) (by decide +kernel), by decide +kernel⟩
theorem ok_16 : cOK 16 0 := ⟨rfl, lwg_2 _ 201 (by decide +kernel) (by decide +kernel), lwg_1 _ 4 (by decide +kernel) (by decide +kernel), by decide +kernel⟩
theorem ok_17 : cOK 17 1 := ⟨rfl, lwg_2 _ 62 (by decide +kernel) (by decide +kernel), lwg_1 _ 4 (by decide +kernel) (by decide +kernel), by decide +kernel⟩
theorem ok_18 : cOK 18 1 := ⟨rfl, lwg_1 _ 229 (by decide +kernel) (by decide +kernel), lwg_1 _ 4 (by decide +kernel) (by decide +kernel), by decide +kernel⟩
theorem ok_19 : cOK 19 2 := ⟨rfl, lwg_2 _ 58 (by decide +kernel) (by decide +kernel), lwg_1 _ 4 (by decide +kernel) (by decide +kernel), by decide +kernel⟩
theorem ok_20 : cOK 20 1 := ⟨rfl, lwg_3 _ 59 (by decide +kernel) (by decide +kernel), lwg_1 _ 4 (by decide +kernel) (by decide +kernel), by decide +kernel⟩
theorem ok_21 : cOK 21 1 := ⟨rfl, lwg_2 _ 140 (by decide +kernel) (by decide +kernel), lwg_1 _ 4 (by decide +kernel) (by decide +kernel), by decide +kernel⟩
theorem ok_22 : cOK 22 1 := ⟨rfl, lwg_2 _ 136 (by decide +kernel) (by decide +kernel), lwg_1 _ 4 (by decide +kernel) (by decide +kernel), by decide +kernel⟩
theorem ok_23 : cOK 23 2 := ⟨rfl, lwg_2 _ 162 (by decide +kernel) (by decide +kernel), lwg_1 _ 4 (by decide +kernel) (by decide +kernel), by decide +kernel⟩
theorem ok_24 : cOK 24 1 := ⟨rfl, lwg_2 _ 217 (by decide +kernel) (by decide +kernel), lwg_1 _ 4 (by decide +kernel) (by decide +kernel), by decide +kernel⟩
theorem ok_25 : cOK 25 1 := ⟨rfl, lwg_2 _ 221 (by decide +kernel) (by decide +kernel), lwg_1 _ 4 (by decide +kernel) (by decide +kernel), by decide +kernel⟩
theorem ok_26 : cOK 26 1 := ⟨rfl, lwg_2 _ 154 (by decide +kernel) (by decide +kernel), lwg_1 _ 4 (by decide +kernel) (by decide +kernel), by decide +kernel⟩
theorem ok_27 : cOK 27 1 := ⟨rfl, lwg_2 _ 158 (by decide +kernel) (by decide +kernel), lwg_1 _ 4 (by decide +kernel) (by decide +kernel), by decide +kernel⟩
theorem ok_28 : cOK 28 1 := ⟨rfl, lwg_3 _ 88 (by decide +kernel) (by decide +kernel), lwg_1 _ 4 (by decide +kernel) (by decide +kernel), by decide +kernel⟩
theorem ok_29 : cOK 29 1 := ⟨rfl, lwg_3 _ 194 (by decide +kernel) (by decide +kernel), lwg_1 _ 4 (by decide +kernel) (by decide +kernel), by decide +kernel⟩
theorem ok_30 : cOK 30 2 := ⟨rfl, lwg_2 _ 132 (by decide +kernel) (by decide +kernel), lwg_1 _ 4 (by decide +kernel) (by decide +kernel), by decide +kernel⟩
theorem ok_31 : cOK 31 2 := ⟨rfl, lwg_2 _ 231 (by decide +kernel) (by decide +kernel), lwg_1 _ 4 (by decide +kernel) (by decide +kernel), by decide +kernel⟩
theorem ok_32 : cOK 32 3 := ⟨rfl, lwg_3 _ 80 (by decide +kernel) (by decide +kernel), lwg_1 _ 4 (by decide +kernel) (by decide +kernel), by decide +kernel⟩
theorem ok_33 : cOK 33 0 := ⟨rfl, lwg_1 _ 60 (by decide +kernel) (by decide +kernel), lwg_1 _ 3 (by decide +kernel) (by decide +kernel), by decide +kernel⟩
theorem ok_34 : cOK 34 0 := ⟨rfl, lwg_3 _ 51 (by decide +kernel) (by decide +kernel), lwg_1 _ 3 (by decide +kernel) (by decide +kernel), by decide +kernel⟩
theorem ok_35 : cOK 35 0 := ⟨rfl, lwg_3 _ 119 (by decide +kernel) (by decide +kernel), lwg_1 _ 3 (by decide +kernel) (by decide +kernel), by decide +kernel⟩
theorem ok_36 : cOK 36 1 := ⟨rfl, lwg_3 _ 55 (by decide +kernel) (by decide +kernel), lwg_1 _ 3 (by decide +kernel) (by decide +kernel), by decide +kernel⟩
theorem ok_37 : cOK 37 2 := ⟨rfl, lwg_3 _ 114 (by decide +kernel) (by decide +kernel), lwg_1 _ 3 (by decide +kernel) (by decide +kernel), by decide +kernel⟩
theorem ok_38 : cOK 38 2 := ⟨rfl, lwg_3 _ 127 (by decide +kernel) (by decide +kernel), lwg_1 _ 3 (by decide +kernel) (by decide +kernel), by decide +kernel⟩
theorem ok_39 : cOK 39 2 := ⟨rfl, lwg_3 _ 68 (by decide +kernel) (by decide +kernel), lwg_1 _ 3 (by decide +kernel) (by decide +kernel), by decide +kernel⟩
theorem ok_40 : cOK 40 3 := ⟨rfl, lwg_3 _ 110 (by decide +kernel) (by decide +kernel), lwg_1 _ 3 (by decide +kernel) (by decide +kernel), by decide +kernel⟩
theorem ok_41 : cOK 41 1 := ⟨rfl, lwg_3 _ 72 (by decide +kernel) (by decide +kernel), lwg_1 _ 3 (by decide +kernel) (by decide +kernel), by decide +kernel⟩
theorem ok_42 : cOK 42 1 := ⟨rfl, lwg_3 _ 76 (by decide +kernel) (by decide +kernel), lwg_1 _ 3 (by decide +kernel) (by decide +kernel), by decide +kernel⟩
theorem ok_43 : cOK 43 1 := ⟨rfl, lwg_3 _ 135 (by decide +kernel) (by decide +kernel), lwg_1 _ 3 (by decide +kernel) (by decide +kernel), by decide +kernel⟩
theorem ok_44 : cOK 44 2 := ⟨rfl, lwg_3 _ 143 (by decide +kernel) (by decide +kernel), lwg_1 _ 3 (by decide +kernel) (by decide +kernel), by decide +kernel⟩
theorem ok_45 : cOK 45 1 := ⟨rfl, lwg_1 _ 239 (by decide +kernel) (by decide +kernel), lwg_1 _ 10 (by decide +kernel) (by decide +kernel), by decide +kernel⟩
theorem ok_46 : cOK 46 2 := ⟨rfl, lwg_2 _ 36 (by decide +kernel) (by decide +kernel), lwg_1 _ 10 (by decide +kernel) (by decide +kernel), by decide +kernel⟩
theorem ok_47 : cOK 47 0 := ⟨rfl, lwg_2 _ 22 (by decide +kernel) (by decide +kernel), lwg_1 _ 10 (by decide +kernel) (by decide +kernel), by decide +kernel⟩
theorem ok_48 : cOK 48 1 := ⟨rfl, lwg_2 _ 30 (by decide +kernel) (by decide +kernel), lwg_1 _ 10 (by decide +kernel) (by decide +kernel), by decide +kernel⟩
theorem ok_49 : cOK 49 1 := ⟨rfl, lwg_2 _ 83 (by decide +kernel) (by decide +kernel), lwg_1 _ 10 (by decide +kernel) (by decide +kernel), by decide +kernel⟩
theorem ok_50 : cOK 50 0 := ⟨rfl, lwg_2 _ 76 (by decide +kernel) (by decide +kernel), lwg_1 _ 10 (by decide +kernel) (by decide +kernel), by decide +kernel⟩
theorem ok_51 : cOK 51 1 := ⟨rfl, lwg_2 _ 49 (by decide +kernel) (by decide +kernel), lwg_1 _ 10 (by decide +kernel) (by decide +kernel), by decide +kernel⟩
theorem ok_52 : cOK 52 0 := ⟨rfl, lwg_2 _ 26 (by decide +kernel) (by decide +kernel), lwg_1 _ 10 (by decide +kernel) (by decide +kernel), by decide +kernel⟩
theorem ok_53 : cOK 53 0 := ⟨rfl, lwg_2 _ 45 (by decide +kernel) (by decide +kernel), lwg_1 _ 10 (by decide +kernel) (by decide +kernel), by decide +kernel⟩
theorem ok_54 : cOK 54 1 := ⟨rfl, lwg_2 _ 66 (by decide +kernel) (by decide +kernel), lwg_1 _ 10 (by decide +kernel) (by decide +kernel), by decide +kernel⟩
theorem ok_55 : cOK 55 0 := ⟨rfl, lwg_2 _ 91 (by decide +kernel) (by decide +kernel), lwg_1 _ 10 (by decide +kernel) (by decide +kernel), by decide +kernel⟩
theorem ok_56 : cOK 56 1 := ⟨rfl, lwg_2 _ 95 (by decide +kernel) (by decide +kernel), lwg_1 _ 10 (by decide +kernel) (by decide +kernel), by decide +kernel⟩
theorem ok_57 : cOK 57 0 := ⟨rfl, lwg_2 _ 107 (by decide +kernel) (by decide +kernel), lwg_1 _ 10 (by decide +kernel) (by decide +kernel), by decide +kernel⟩
theorem ok_58 : cOK 58 0 := ⟨rfl, lwg_2 _ 116 (by decide +kernel) (by decide +kernel), lwg_1 _ 10 (by decide +kernel) (by decide +kernel), by decide +kernel⟩
theorem ok_59 : cOK 59 1 := ⟨rfl, lwg_2 _ 145 (by decide +kernel) (by decide +kernel), lwg_1 _ 10 (by decide +kernel) (by decide +kernel), by decide +kernel⟩
theorem ok_60 : cOK 60 0 := ⟨rfl, lwg_1 _ 44 (by decide +kernel) (by decide +kernel), lwg_1 _ 2 (by decide +kernel) (by decide +kernel), by decide +kernel⟩
theorem ok_61 : cOK 61 0 := ⟨rfl, lwg_1 _ 193 (by decide +kernel) (by decide +kernel), lwg_1 _ 2 (by decide +kernel) (by decide +kernel), by decide +kernel⟩
theorem ok_62 : cOK 62 2 := ⟨rfl, lwg_1 _ 222 (by decide +kernel) (by decide +kernel), lwg_1 _ 2 (by decide +kernel) (by decide +kernel), by decide +kernel⟩
theorem ok_63 : cOK 63 1 := ⟨rfl, lwg_2 _ 40 (by decide +kernel) (by decide +kernel), lwg_1 _ 2 (by decide +kernel) (by decide +kernel), by decide +kernel⟩
theorem ok_64 : cOK 64 1 := ⟨rfl, lwg_2 _ 53 (by decide +kernel) (by decide +kernel), lwg_1 _ 2 (by decide +kernel) (by decide +kernel), by decide +kernel⟩
theorem ok_65 : cOK 65 1 := ⟨rfl, lwg_2 _ 111 (by decide +kernel) (by decide +kernel), lwg_1 _ 2 (by decide +kernel) (by decide +kernel), by decide +kernel⟩
theorem ok_66 : cOK 66 0 := ⟨rfl, lwg_1 _ 214 (by decide +kernel) (by decide +kernel), lwg_1 _ 2 (by decide +kernel) (by decide +kernel), by decide +kernel⟩
theorem ok_67 : cOK 67 1 := ⟨rfl, lwg_1 _ 197 (by decide +kernel) (by decide +kernel), lwg_1 _ 2 (by decide +kernel) (by decide +kernel), by decide +kernel⟩
theorem ok_68 : cOK 68 1 := ⟨rfl, lwg_3 _ 182 (by decide +kernel) (by decide +kernel), lwg_1 _ 2 (by decide +kernel) (by decide +kernel), by decide +kernel⟩
theorem ok_69 : cOK 69 2 := ⟨rfl, lwg_3 _ 204 (by decide +kernel) (by decide +kernel), lwg_1 _ 2 (by decide +kernel) (by decide +kernel), by decide +kernel⟩
theorem ok_70 : cOK 70 3 := ⟨rfl, lwg_1 _ 218 (by decide +kernel) (by decide +kernel), lwg_1 _ 2 (by decide +kernel) (by decide +kernel), by decide +kernel⟩
theorem ok_71 : cOK 71 3 := ⟨rfl, lwg_1 _ 210 (by decide +kernel) (by decide +kernel), lwg_1 _ 2 (by decide +kernel) (by decide +kernel), by decide +kernel⟩
theorem ok_72 : cOK 72 5 := ⟨rfl, lwg_3 _ 101 (by decide +kernel) (by decide +kernel), lwg_1 _ 2 (by decide +kernel) (by decide +kernel), by decide +kernel⟩
theorem ok_73 : cOK 73 3 := ⟨rfl, lwg_2 _ 166 (by decide +kernel) (by decide +kernel), lwg_1 _ 11 (by decide +kernel) (by decide +kernel), by decide +kernel⟩
theorem ok_74 : cOK 74 3 := ⟨rfl, lwg_2 _ 176 (by decide +kernel) (by decide +kernel), lwg_1 _ 11 (by decide +kernel) (by decide +kernel), by decide +kernel⟩
theorem ok_75 : cOK 75 2 := ⟨rfl, lwg_3 _ 18 (by decide +kernel) (by decide +kernel), lwg_1 _ 11 (by decide +kernel) (by decide +kernel), by decide +kernel⟩
theorem ok_76 : cOK 76 4 := ⟨rfl, lwg_3 _ 21 (by decide +kernel) (by decide +kernel), lwg_1 _ 11 (by decide +kernel) (by decide +kernel), by decide +kernel⟩
theorem ok_77 : cOK 77 3 := ⟨rfl, lwg_2 _ 179 (by decide +kernel) (by decide +kernel), lwg_1 _ 11 (by decide +kernel) (by decide +kernel), by decide +kernel⟩
theorem ok_78 : cOK 78 3 := ⟨rfl, lwg_2 _ 169 (by decide +kernel) (by decide +kernel), lwg_1 _ 11 (by decide +kernel) (by decide +kernel), by decide +kernel⟩
theorem ok_79 : cOK 79 3 := ⟨rfl, lwg_2 _ 173 (by decide +kernel) (by decide +kernel), lwg_1 _ 11 (by decide +kernel) (by decide +kernel), by decide +kernel⟩
theorem ok_80 : cOK 80 0 := ⟨rfl, lwg_1 _ 104 (by decide +kernel) (by decide +kernel), lwg_1 _ 5 (by decide +kernel) (by decide +kernel), by decide +kernel⟩
theorem ok_81 : cOK 81 2 := ⟨rfl, lwg_3 _ 167 (by decide +kernel) (by decide +kernel), lwg_1 _ 5 (by decide +kernel) (by decide +kernel), by decide +kernel⟩
theorem ok_82 : cOK 82 4 := ⟨rfl, lwg_3 _ 177 (by decide +kernel) (by decide +kernel), lwg_1 _ 5 (by decide +kernel) (by decide +kernel), by decide +kernel⟩
theorem ok_83 : cOK 83 1 := ⟨rfl, lwg_3 _ 200 (by decide +kernel) (by decide +kernel), lwg_1 _ 5 (by decide +kernel) (by decide +kernel), by decide +kernel⟩
theorem ok_84 : cOK 84 3 := ⟨rfl, lwg_3 _ 188 (by decide +kernel) (by decide +kernel), lwg_1 _ 5 (by decide +kernel) (by decide +kernel), by decide +kernel⟩
theorem ok_85 : cOK 85 2 := ⟨rfl, lwg_3 _ 209 (by decide +kernel) (by decide +kernel), lwg_1 _ 5 (by decide +kernel) (by decide +kernel), by decide +kernel⟩
theorem ok_86 : cOK 86 0 := ⟨rfl, lwg_1 _ 36 (by decide +kernel) (by decide +kernel), lwg_1 _ 1 (by decide +kernel) (by decide +kernel), by decide +kernel⟩
theorem ok_87 : cOK 87 2 := ⟨rfl, lwg_1 _ 189 (by decide +kernel) (by decide +kernel), lwg_1 _ 1 (by decide +kernel) (by decide +kernel), by decide +kernel⟩
theorem ok_88 : cOK 88 0 := ⟨rfl, lwg_1 _ 201 (by decide +kernel) (by decide +kernel), lwg_1 _ 1 (by decide +kernel) (by decide +kernel), by decide +kernel⟩
theorem ok_89 : cOK 89 0 := ⟨rfl, lwg_2 _ 184 (by decide +kernel) (by decide +kernel), lwg_1 _ 1 (by decide +kernel) (by decide +kernel), by decide +kernel⟩
theorem ok_90 : cOK 90 1 := ⟨rfl, lwg_2 _ 188 (by decide +kernel) (by decide +kernel), lwg_1 _ 1 (by decide +kernel) (by decide +kernel), by decide +kernel⟩
theorem ok_91 : cOK 91 2 := ⟨rfl, lwg_2 _ 196 (by decide +kernel) (by decide +kernel), lwg_1 _ 1 (by decide +kernel) (by decide +kernel), by decide +kernel⟩
theorem ok_92 : cOK 92 3 := ⟨rfl, lwg_2 _ 211 (by decide +kernel) (by decide +kernel), lwg_1 _ 1 (by decide +kernel) (by decide +kernel), by decide +kernel⟩
theorem ok_94 : cOK 94 3 := ⟨rfl, lwg_2 _ 226 (by decide +kernel) (by decide +kernel), lwg_1 _ 1 (by decide +kernel) (by decide +kernel), by decide +kernel⟩
theorem ok_95 : cOK 95 4 := ⟨rfl, lwg_3 _ 1 (by decide +kernel) (by decide +kernel), lwg_1 _ 1 (by decide +kernel) (by decide +kernel), by decide +kernel⟩
theorem ok_96 : cOK 96 4 := ⟨rfl, lwg_3 _ 15 (by decide +kernel) (by decide +kernel), lwg_1 _ 1 (by decide +kernel) (by decide +kernel), by decide +kernel⟩
theorem ok_97 : cOK 97 5 := ⟨rfl, lwg_3 _ 26 (by decide +kernel) (by decide +kernel), lwg_1 _ 1 (by decide +kernel) (by decide +kernel), by decide +kernel⟩
theorem ok_98 : cOK 98 1 := ⟨rfl, lwg_3 _ 41 (by decide +kernel) (by decide +kernel), lwg_1 _ 1 (by decide +kernel) (by decide +kernel), by decide +kernel⟩
theorem ok_99 : cOK 99 0 := ⟨rfl, lwg_3 _ 47 (by decide +kernel) (by decide +kernel), lwg_1 _ 1 (by decide +kernel) (by decide +kernel), by decide +kernel⟩
theorem ok_100 : cOK 100 2 := ⟨rfl, lwg_3 _ 123 (by decide +kernel) (by decide +kernel), lwg_1 _ 1 (by decide +kernel) (by decide +kernel), by decide +kernel⟩
theorem ok_101 : cOK 101 2 := ⟨rfl, lwg_3 _ 131 (by decide +kernel) (by decide +kernel), lwg_1 _ 1 (by decide +kernel) (by decide +kernel), by decide +kernel⟩
theorem ok_102 : cOK 102 2 := ⟨rfl, lwg_3 _ 147 (by decide +kernel) (by decide +kernel), lwg_1 _ 1 (by decide +kernel) (by decide +kernel), by decide +kernel⟩
theorem ok_103 : cOK 103 2 := ⟨rfl, lwg_3 _ 163 (by decide +kernel) (by decide +kernel), lwg_1 _ 1 (by decide +kernel) (by decide +kernel), by decide +kernel⟩
theorem ok_104 : cOK 104 0 := ⟨rfl, lwg_3 _ 217 (by decide +kernel) (by decide +kernel), lwg_1 _ 1 (by decide +kernel) (by decide +kernel), by decide +kernel⟩
theorem ok_105 : cOK 105 1 := ⟨rfl, lwg_2 _ 192 (by decide +kernel) (by decide +kernel), lwg_1 _ 1 (by decide +kernel) (by decide +kernel), by decide +kernel⟩
theorem ok_106 : cOK 106 2 := ⟨rfl, lwg_2 _ 235 (by decide +kernel) (by decide +kernel), lwg_1 _ 1 (by decide +kernel) (by decide +kernel), by decide +kernel⟩
theorem ok_107 : cOK 107 3 := ⟨rfl, lwg_3 _ 5 (by decide +kernel) (by decide +kernel), lwg_1 _ 1 (by decide +kernel) (by decide +kernel), by decide +kernel⟩
theorem ok_108 : cOK 108 1 := ⟨rfl, lwg_3 _ 139 (by decide +kernel) (by decide +kernel), lwg_1 _ 1 (by decide +kernel) (by decide +kernel), by decide +kernel⟩
theorem ok_109 : cOK 109 1 := ⟨rfl, lwg_2 _ 79 (by decide +kernel) (by decide +kernel), lwg_1 _ 1 (by decide +kernel) (by decide +kernel), by decide +kernel⟩
theorem ok_110 : cOK 110 1 := ⟨rfl, lwg_2 _ 72 (by decide +kernel) (by decide +kernel), lwg_1 _ 1 (by decide +kernel) (by decide +kernel), by decide +kernel⟩
theorem ok_111 : cOK 111 1 := ⟨rfl, lwg_2 _ 69 (by decide +kernel) (by decide +kernel), lwg_1 _ 1 (by decide +kernel) (by decide +kernel), by decide +kernel⟩
theorem ok_112 : cOK 112 0 := ⟨rfl, lwg_5 _ 91 (by decide +kernel) (by decide +kernel), lwg_1 _ 14 (by decide +kernel) (by decide +kernel), by decide +kernel⟩
theorem ok_113 : cOK 113 0 := ⟨rfl, lwg_4 _ 233 (by decide +kernel) (by decide +kernel), lwg_1 _ 12 (by decide +kernel) (by decide +kernel), by decide +kernel⟩
theorem ok_114 : cOK 114 1 := ⟨rfl, lwg_5 _ 61 (by decide +kernel) (by decide +kernel), lwg_1 _ 12 (by decide +kernel) (by decide +kernel), by decide +kernel⟩
theorem ok_115 : cOK 115 1 := ⟨rfl, lwg_5 _ 104 (by decide +kernel) (by decide +kernel), lwg_1 _ 12 (by decide +kernel) (by decide +kernel), by decide +kernel⟩
theorem ok_116 : cOK 116 1 := ⟨rfl, lwg_6 _ 11 (by decide +kernel) (by decide +kernel), lwg_1 _ 12 (by decide +kernel) (by decide +kernel), by decide +kernel⟩
theorem ok_117 : cOK 117 1 := ⟨rfl, lwg_5 _ 239 (by decide +kernel) (by decide +kernel), lwg_1 _ 12 (by decide +kernel) (by decide +kernel), by decide +kernel⟩
theorem ok_118 : cOK 118 1 := ⟨rfl, lwg_6 _ 3 (by decide +kernel) (by decide +kernel), lwg_1 _ 12 (by decide +kernel) (by decide +kernel), by decide +kernel⟩
theorem ok_119 : cOK 119 0 := ⟨rfl, lwg_6 _ 56 (by decide +kernel) (by decide +kernel), lwg_1 _ 31 (by decide +kernel) (by decide +kernel), by decide +kernel⟩
theorem ok_120 : cOK 120 0 := ⟨rfl, lwg_5 _ 74 (by decide +kernel) (by decide +kernel), lwg_1 _ 13 (by decide +kernel) (by decide +kernel), by decide +kernel⟩
theorem ok_121 : cOK 121 0 := ⟨rfl, lwg_4 _ 157 (by decide +kernel) (by decide +kernel), lwg_1 _ 7 (by decide +kernel) (by decide +kernel), by decide +kernel⟩
theorem ok_122 : cOK 122 0 := ⟨rfl, lwg_4 _ 218 (by decide +kernel) (by decide +kernel), lwg_1 _ 7 (by decide +kernel) (by decide +kernel), by decide +kernel⟩
theorem ok_123 : cOK 123 3 := ⟨rfl, lwg_4 _ 225 (by decide +kernel) (by decide +kernel), lwg_1 _ 7 (by decide +kernel) (by decide +kernel), by decide +kernel⟩
theorem ok_124 : cOK 124 1 := ⟨rfl, lwg_5 _ 227 (by decide +kernel) (by decide +kernel), lwg_1 _ 7 (by decide +kernel) (by decide +kernel), by decide +kernel⟩
theorem ok_125 : cOK 125 2 := ⟨rfl, lwg_4 _ 222 (by decide +kernel) (by decide +kernel), lwg_1 _ 7 (by decide +kernel) (by decide +kernel), by decide +kernel⟩
theorem ok_126 : cOK 126 2 := ⟨rfl, lwg_5 _ 53 (by decide +kernel) (by decide +kernel), lwg_1 _ 7 (by decide +kernel) (by decide +kernel), by decide +kernel⟩
theorem ok_127 : cOK 127 1 := ⟨rfl, lwg_5 _ 49 (by decide +kernel) (by decide +kernel), lwg_1 _ 7 (by decide +kernel) (by decide +kernel), by decide +kernel⟩
theorem ok_128 : cOK 128 0 := ⟨rfl, lwg_5 _ 57 (by decide +kernel) (by decide +kernel), lwg_1 _ 7 (by decide +kernel) (by decide +kernel), by decide +kernel⟩
theorem ok_129 : cOK 129 1 := ⟨rfl, lwg_5 _ 69 (by decide +kernel) (by decide +kernel), lwg_1 _ 7 (by decide +kernel) (by decide +kernel), by decide +kernel⟩
theorem ok_130 : cOK 130 0 := ⟨rfl, lwg_5 _ 45 (by decide +kernel) (by decide +kernel), lwg_1 _ 7 (by decide +kernel) (by decide +kernel), by decide +kernel⟩
theorem ok_131 : cOK 131 0 := ⟨rfl, lwg_5 _ 86 (by decide +kernel) (by decide +kernel), lwg_1 _ 7 (by decide +kernel) (by decide +kernel), by decide +kernel⟩
theorem ok_132 : cOK 132 1 := ⟨rfl, lwg_5 _ 65 (by decide +kernel) (by decide +kernel), lwg_1 _ 7 (by decide +kernel) (by decide +kernel), by decide +kernel⟩
theorem ok_133 : cOK 133 3 := ⟨rfl, lwg_5 _ 40 (by decide +kernel) (by decide +kernel), lwg_1 _ 7 (by decide +kernel) (by decide +kernel), by decide +kernel⟩
theorem ok_134 : cOK 134 3 := ⟨rfl, lwg_5 _ 116 (by decide +kernel) (by decide +kernel), lwg_1 _ 7 (by decide +kernel) (by decide +kernel), by decide +kernel⟩
theorem ok_135 : cOK 135 2 := ⟨rfl, lwg_5 _ 113 (by decide +kernel) (by decide +kernel), lwg_1 _ 7 (by decide +kernel) (by decide +kernel), by decide +kernel⟩
theorem ok_136 : cOK 136 1 := ⟨rfl, lwg_5 _ 120 (by decide +kernel) (by decide +kernel), lwg_1 _ 7 (by decide +kernel) (by decide +kernel), by decide +kernel⟩
theorem ok_137 : cOK 137 0 := ⟨rfl, lwg_5 _ 109 (by decide +kernel) (by decide +kernel), lwg_1 _ 7 (by decide +kernel) (by decide +kernel), by decide +kernel⟩
theorem ok_138 : cOK 138 2 := ⟨rfl, lwg_5 _ 130 (by decide +kernel) (by decide +kernel), lwg_1 _ 7 (by decide +kernel) (by decide +kernel), by decide +kernel⟩
theorem ok_139 : cOK 139 2 := ⟨rfl, lwg_6 _ 32 (by decide +kernel) (by decide +kernel), lwg_1 _ 7 (by decide +kernel) (by decide +kernel), by decide +kernel⟩
theorem ok_140 : cOK 140 2 := ⟨rfl, lwg_5 _ 127 (by decide +kernel) (by decide +kernel), lwg_1 _ 7 (by decide +kernel) (by decide +kernel), by decide +kernel⟩
theorem ok_141 : cOK 141 3 := ⟨rfl, lwg_5 _ 124 (by decide +kernel) (by decide +kernel), lwg_1 _ 7 (by decide +kernel) (by decide +kernel), by decide +kernel⟩
theorem ok_142 : cOK 142 0 := ⟨rfl, lwg_4 _ 229 (by decide +kernel) (by decide +kernel), lwg_1 _ 7 (by decide +kernel) (by decide +kernel), by decide +kernel⟩
theorem ok_143 : cOK 143 0 := ⟨rfl, lwg_5 _ 219 (by decide +kernel) (by decide +kernel), lwg_1 _ 7 (by decide +kernel) (by decide +kernel), by decide +kernel⟩
theorem ok_144 : cOK 144 1 := ⟨rfl, lwg_5 _ 223 (by decide +kernel) (by decide +kernel), lwg_1 _ 7 (by decide +kernel) (by decide +kernel), by decide +kernel⟩
theorem ok_145 : cOK 145 2 := ⟨rfl, lwg_5 _ 231 (by decide +kernel) (by decide +kernel), lwg_1 _ 7 (by decide +kernel) (by decide +kernel), by decide +kernel⟩
theorem ok_146 : cOK 146 3 := ⟨rfl, lwg_5 _ 235 (by decide +kernel) (by decide +kernel), lwg_1 _ 7 (by decide +kernel) (by decide +kernel), by decide +kernel⟩
theorem ok_147 : cOK 147 2 := ⟨rfl, lwg_6 _ 7 (by decide +kernel) (by decide +kernel), lwg_1 _ 7 (by decide +kernel) (by decide +kernel), by decide +kernel⟩
theorem ok_148 : cOK 148 1 := ⟨rfl, lwg_6 _ 21 (by decide +kernel) (by decide +kernel), lwg_1 _ 7 (by decide +kernel) (by decide +kernel), by decide +kernel⟩
theorem ok_149 : cOK 149 3 := ⟨rfl, lwg_6 _ 17 (by decide +kernel) (by decide +kernel), lwg_1 _ 7 (by decide +kernel) (by decide +kernel), by decide +kernel⟩
theorem ok_150 : cOK 150 4 := ⟨rfl, lwg_6 _ 25 (by decide +kernel) (by decide +kernel), lwg_1 _ 7 (by decide +kernel) (by decide +kernel), by decide +kernel⟩
theorem ok_151 : cOK 151 4 := ⟨rfl, lwg_6 _ 29 (by decide +kernel) (by decide +kernel), lwg_1 _ 7 (by decide +kernel) (by decide +kernel), by decide +kernel⟩
theorem ok_152 : cOK 152 5 := ⟨rfl, lwg_6 _ 36 (by decide +kernel) (by decide +kernel), lwg_1 _ 7 (by decide +kernel) (by decide +kernel), by decide +kernel⟩
theorem ok_153 : cOK 153 1 := ⟨rfl, lwg_6 _ 40 (by decide +kernel) (by decide +kernel), lwg_1 _ 7 (by decide +kernel) (by decide +kernel), by decide +kernel⟩
theorem ok_154 : cOK 154 2 := ⟨rfl, lwg_6 _ 52 (by decide +kernel) (by decide +kernel), lwg_1 _ 7 (by decide +kernel) (by decide +kernel), by decide +kernel⟩
theorem ok_155 : cOK 155 2 := ⟨rfl, lwg_6 _ 87 (by decide +kernel) (by decide +kernel), lwg_1 _ 7 (by decide +kernel) (by decide +kernel), by decide +kernel⟩
theorem ok_156 : cOK 156 2 := ⟨rfl, lwg_6 _ 84 (by decide +kernel) (by decide +kernel), lwg_1 _ 7 (by decide +kernel) (by decide +kernel), by decide +kernel⟩
theorem ok_157 : cOK 157 3 := ⟨rfl, lwg_6 _ 81 (by decide +kernel) (by decide +kernel), lwg_1 _ 7 (by decide +kernel) (by decide +kernel), by decide +kernel⟩
theorem ok_158 : cOK 158 3 := ⟨rfl, lwg_6 _ 48 (by decide +kernel) (by decide +kernel), lwg_1 _ 7 (by decide +kernel) (by decide +kernel), by decide +kernel⟩
theorem ok_159 : cOK 159 0 := ⟨rfl, lwg_6 _ 44 (by decide +kernel) (by decide +kernel), lwg_1 _ 7 (by decide +kernel) (by decide +kernel), by decide +kernel⟩
theorem ok_160 : cOK 160 2 := ⟨rfl, lwg_6 _ 96 (by decide +kernel) (by decide +kernel), lwg_1 _ 7 (by decide +kernel) (by decide +kernel), by decide +kernel⟩
theorem ok_161 : cOK 161 2 := ⟨rfl, lwg_6 _ 92 (by decide +kernel) (by decide +kernel), lwg_1 _ 7 (by decide +kernel) (by decide +kernel), by decide +kernel⟩
theorem ok_162 : cOK 162 2 := ⟨rfl, lwg_6 _ 101 (by decide +kernel) (by decide +kernel), lwg_1 _ 7 (by decide +kernel) (by decide +kernel), by decide +kernel⟩
theorem ok_163 : cOK 163 5 := ⟨rfl, lwg_6 _ 121 (by decide +kernel) (by decide +kernel), lwg_1 _ 7 (by decide +kernel) (by decide +kernel), by decide +kernel⟩
theorem ok_164 : cOK 164 4 := ⟨rfl, lwg_6 _ 113 (by decide +kernel) (by decide +kernel), lwg_1 _ 7 (by decide +kernel) (by decide +kernel), by decide +kernel⟩
theorem ok_165 : cOK 165 4 := ⟨rfl, lwg_6 _ 117 (by decide +kernel) (by decide +kernel), lwg_1 _ 7 (by decide +kernel) (by decide +kernel), by decide +kernel⟩
theorem ok_166 : cOK 166 2 := ⟨rfl, lwg_6 _ 109 (by decide +kernel) (by decide +kernel), lwg_1 _ 7 (by decide +kernel) (by decide +kernel), by decide +kernel⟩
theorem ok_167 : cOK 167 2 := ⟨rfl, lwg_6 _ 105 (by decide +kernel) (by decide +kernel), lwg_1 _ 7 (by decide +kernel) (by decide +kernel), by decide +kernel⟩
theorem ok_168 : cOK 168 1 := ⟨rfl, lwg_6 _ 137 (by decide +kernel) (by decide +kernel), lwg_1 _ 7 (by decide +kernel) (by decide +kernel), by decide +kernel⟩
theorem ok_169 : cOK 169 1 := ⟨rfl, lwg_6 _ 141 (by decide +kernel) (by decide +kernel), lwg_1 _ 7 (by decide +kernel) (by decide +kernel), by decide +kernel⟩
theorem ok_170 : cOK 170 1 := ⟨rfl, lwg_6 _ 150 (by decide +kernel) (by decide +kernel), lwg_1 _ 7 (by decide +kernel) (by decide +kernel), by decide +kernel⟩
theorem ok_171 : cOK 171 3 := ⟨rfl, lwg_6 _ 133 (by decide +kernel) (by decide +kernel), lwg_1 _ 7 (by decide +kernel) (by decide +kernel), by decide +kernel⟩
theorem ok_172 : cOK 172 2 := ⟨rfl, lwg_6 _ 158 (by decide +kernel) (by decide +kernel), lwg_1 _ 7 (by decide +kernel) (by decide +kernel), by decide +kernel⟩
theorem ok_173 : cOK 173 3 := ⟨rfl, lwg_6 _ 154 (by decide +kernel) (by decide +kernel), lwg_1 _ 7 (by decide +kernel) (by decide +kernel), by decide +kernel⟩
theorem ok_174 : cOK 174 1 := ⟨rfl, lwg_6 _ 145 (by decide +kernel) (by decide +kernel), lwg_1 _ 7 (by decide +kernel) (by decide +kernel), by decide +kernel⟩
theorem ok_175 : cOK 175 2 := ⟨rfl, lwg_6 _ 162 (by decide +kernel) (by decide +kernel), lwg_1 _ 7 (by decide +kernel) (by decide +kernel), by decide +kernel⟩
theorem ok_176 : cOK 176 1 := ⟨rfl, lwg_6 _ 129 (by decide +kernel) (by decide +kernel), lwg_1 _ 7 (by decide +kernel) (by decide +kernel), by decide +kernel⟩
theorem ok_177 : cOK 177 2 := ⟨rfl, lwg_6 _ 125 (by decide +kernel) (by decide +kernel), lwg_1 _ 7 (by decide +kernel) (by decide +kernel), by decide +kernel⟩
theorem ok_178 : cOK 178 0 := ⟨rfl, lwg_6 _ 166 (by decide +kernel) (by decide +kernel), lwg_1 _ 7 (by decide +kernel) (by decide +kernel), by decide +kernel⟩
theorem ok_179 : cOK 179 2 := ⟨rfl, lwg_3 _ 83 (by decide +kernel) (by decide +kernel), lwg_1 _ 29 (by decide +kernel) (by decide +kernel), by decide +kernel⟩
theorem ok_180 : cOK 180 2 := ⟨rfl, lwg_3 _ 94 (by decide +kernel) (by decide +kernel), lwg_1 _ 30 (by decide +kernel) (by decide +kernel), by decide +kernel⟩
theorem ok_181 : cOK 181 2 := ⟨rfl, lwg_5 _ 162 (by decide +kernel) (by decide +kernel), lwg_1 _ 17 (by decide +kernel) (by decide +kernel), by decide +kernel⟩
theorem ok_182 : cOK 182 2 := ⟨rfl, lwg_3 _ 104 (by decide +kernel) (by decide +kernel), lwg_1 _ 17 (by decide +kernel) (by decide +kernel), by decide +kernel⟩
theorem ok_183 : cOK 183 0 := ⟨rfl, lwg_5 _ 149 (by decide +kernel) (by decide +kernel), lwg_1 _ 15 (by decide +kernel) (by decide +kernel), by decide +kernel⟩
theorem ok_184 : cOK 184 1 := ⟨rfl, lwg_5 _ 135 (by decide +kernel) (by decide +kernel), lwg_1 _ 15 (by decide +kernel) (by decide +kernel), by decide +kernel⟩
theorem ok_185 : cOK 185 2 := ⟨rfl, lwg_5 _ 139 (by decide +kernel) (by decide +kernel), lwg_1 _ 15 (by decide +kernel) (by decide +kernel), by decide +kernel⟩
theorem ok_186 : cOK 186 0 := ⟨rfl, lwg_5 _ 153 (by decide +kernel) (by decide +kernel), lwg_1 _ 15 (by decide +kernel) (by decide +kernel), by decide +kernel⟩
theorem ok_187 : cOK 187 0 := ⟨rfl, lwg_5 _ 143 (by decide +kernel) (by decide +kernel), lwg_1 _ 15 (by decide +kernel) (by decide +kernel), by decide +kernel⟩
theorem ok_188 : cOK 188 1 := ⟨rfl, lwg_5 _ 159 (by decide +kernel) (by decide +kernel), lwg_1 _ 16 (by decide +kernel) (by decide +kernel), by decide +kernel⟩
theorem ok_189 : cOK 189 4 := ⟨rfl, lwg_5 _ 156 (by decide +kernel) (by decide +kernel), lwg_1 _ 16 (by decide +kernel) (by decide +kernel), by decide +kernel⟩
theorem ok_190 : cOK 190 4 := ⟨rfl, lwg_5 _ 166 (by decide +kernel) (by decide +kernel), lwg_1 _ 16 (by decide +kernel) (by decide +kernel), by decide +kernel⟩
theorem ok_191 : cOK 191 2 := ⟨rfl, lwg_1 _ 232 (by decide +kernel) (by decide +kernel), lwg_1 _ 9 (by decide +kernel) (by decide +kernel), by decide +kernel⟩
