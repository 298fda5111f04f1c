def zT : List Cond := lw_tbl.filter goodWord
theorem zT_in {w : Cond} (h : w ∈ tables_1) (g : goodWord w = true) : w ∈ zT := List.mem_filter.mpr ⟨List.mem_append_right _ h, g⟩
theorem zT_1 {w : Cond} {i : Nat} (h : tables_1_1[i]? = some w) (g : goodWord w = true) : w ∈ zT := zT_in (by unfold tables_1; exact (List.mem_append_left _ (List.mem_of_getElem? h))) g
theorem zT_2 {w : Cond} {i : Nat} (h : tables_1_2[i]? = some w) (g : goodWord w = true) : w ∈ zT := zT_in (by unfold tables_1; exact (List.mem_append_right _ (List.mem_append_left _ (List.mem_of_getElem? h)))) g
theorem zT_3 {w : Cond} {i : Nat} (h : tables_1_3[i]? = some w) (g : goodWord w = true) : w ∈ zT := zT_in (by unfold tables_1; exact (List.mem_append_right _ (List.mem_append_right _ (List.mem_append_left _ (List.mem_of_getElem? h))))) g
theorem zT_4 {w : Cond} {i : Nat} (h : tables_1_4[i]? = some w) (g : goodWord w = true) : w ∈ zT := zT_in (by unfold tables_1; exact (List.mem_append_right _ (List.mem_append_right _ (List.mem_append_right _ (List.mem_append_left _ (List.mem_of_getElem? h)))))) g
theorem zT_5 {w : Cond} {i : Nat} (h : tables_1_5[i]? = some w) (g : goodWord w = true) : w ∈ zT := zT_in (by unfold tables_1; exact (List.mem_append_right _ (List.mem_append_right _ (List.mem_append_right _ (List.mem_append_right _ (List.mem_append_left _ (List.mem_of_getElem? h))))))) g
theorem zT_6 {w : Cond} {i : Nat} (h : tables_1_6[i]? = some w) (g : goodWord w = true) : w ∈ zT := zT_in (by unfold tables_1; exact (List.mem_append_right _ (List.mem_append_right _ (List.mem_append_right _ (List.mem_append_right _ (List.mem_append_right _ (List.mem_of_getElem? h))))))) g
theorem zT_s {q : MethodName × Nat} (h : q ∈ lw_privs) : Cond.selects q.1.cls q.1 q.1 ∈ zT := List.mem_filter.mpr ⟨List.mem_append_left _ (List.mem_map.mpr ⟨q, h, rfl⟩), rfl⟩
theorem zT_s1 {q : MethodName × Nat} {i : Nat} (h : lw_privs_1[i]? = some q) : Cond.selects q.1.cls q.1 q.1 ∈ zT := zT_s (by unfold lw_privs; exact (List.mem_append_left _ (List.mem_of_getElem? h)))
theorem zT_s2 {q : MethodName × Nat} {i : Nat} (h : lw_privs_2[i]? = some q) : Cond.selects q.1.cls q.1 q.1 ∈ zT := zT_s (by unfold lw_privs; exact (List.mem_append_right _ (List.mem_append_left _ (List.mem_of_getElem? h))))
theorem zT_s3 {q : MethodName × Nat} {i : Nat} (h : lw_privs_3[i]? = some q) : Cond.selects q.1.cls q.1 q.1 ∈ zT := zT_s (by unfold lw_privs; exact (List.mem_append_right _ (List.mem_append_right _ (List.mem_append_left _ (List.mem_of_getElem? h)))))
theorem zT_s4 {q : MethodName × Nat} {i : Nat} (h : lw_privs_4[i]? = some q) : Cond.selects q.1.cls q.1 q.1 ∈ zT := zT_s (by unfold lw_privs; exact (List.mem_append_right _ (List.mem_append_right _ (List.mem_append_right _ (List.mem_append_left _ (List.mem_of_getElem? h))))))
theorem zT_s5 {q : MethodName × Nat} {i : Nat} (h : lw_privs_5[i]? = some q) : Cond.selects q.1.cls q.1 q.1 ∈ zT := zT_s (by unfold lw_privs; exact (List.mem_append_right _ (List.mem_append_right _ (List.mem_append_right _ (List.mem_append_right _ (List.mem_append_left _ (List.mem_of_getElem? h)))))))
theorem zT_s6 {q : MethodName × Nat} {i : Nat} (h : lw_privs_6[i]? = some q) : Cond.selects q.1.cls q.1 q.1 ∈ zT := zT_s (by unfold lw_privs; exact (List.mem_append_right _ (List.mem_append_right _ (List.mem_append_right _ (List.mem_append_right _ (List.mem_append_right _ (List.mem_of_getElem? h)))))))
theorem tw_1_0 : (Jvm.Cond.initialized "SumNamesLaw") ∈ zT := zT_1 (i := 0) (by decide +kernel) rfl
theorem tw_1_1 : (Jvm.Cond.initialized "SumNames") ∈ zT := zT_1 (i := 1) (by decide +kernel) rfl
theorem tw_1_2 : (Jvm.Cond.initialized "SumNames$World") ∈ zT := zT_1 (i := 2) (by decide +kernel) rfl
theorem tw_1_3 : (Jvm.Cond.initialized "SumNames$Reader") ∈ zT := zT_1 (i := 3) (by decide +kernel) rfl
theorem tw_1_4 : (Jvm.Cond.initialized "SumNames$NameRow") ∈ zT := zT_1 (i := 4) (by decide +kernel) rfl
theorem tw_1_5 : (Jvm.Cond.initialized "SumNames$Reach") ∈ zT := zT_1 (i := 5) (by decide +kernel) rfl
theorem tw_1_6 : (Jvm.Cond.initialized "SumNames$OldNames") ∈ zT := zT_1 (i := 6) (by decide +kernel) rfl
theorem tw_1_7 : (Jvm.Cond.initialized "SumNames$Sheet") ∈ zT := zT_1 (i := 7) (by decide +kernel) rfl
theorem tw_1_8 : (Jvm.Cond.initialized "SumNamesModel") ∈ zT := zT_1 (i := 8) (by decide +kernel) rfl
theorem tw_1_9 : (Jvm.Cond.initialized "java/lang/System") ∈ zT := zT_1 (i := 9) (by decide +kernel) rfl
theorem tw_1_10 : (Jvm.Cond.initialized "java/lang/String") ∈ zT := zT_1 (i := 10) (by decide +kernel) rfl
theorem tw_1_11 : (Jvm.Cond.initialized "java/lang/StringLatin1") ∈ zT := zT_1 (i := 11) (by decide +kernel) rfl
theorem tw_1_12 : (Jvm.Cond.initialized "jdk/internal/util/Preconditions") ∈ zT := zT_1 (i := 12) (by decide +kernel) rfl
theorem tw_1_13 : (Jvm.Cond.initialized "java/lang/StringUTF16") ∈ zT := zT_1 (i := 13) (by decide +kernel) rfl
theorem tw_1_14 : (Jvm.Cond.initialized "java/lang/Integer") ∈ zT := zT_1 (i := 14) (by decide +kernel) rfl
theorem tw_1_15 : (Jvm.Cond.initialized "java/lang/Math") ∈ zT := zT_1 (i := 15) (by decide +kernel) rfl
theorem tw_1_16 : (Jvm.Cond.classLink "SumNamesLaw" (7 : Nat) "SumNames") ∈ zT := zT_1 (i := 16) (by decide +kernel) rfl
theorem tw_1_17 : (Jvm.Cond.instantiable "SumNames" (8 : Nat)) ∈ zT := zT_1 (i := 17) (by decide +kernel) rfl
theorem tw_1_18 : (Jvm.Cond.methodLink "SumNamesLaw" (9 : Nat) ({ cls := "SumNames", name := "<init>", desc := "()V" } : Jvm.MethodName)) ∈ zT := zT_1 (i := 18) (by decide +kernel) rfl
theorem tw_1_19 : (Jvm.Cond.instanceMethod ({ cls := "SumNames", name := "<init>", desc := "()V" } : Jvm.MethodName)) ∈ zT := zT_1 (i := 19) (by decide +kernel) rfl
set_option maxRecDepth 100000 in
theorem tw_1_20 : (Jvm.Cond.code ({ cls := "SumNames", name := "<init>", desc := "()V" } : Jvm.MethodName) prog_1_method_1_code (2 : Nat) (Option.none : Option Jvm.ClassFile.FieldType)) ∈ zT := zT_1 (i := 20) rfl rfl
theorem tw_1_21 : (Jvm.Cond.methodLink "SumNames" (1 : Nat) ({ cls := "java/lang/Object", name := "<init>", desc := "()V" } : Jvm.MethodName)) ∈ zT := zT_1 (i := 21) (by decide +kernel) rfl
theorem tw_1_22 : (Jvm.Cond.instanceMethod ({ cls := "java/lang/Object", name := "<init>", desc := "()V" } : Jvm.MethodName)) ∈ zT := zT_1 (i := 22) (by decide +kernel) rfl
set_option maxRecDepth 100000 in
theorem tw_1_23 : (Jvm.Cond.code ({ cls := "java/lang/Object", name := "<init>", desc := "()V" } : Jvm.MethodName) object_method_1_code (1 : Nat) (Option.none : Option Jvm.ClassFile.FieldType)) ∈ zT := zT_1 (i := 23) rfl rfl
theorem tw_1_24 : (Jvm.Cond.classLink "SumNames" (7 : Nat) "SumNames$World") ∈ zT := zT_1 (i := 24) (by decide +kernel) rfl
theorem tw_1_25 : (Jvm.Cond.instantiable "SumNames$World" (13 : Nat)) ∈ zT := zT_1 (i := 25) (by decide +kernel) rfl
theorem tw_1_26 : (Jvm.Cond.methodLink "SumNames" (9 : Nat) ({ cls := "SumNames$World", name := "<init>", desc := "()V" } : Jvm.MethodName)) ∈ zT := zT_1 (i := 26) (by decide +kernel) rfl
theorem tw_1_27 : (Jvm.Cond.instanceMethod ({ cls := "SumNames$World", name := "<init>", desc := "()V" } : Jvm.MethodName)) ∈ zT := zT_1 (i := 27) (by decide +kernel) rfl
set_option maxRecDepth 100000 in
theorem tw_1_28 : (Jvm.Cond.code ({ cls := "SumNames$World", name := "<init>", desc := "()V" } : Jvm.MethodName) prog_7_method_1_code (2 : Nat) (Option.none : Option Jvm.ClassFile.FieldType)) ∈ zT := zT_1 (i := 28) rfl rfl
theorem tw_1_29 : (Jvm.Cond.methodLink "SumNames$World" (3 : Nat) ({ cls := "java/lang/Object", name := "<init>", desc := "()V" } : Jvm.MethodName)) ∈ zT := zT_1 (i := 29) (by decide +kernel) rfl
theorem tw_1_30 : (Jvm.Cond.fieldLink "SumNames$World" (9 : Nat) "SumNames$World" "numbers" "[I") ∈ zT := zT_1 (i := 30) (by decide +kernel) rfl
theorem tw_1_31 : (Jvm.Cond.fieldLink "SumNames$Reader" (132 : Nat) "SumNames$World" "numbers" "[I") ∈ zT := zT_1 (i := 31) (by decide +kernel) rfl
theorem tw_1_32 : (Jvm.Cond.fieldLink "SumNames" (85 : Nat) "SumNames$World" "numbers" "[I") ∈ zT := zT_1 (i := 32) (by decide +kernel) rfl
theorem tw_1_33 : (Jvm.Cond.fieldLink "SumNames$World" (15 : Nat) "SumNames$World" "syllables" "[J") ∈ zT := zT_1 (i := 33) (by decide +kernel) rfl
theorem tw_1_34 : (Jvm.Cond.fieldLink "SumNames$Reach" (25 : Nat) "SumNames$World" "syllables" "[J") ∈ zT := zT_1 (i := 34) (by decide +kernel) rfl
theorem tw_1_35 : (Jvm.Cond.fieldLink "SumNames$NameRow" (58 : Nat) "SumNames$World" "syllables" "[J") ∈ zT := zT_1 (i := 35) (by decide +kernel) rfl
theorem tw_1_36 : (Jvm.Cond.fieldLink "SumNames$World" (19 : Nat) "SumNames$World" "syllableCount" "I") ∈ zT := zT_1 (i := 36) (by decide +kernel) rfl
theorem tw_1_37 : (Jvm.Cond.fieldLink "SumNames$Reach" (19 : Nat) "SumNames$World" "syllableCount" "I") ∈ zT := zT_1 (i := 37) (by decide +kernel) rfl
theorem tw_1_38 : (Jvm.Cond.fieldLink "SumNames$NameRow" (53 : Nat) "SumNames$World" "syllableCount" "I") ∈ zT := zT_1 (i := 38) (by decide +kernel) rfl
theorem tw_1_39 : (Jvm.Cond.fieldLink "SumNames" (216 : Nat) "SumNames$World" "syllableCount" "I") ∈ zT := zT_1 (i := 39) (by decide +kernel) rfl
theorem tw_1_40 : (Jvm.Cond.fieldLink "SumNames$World" (23 : Nat) "SumNames$World" "days" "[I") ∈ zT := zT_1 (i := 40) (by decide +kernel) rfl
theorem tw_1_41 : (Jvm.Cond.fieldLink "SumNames$OldNames" (58 : Nat) "SumNames$World" "days" "[I") ∈ zT := zT_1 (i := 41) (by decide +kernel) rfl
theorem tw_1_42 : (Jvm.Cond.fieldLink "SumNames" (91 : Nat) "SumNames$World" "days" "[I") ∈ zT := zT_1 (i := 42) (by decide +kernel) rfl
theorem tw_1_43 : (Jvm.Cond.fieldLink "SumNames$World" (26 : Nat) "SumNames$World" "words" "[J") ∈ zT := zT_1 (i := 43) (by decide +kernel) rfl
theorem tw_1_44 : (Jvm.Cond.fieldLink "SumNames$OldNames" (54 : Nat) "SumNames$World" "words" "[J") ∈ zT := zT_1 (i := 44) (by decide +kernel) rfl
theorem tw_1_45 : (Jvm.Cond.fieldLink "SumNames" (107 : Nat) "SumNames$World" "words" "[J") ∈ zT := zT_1 (i := 45) (by decide +kernel) rfl
theorem tw_1_46 : (Jvm.Cond.fieldLink "SumNames$Reader" (145 : Nat) "SumNames$World" "words" "[J") ∈ zT := zT_1 (i := 46) (by decide +kernel) rfl
theorem tw_1_47 : (Jvm.Cond.fieldLink "SumNames$World" (29 : Nat) "SumNames$World" "parents" "[I") ∈ zT := zT_1 (i := 47) (by decide +kernel) rfl
theorem tw_1_48 : (Jvm.Cond.fieldLink "SumNames" (94 : Nat) "SumNames$World" "parents" "[I") ∈ zT := zT_1 (i := 48) (by decide +kernel) rfl
theorem tw_1_49 : (Jvm.Cond.fieldLink "SumNames$World" (32 : Nat) "SumNames$World" "otherParents" "[I") ∈ zT := zT_1 (i := 49) (by decide +kernel) rfl
theorem tw_1_50 : (Jvm.Cond.fieldLink "SumNames" (97 : Nat) "SumNames$World" "otherParents" "[I") ∈ zT := zT_1 (i := 50) (by decide +kernel) rfl
theorem tw_1_51 : (Jvm.Cond.fieldLink "SumNames$World" (35 : Nat) "SumNames$World" "kinds" "[I") ∈ zT := zT_1 (i := 51) (by decide +kernel) rfl
theorem tw_1_52 : (Jvm.Cond.fieldLink "SumNames" (100 : Nat) "SumNames$World" "kinds" "[I") ∈ zT := zT_1 (i := 52) (by decide +kernel) rfl
theorem tw_1_53 : (Jvm.Cond.fieldLink "SumNames$World" (38 : Nat) "SumNames$World" "personCount" "I") ∈ zT := zT_1 (i := 53) (by decide +kernel) rfl
theorem tw_1_54 : (Jvm.Cond.fieldLink "SumNames$OldNames" (49 : Nat) "SumNames$World" "personCount" "I") ∈ zT := zT_1 (i := 54) (by decide +kernel) rfl
theorem tw_1_55 : (Jvm.Cond.fieldLink "SumNames$Reader" (87 : Nat) "SumNames$World" "personCount" "I") ∈ zT := zT_1 (i := 55) (by decide +kernel) rfl
theorem tw_1_56 : (Jvm.Cond.fieldLink "SumNames" (247 : Nat) "SumNames$World" "personCount" "I") ∈ zT := zT_1 (i := 56) (by decide +kernel) rfl
theorem tw_1_57 : (Jvm.Cond.fieldLink "SumNames$World" (41 : Nat) "SumNames$World" "hopeDays" "[I") ∈ zT := zT_1 (i := 57) (by decide +kernel) rfl
theorem tw_1_58 : (Jvm.Cond.fieldLink "SumNames" (188 : Nat) "SumNames$World" "hopeDays" "[I") ∈ zT := zT_1 (i := 58) (by decide +kernel) rfl
theorem tw_1_59 : (Jvm.Cond.fieldLink "SumNames$World" (44 : Nat) "SumNames$World" "hopeTenths" "[I") ∈ zT := zT_1 (i := 59) (by decide +kernel) rfl
theorem tw_1_60 : (Jvm.Cond.fieldLink "SumNames" (201 : Nat) "SumNames$World" "hopeTenths" "[I") ∈ zT := zT_1 (i := 60) (by decide +kernel) rfl
theorem tw_1_61 : (Jvm.Cond.fieldLink "SumNames$World" (47 : Nat) "SumNames$World" "hopeCount" "I") ∈ zT := zT_1 (i := 61) (by decide +kernel) rfl
theorem tw_1_62 : (Jvm.Cond.fieldLink "SumNames$Reader" (149 : Nat) "SumNames$World" "hopeCount" "I") ∈ zT := zT_1 (i := 62) (by decide +kernel) rfl
theorem tw_1_63 : (Jvm.Cond.fieldLink "SumNames" (179 : Nat) "SumNames$World" "hopeCount" "I") ∈ zT := zT_1 (i := 63) (by decide +kernel) rfl
theorem tw_1_64 : (Jvm.Cond.fieldLink "SumNames$World" (50 : Nat) "SumNames$World" "degreesTold" "I") ∈ zT := zT_1 (i := 64) (by decide +kernel) rfl
theorem tw_1_65 : (Jvm.Cond.fieldLink "SumNames$Reader" (156 : Nat) "SumNames$World" "degreesTold" "I") ∈ zT := zT_1 (i := 65) (by decide +kernel) rfl
theorem tw_1_66 : (Jvm.Cond.fieldLink "SumNames" (305 : Nat) "SumNames$World" "degreesTold" "I") ∈ zT := zT_1 (i := 66) (by decide +kernel) rfl
theorem tw_1_94 : (Jvm.Cond.arrayClass Jvm.ClassFile.FieldType.int) ∈ zT := zT_1 (i := 94) (by decide +kernel) rfl
theorem tw_1_95 : (Jvm.Cond.arrayClass Jvm.ClassFile.FieldType.long) ∈ zT := zT_1 (i := 95) (by decide +kernel) rfl
theorem tw_1_97 : (Jvm.Cond.classLink "SumNames" (20 : Nat) "SumNames$Reader") ∈ zT := zT_1 (i := 97) (by decide +kernel) rfl
theorem tw_1_98 : (Jvm.Cond.instantiable "SumNames$Reader" (11 : Nat)) ∈ zT := zT_1 (i := 98) (by decide +kernel) rfl
theorem tw_1_100 : (Jvm.Cond.instanceMethod ({ cls := "SumNames$Reader", name := "<init>", desc := "()V" } : Jvm.MethodName)) ∈ zT := zT_1 (i := 100) (by decide +kernel) rfl
set_option maxRecDepth 100000 in
theorem tw_1_101 : (Jvm.Cond.code ({ cls := "SumNames$Reader", name := "<init>", desc := "()V" } : Jvm.MethodName) prog_5_method_1_code (1 : Nat) (Option.none : Option Jvm.ClassFile.FieldType)) ∈ zT := zT_1 (i := 101) rfl rfl
theorem tw_1_102 : (Jvm.Cond.methodLink "SumNames$Reader" (3 : Nat) ({ cls := "java/lang/Object", name := "<init>", desc := "()V" } : Jvm.MethodName)) ∈ zT := zT_1 (i := 102) (by decide +kernel) rfl
theorem tw_1_103 : (Jvm.Cond.classLink "SumNames$Reader" (19 : Nat) "SumNames$World") ∈ zT := zT_1 (i := 103) (by decide +kernel) rfl
theorem tw_1_104 : (Jvm.Cond.methodLink "SumNames$Reader" (21 : Nat) ({ cls := "SumNames$World", name := "<init>", desc := "()V" } : Jvm.MethodName)) ∈ zT := zT_1 (i := 104) (by decide +kernel) rfl
theorem tw_1_105 : (Jvm.Cond.fieldLink "SumNames$Reader" (9 : Nat) "SumNames$Reader" "text" "[I") ∈ zT := zT_1 (i := 105) (by decide +kernel) rfl
theorem tw_1_106 : (Jvm.Cond.fieldLink "SumNames$Reader" (15 : Nat) "SumNames$Reader" "length" "I") ∈ zT := zT_1 (i := 106) (by decide +kernel) rfl
theorem tw_1_107 : (Jvm.Cond.fieldLink "SumNames" (63 : Nat) "SumNames$Reader" "length" "I") ∈ zT := zT_1 (i := 107) (by decide +kernel) rfl
theorem tw_1_108 : (Jvm.Cond.fieldLink "SumNames$Reader" (22 : Nat) "SumNames$Reader" "draft" "LSumNames$World;") ∈ zT := zT_1 (i := 108) (by decide +kernel) rfl
theorem tw_1_109 : (Jvm.Cond.fieldLink "SumNames" (71 : Nat) "SumNames$Reader" "draft" "LSumNames$World;") ∈ zT := zT_1 (i := 109) (by decide +kernel) rfl
theorem tw_1_110 : (Jvm.Cond.fieldLink "SumNames$Reader" (26 : Nat) "SumNames$Reader" "lines" "I") ∈ zT := zT_1 (i := 110) (by decide +kernel) rfl
theorem tw_1_111 : (Jvm.Cond.fieldLink "SumNames" (78 : Nat) "SumNames$Reader" "lines" "I") ∈ zT := zT_1 (i := 111) (by decide +kernel) rfl
theorem tw_1_112 : (Jvm.Cond.fieldLink "SumNames$Reader" (29 : Nat) "SumNames$Reader" "place" "I") ∈ zT := zT_1 (i := 112) (by decide +kernel) rfl
theorem tw_1_113 : (Jvm.Cond.fieldLink "SumNames$Reader" (32 : Nat) "SumNames$Reader" "token" "I") ∈ zT := zT_1 (i := 113) (by decide +kernel) rfl
theorem tw_1_114 : (Jvm.Cond.fieldLink "SumNames$Reader" (35 : Nat) "SumNames$Reader" "begin" "I") ∈ zT := zT_1 (i := 114) (by decide +kernel) rfl
theorem tw_1_115 : (Jvm.Cond.fieldLink "SumNames$Reader" (38 : Nat) "SumNames$Reader" "bytes" "I") ∈ zT := zT_1 (i := 115) (by decide +kernel) rfl
theorem tw_1_116 : (Jvm.Cond.fieldLink "SumNames$Reader" (41 : Nat) "SumNames$Reader" "value" "J") ∈ zT := zT_1 (i := 116) (by decide +kernel) rfl
theorem tw_1_117 : (Jvm.Cond.fieldLink "SumNames$Reader" (45 : Nat) "SumNames$Reader" "parent" "I") ∈ zT := zT_1 (i := 117) (by decide +kernel) rfl
theorem tw_1_118 : (Jvm.Cond.fieldLink "SumNames$Reader" (48 : Nat) "SumNames$Reader" "otherParent" "I") ∈ zT := zT_1 (i := 118) (by decide +kernel) rfl
theorem tw_1_142 : (Jvm.Cond.classLink "SumNames" (27 : Nat) "SumNames$NameRow") ∈ zT := zT_1 (i := 142) (by decide +kernel) rfl
theorem tw_1_143 : (Jvm.Cond.instantiable "SumNames$NameRow" (8 : Nat)) ∈ zT := zT_1 (i := 143) (by decide +kernel) rfl
theorem tw_1_145 : (Jvm.Cond.instanceMethod ({ cls := "SumNames$NameRow", name := "<init>", desc := "()V" } : Jvm.MethodName)) ∈ zT := zT_1 (i := 145) (by decide +kernel) rfl
set_option maxRecDepth 100000 in
theorem tw_1_146 : (Jvm.Cond.code ({ cls := "SumNames$NameRow", name := "<init>", desc := "()V" } : Jvm.MethodName) prog_2_method_1_code (1 : Nat) (Option.none : Option Jvm.ClassFile.FieldType)) ∈ zT := zT_1 (i := 146) rfl rfl
theorem tw_1_147 : (Jvm.Cond.methodLink "SumNames$NameRow" (3 : Nat) ({ cls := "java/lang/Object", name := "<init>", desc := "()V" } : Jvm.MethodName)) ∈ zT := zT_1 (i := 147) (by decide +kernel) rfl
theorem tw_1_148 : (Jvm.Cond.fieldLink "SumNames$NameRow" (9 : Nat) "SumNames$NameRow" "codes" "[J") ∈ zT := zT_1 (i := 148) (by decide +kernel) rfl
theorem tw_1_149 : (Jvm.Cond.fieldLink "SumNames" (154 : Nat) "SumNames$NameRow" "codes" "[J") ∈ zT := zT_1 (i := 149) (by decide +kernel) rfl
theorem tw_1_150 : (Jvm.Cond.fieldLink "SumNames$NameRow" (15 : Nat) "SumNames$NameRow" "size" "I") ∈ zT := zT_1 (i := 150) (by decide +kernel) rfl
theorem tw_1_151 : (Jvm.Cond.fieldLink "SumNames" (151 : Nat) "SumNames$NameRow" "size" "I") ∈ zT := zT_1 (i := 151) (by decide +kernel) rfl
theorem tw_1_152 : (Jvm.Cond.fieldLink "SumNames$NameRow" (19 : Nat) "SumNames$NameRow" "partCodes" "[J") ∈ zT := zT_1 (i := 152) (by decide +kernel) rfl
theorem tw_1_153 : (Jvm.Cond.fieldLink "SumNames$NameRow" (22 : Nat) "SumNames$NameRow" "partShifts" "[J") ∈ zT := zT_1 (i := 153) (by decide +kernel) rfl
theorem tw_1_154 : (Jvm.Cond.fieldLink "SumNames$NameRow" (25 : Nat) "SumNames$NameRow" "partSums" "[I") ∈ zT := zT_1 (i := 154) (by decide +kernel) rfl
theorem tw_1_155 : (Jvm.Cond.fieldLink "SumNames$NameRow" (29 : Nat) "SumNames$NameRow" "partCount" "I") ∈ zT := zT_1 (i := 155) (by decide +kernel) rfl
theorem tw_1_156 : (Jvm.Cond.fieldLink "SumNames$NameRow" (32 : Nat) "SumNames$NameRow" "wantedDay" "I") ∈ zT := zT_1 (i := 156) (by decide +kernel) rfl
theorem tw_1_157 : (Jvm.Cond.fieldLink "SumNames$NameRow" (35 : Nat) "SumNames$NameRow" "divisorsWanted" "Z") ∈ zT := zT_1 (i := 157) (by decide +kernel) rfl
theorem tw_1_175 : (Jvm.Cond.classLink "SumNames" (34 : Nat) "SumNames$Reach") ∈ zT := zT_1 (i := 175) (by decide +kernel) rfl
theorem tw_1_176 : (Jvm.Cond.instantiable "SumNames$Reach" (2 : Nat)) ∈ zT := zT_1 (i := 176) (by decide +kernel) rfl
theorem tw_1_178 : (Jvm.Cond.instanceMethod ({ cls := "SumNames$Reach", name := "<init>", desc := "()V" } : Jvm.MethodName)) ∈ zT := zT_1 (i := 178) (by decide +kernel) rfl
set_option maxRecDepth 100000 in
theorem tw_1_179 : (Jvm.Cond.code ({ cls := "SumNames$Reach", name := "<init>", desc := "()V" } : Jvm.MethodName) prog_4_method_1_code (1 : Nat) (Option.none : Option Jvm.ClassFile.FieldType)) ∈ zT := zT_1 (i := 179) rfl rfl
theorem tw_1_180 : (Jvm.Cond.methodLink "SumNames$Reach" (3 : Nat) ({ cls := "java/lang/Object", name := "<init>", desc := "()V" } : Jvm.MethodName)) ∈ zT := zT_1 (i := 180) (by decide +kernel) rfl
theorem tw_1_181 : (Jvm.Cond.fieldLink "SumNames$Reach" (9 : Nat) "SumNames$Reach" "fewest" "[I") ∈ zT := zT_1 (i := 181) (by decide +kernel) rfl
theorem tw_1_182 : (Jvm.Cond.fieldLink "SumNames$Reach" (15 : Nat) "SumNames$Reach" "tried" "[Z") ∈ zT := zT_1 (i := 182) (by decide +kernel) rfl
theorem tw_1_188 : (Jvm.Cond.arrayClass Jvm.ClassFile.FieldType.boolean) ∈ zT := zT_1 (i := 188) (by decide +kernel) rfl
theorem tw_1_189 : (Jvm.Cond.classLink "SumNames" (41 : Nat) "SumNames$OldNames") ∈ zT := zT_1 (i := 189) (by decide +kernel) rfl
theorem tw_1_190 : (Jvm.Cond.instantiable "SumNames$OldNames" (10 : Nat)) ∈ zT := zT_1 (i := 190) (by decide +kernel) rfl
theorem tw_1_192 : (Jvm.Cond.instanceMethod ({ cls := "SumNames$OldNames", name := "<init>", desc := "()V" } : Jvm.MethodName)) ∈ zT := zT_1 (i := 192) (by decide +kernel) rfl
set_option maxRecDepth 100000 in
theorem tw_1_193 : (Jvm.Cond.code ({ cls := "SumNames$OldNames", name := "<init>", desc := "()V" } : Jvm.MethodName) prog_3_method_1_code (1 : Nat) (Option.none : Option Jvm.ClassFile.FieldType)) ∈ zT := zT_1 (i := 193) rfl rfl
theorem tw_1_194 : (Jvm.Cond.methodLink "SumNames$OldNames" (3 : Nat) ({ cls := "java/lang/Object", name := "<init>", desc := "()V" } : Jvm.MethodName)) ∈ zT := zT_1 (i := 194) (by decide +kernel) rfl
theorem tw_1_195 : (Jvm.Cond.classLink "SumNames$OldNames" (22 : Nat) "[[I") ∈ zT := zT_1 (i := 195) (by decide +kernel) rfl
theorem tw_1_197 : (Jvm.Cond.fieldLink "SumNames$OldNames" (9 : Nat) "SumNames$OldNames" "ways" "I") ∈ zT := zT_1 (i := 197) (by decide +kernel) rfl
theorem tw_1_198 : (Jvm.Cond.fieldLink "SumNames" (229 : Nat) "SumNames$OldNames" "ways" "I") ∈ zT := zT_1 (i := 198) (by decide +kernel) rfl
theorem tw_1_199 : (Jvm.Cond.fieldLink "SumNames$OldNames" (15 : Nat) "SumNames$OldNames" "letters" "[I") ∈ zT := zT_1 (i := 199) (by decide +kernel) rfl
theorem tw_1_200 : (Jvm.Cond.fieldLink "SumNames$OldNames" (19 : Nat) "SumNames$OldNames" "letterCount" "I") ∈ zT := zT_1 (i := 200) (by decide +kernel) rfl
theorem tw_1_201 : (Jvm.Cond.fieldLink "SumNames$OldNames" (24 : Nat) "SumNames$OldNames" "times" "[[I") ∈ zT := zT_1 (i := 201) (by decide +kernel) rfl
theorem tw_1_202 : (Jvm.Cond.fieldLink "SumNames$OldNames" (27 : Nat) "SumNames$OldNames" "behind" "[[I") ∈ zT := zT_1 (i := 202) (by decide +kernel) rfl
theorem tw_1_203 : (Jvm.Cond.fieldLink "SumNames$OldNames" (30 : Nat) "SumNames$OldNames" "left" "[I") ∈ zT := zT_1 (i := 203) (by decide +kernel) rfl
theorem tw_1_204 : (Jvm.Cond.fieldLink "SumNames$OldNames" (33 : Nat) "SumNames$OldNames" "wordCount" "I") ∈ zT := zT_1 (i := 204) (by decide +kernel) rfl
theorem tw_1_205 : (Jvm.Cond.fieldLink "SumNames$OldNames" (36 : Nat) "SumNames$OldNames" "given" "[I") ∈ zT := zT_1 (i := 205) (by decide +kernel) rfl
theorem tw_1_206 : (Jvm.Cond.fieldLink "SumNames$OldNames" (39 : Nat) "SumNames$OldNames" "first" "[I") ∈ zT := zT_1 (i := 206) (by decide +kernel) rfl
theorem tw_1_207 : (Jvm.Cond.fieldLink "SumNames$OldNames" (42 : Nat) "SumNames$OldNames" "most" "I") ∈ zT := zT_1 (i := 207) (by decide +kernel) rfl
theorem tw_1_229 : (Jvm.Cond.classLink "SumNames" (48 : Nat) "SumNames$Sheet") ∈ zT := zT_1 (i := 229) (by decide +kernel) rfl
theorem tw_1_231 : (Jvm.Cond.instantiable "SumNames$Sheet" (3 : Nat)) ∈ zT := zT_1 (i := 231) (by decide +kernel) rfl
theorem tw_1_233 : (Jvm.Cond.instanceMethod ({ cls := "SumNames$Sheet", name := "<init>", desc := "()V" } : Jvm.MethodName)) ∈ zT := zT_1 (i := 233) (by decide +kernel) rfl
set_option maxRecDepth 100000 in
theorem tw_1_234 : (Jvm.Cond.code ({ cls := "SumNames$Sheet", name := "<init>", desc := "()V" } : Jvm.MethodName) prog_6_method_1_code (1 : Nat) (Option.none : Option Jvm.ClassFile.FieldType)) ∈ zT := zT_1 (i := 234) rfl rfl
theorem tw_1_235 : (Jvm.Cond.methodLink "SumNames$Sheet" (3 : Nat) ({ cls := "java/lang/Object", name := "<init>", desc := "()V" } : Jvm.MethodName)) ∈ zT := zT_1 (i := 235) (by decide +kernel) rfl
theorem tw_1_236 : (Jvm.Cond.fieldLink "SumNames$Sheet" (9 : Nat) "SumNames$Sheet" "items" "[I") ∈ zT := zT_1 (i := 236) (by decide +kernel) rfl
theorem tw_1_237 : (Jvm.Cond.fieldLink "SumNames" (287 : Nat) "SumNames$Sheet" "items" "[I") ∈ zT := zT_1 (i := 237) (by decide +kernel) rfl
theorem tw_1_238 : (Jvm.Cond.fieldLink "SumNames$Sheet" (15 : Nat) "SumNames$Sheet" "lane" "I") ∈ zT := zT_1 (i := 238) (by decide +kernel) rfl
theorem tw_1_239 : (Jvm.Cond.fieldLink "SumNames" (284 : Nat) "SumNames$Sheet" "lane" "I") ∈ zT := zT_1 (i := 239) (by decide +kernel) rfl
theorem tw_2_0 : (Jvm.Cond.fieldLink "SumNames$Sheet" (19 : Nat) "SumNames$Sheet" "size" "I") ∈ zT := zT_2 (i := 0) (by decide +kernel) rfl
theorem tw_2_1 : (Jvm.Cond.fieldLink "SumNames" (273 : Nat) "SumNames$Sheet" "size" "I") ∈ zT := zT_2 (i := 1) (by decide +kernel) rfl
theorem tw_2_9 : (Jvm.Cond.fieldLink "SumNames" (10 : Nat) "SumNames" "now" "LSumNames$World;") ∈ zT := zT_2 (i := 9) (by decide +kernel) rfl
theorem tw_2_10 : (Jvm.Cond.fieldLink "SumNames" (16 : Nat) "SumNames" "images" "[LSumNames$World;") ∈ zT := zT_2 (i := 10) (by decide +kernel) rfl
theorem tw_2_11 : (Jvm.Cond.fieldLink "SumNames" (23 : Nat) "SumNames" "reader" "LSumNames$Reader;") ∈ zT := zT_2 (i := 11) (by decide +kernel) rfl
theorem tw_2_12 : (Jvm.Cond.fieldLink "SumNames" (30 : Nat) "SumNames" "row" "LSumNames$NameRow;") ∈ zT := zT_2 (i := 12) (by decide +kernel) rfl
theorem tw_2_13 : (Jvm.Cond.fieldLink "SumNames" (37 : Nat) "SumNames" "reach" "LSumNames$Reach;") ∈ zT := zT_2 (i := 13) (by decide +kernel) rfl
theorem tw_2_14 : (Jvm.Cond.fieldLink "SumNames" (44 : Nat) "SumNames" "oldNames" "LSumNames$OldNames;") ∈ zT := zT_2 (i := 14) (by decide +kernel) rfl
theorem tw_2_15 : (Jvm.Cond.fieldLink "SumNames" (50 : Nat) "SumNames" "sheets" "[LSumNames$Sheet;") ∈ zT := zT_2 (i := 15) (by decide +kernel) rfl
theorem tw_2_16 : (Jvm.Cond.fieldLink "SumNames" (54 : Nat) "SumNames" "rooms" "[I") ∈ zT := zT_2 (i := 16) (by decide +kernel) rfl
theorem tw_2_34 : (Jvm.Cond.methodLink "SumNamesLaw" (15 : Nat) ({ cls := "SumNames", name := "write", desc := "(JI)I" } : Jvm.MethodName)) ∈ zT := zT_2 (i := 34) (by decide +kernel) rfl
theorem tw_2_35 : (Jvm.Cond.instanceMethod ({ cls := "SumNames", name := "write", desc := "(JI)I" } : Jvm.MethodName)) ∈ zT := zT_2 (i := 35) (by decide +kernel) rfl
theorem tw_2_36 : (Jvm.Cond.selects "SumNames" ({ cls := "SumNames", name := "write", desc := "(JI)I" } : Jvm.MethodName) ({ cls := "SumNames", name := "write", desc := "(JI)I" } : Jvm.MethodName)) ∈ zT := zT_2 (i := 36) (by decide +kernel) rfl
set_option maxRecDepth 100000 in
theorem tw_2_37 : (Jvm.Cond.code ({ cls := "SumNames", name := "write", desc := "(JI)I" } : Jvm.MethodName) prog_1_method_2_code (4 : Nat) (Option.some Jvm.ClassFile.FieldType.int)) ∈ zT := zT_2 (i := 37) rfl rfl
theorem tw_2_38 : (Jvm.Cond.methodLink "SumNames" (59 : Nat) ({ cls := "SumNames$Reader", name := "append", desc := "(JI)Z" } : Jvm.MethodName)) ∈ zT := zT_2 (i := 38) (by decide +kernel) rfl
theorem tw_2_39 : (Jvm.Cond.instanceMethod ({ cls := "SumNames$Reader", name := "append", desc := "(JI)Z" } : Jvm.MethodName)) ∈ zT := zT_2 (i := 39) (by decide +kernel) rfl
theorem tw_2_40 : (Jvm.Cond.selects "SumNames$Reader" ({ cls := "SumNames$Reader", name := "append", desc := "(JI)Z" } : Jvm.MethodName) ({ cls := "SumNames$Reader", name := "append", desc := "(JI)Z" } : Jvm.MethodName)) ∈ zT := zT_2 (i := 40) (by decide +kernel) rfl
set_option maxRecDepth 100000 in
theorem tw_2_41 : (Jvm.Cond.code ({ cls := "SumNames$Reader", name := "append", desc := "(JI)Z" } : Jvm.MethodName) prog_5_method_2_code (5 : Nat) (Option.some Jvm.ClassFile.FieldType.boolean)) ∈ zT := zT_2 (i := 41) rfl rfl
theorem tw_2_42 : (Jvm.Cond.constantLong "SumNames$Reader" (51 : Nat) (255 : Int64)) ∈ zT := zT_2 (i := 42) (by decide +kernel) rfl
theorem tw_2_43 : (Jvm.Cond.methodLink "SumNamesLaw" (20 : Nat) ({ cls := "SumNames", name := "erase", desc := "()I" } : Jvm.MethodName)) ∈ zT := zT_2 (i := 43) (by decide +kernel) rfl
theorem tw_2_44 : (Jvm.Cond.instanceMethod ({ cls := "SumNames", name := "erase", desc := "()I" } : Jvm.MethodName)) ∈ zT := zT_2 (i := 44) (by decide +kernel) rfl
theorem tw_2_45 : (Jvm.Cond.selects "SumNames" ({ cls := "SumNames", name := "erase", desc := "()I" } : Jvm.MethodName) ({ cls := "SumNames", name := "erase", desc := "()I" } : Jvm.MethodName)) ∈ zT := zT_2 (i := 45) (by decide +kernel) rfl
set_option maxRecDepth 100000 in
theorem tw_2_46 : (Jvm.Cond.code ({ cls := "SumNames", name := "erase", desc := "()I" } : Jvm.MethodName) prog_1_method_3_code (2 : Nat) (Option.some Jvm.ClassFile.FieldType.int)) ∈ zT := zT_2 (i := 46) rfl rfl
theorem tw_2_47 : (Jvm.Cond.methodLink "SumNamesLaw" (25 : Nat) ({ cls := "SumNames", name := "fault", desc := "()I" } : Jvm.MethodName)) ∈ zT := zT_2 (i := 47) (by decide +kernel) rfl
theorem tw_2_48 : (Jvm.Cond.instanceMethod ({ cls := "SumNames", name := "fault", desc := "()I" } : Jvm.MethodName)) ∈ zT := zT_2 (i := 48) (by decide +kernel) rfl
theorem tw_2_49 : (Jvm.Cond.selects "SumNames" ({ cls := "SumNames", name := "fault", desc := "()I" } : Jvm.MethodName) ({ cls := "SumNames", name := "fault", desc := "()I" } : Jvm.MethodName)) ∈ zT := zT_2 (i := 49) (by decide +kernel) rfl
set_option maxRecDepth 100000 in
theorem tw_2_50 : (Jvm.Cond.code ({ cls := "SumNames", name := "fault", desc := "()I" } : Jvm.MethodName) prog_1_method_4_code (1 : Nat) (Option.some Jvm.ClassFile.FieldType.int)) ∈ zT := zT_2 (i := 50) rfl rfl
theorem tw_2_51 : (Jvm.Cond.methodLink "SumNames" (67 : Nat) ({ cls := "SumNames$Reader", name := "read", desc := "(LSumNames$World;)I" } : Jvm.MethodName)) ∈ zT := zT_2 (i := 51) (by decide +kernel) rfl
theorem tw_2_52 : (Jvm.Cond.instanceMethod ({ cls := "SumNames$Reader", name := "read", desc := "(LSumNames$World;)I" } : Jvm.MethodName)) ∈ zT := zT_2 (i := 52) (by decide +kernel) rfl
theorem tw_2_53 : (Jvm.Cond.selects "SumNames$Reader" ({ cls := "SumNames$Reader", name := "read", desc := "(LSumNames$World;)I" } : Jvm.MethodName) ({ cls := "SumNames$Reader", name := "read", desc := "(LSumNames$World;)I" } : Jvm.MethodName)) ∈ zT := zT_2 (i := 53) (by decide +kernel) rfl
set_option maxRecDepth 100000 in
theorem tw_2_54 : (Jvm.Cond.code ({ cls := "SumNames$Reader", name := "read", desc := "(LSumNames$World;)I" } : Jvm.MethodName) prog_5_method_3_code (3 : Nat) (Option.some Jvm.ClassFile.FieldType.int)) ∈ zT := zT_2 (i := 54) rfl rfl
theorem tw_2_55 : (Jvm.Cond.methodLink "SumNames$Reader" (53 : Nat) ({ cls := "SumNames$World", name := "takeFrom", desc := "(LSumNames$World;)V" } : Jvm.MethodName)) ∈ zT := zT_2 (i := 55) (by decide +kernel) rfl
theorem tw_2_56 : (Jvm.Cond.instanceMethod ({ cls := "SumNames$World", name := "takeFrom", desc := "(LSumNames$World;)V" } : Jvm.MethodName)) ∈ zT := zT_2 (i := 56) (by decide +kernel) rfl
theorem tw_2_57 : (Jvm.Cond.selects "SumNames$World" ({ cls := "SumNames$World", name := "takeFrom", desc := "(LSumNames$World;)V" } : Jvm.MethodName) ({ cls := "SumNames$World", name := "takeFrom", desc := "(LSumNames$World;)V" } : Jvm.MethodName)) ∈ zT := zT_2 (i := 57) (by decide +kernel) rfl
set_option maxRecDepth 100000 in
theorem tw_2_58 : (Jvm.Cond.code ({ cls := "SumNames$World", name := "takeFrom", desc := "(LSumNames$World;)V" } : Jvm.MethodName) prog_7_method_2_code (2 : Nat) (Option.none : Option Jvm.ClassFile.FieldType)) ∈ zT := zT_2 (i := 58) rfl rfl
theorem tw_2_59 : (Jvm.Cond.methodLink "SumNames$World" (53 : Nat) ({ cls := "java/lang/System", name := "arraycopy", desc := "(Ljava/lang/Object;ILjava/lang/Object;II)V" } : Jvm.MethodName)) ∈ zT := zT_2 (i := 59) (by decide +kernel) rfl
theorem tw_2_60 : (Jvm.Cond.static ({ cls := "java/lang/System", name := "arraycopy", desc := "(Ljava/lang/Object;ILjava/lang/Object;II)V" } : Jvm.MethodName)) ∈ zT := zT_2 (i := 60) (by decide +kernel) rfl
theorem tw_2_61 : (Jvm.Cond.native ({ cls := "java/lang/System", name := "arraycopy", desc := "(Ljava/lang/Object;ILjava/lang/Object;II)V" } : Jvm.MethodName)) ∈ zT := zT_2 (i := 61) (by decide +kernel) rfl
theorem tw_2_62 : (Jvm.Cond.methodLink "SumNames$Reader" (57 : Nat) ({ cls := "SumNames$Reader", name := "readLine", desc := "()Z" } : Jvm.MethodName)) ∈ zT := zT_2 (i := 62) (by decide +kernel) rfl
theorem tw_2_64 : (Jvm.Cond.instanceMethod ({ cls := "SumNames$Reader", name := "readLine", desc := "()Z" } : Jvm.MethodName)) ∈ zT := zT_2 (i := 64) (by decide +kernel) rfl
set_option maxRecDepth 100000 in
theorem tw_2_65 : (Jvm.Cond.code ({ cls := "SumNames$Reader", name := "readLine", desc := "()Z" } : Jvm.MethodName) prog_5_method_4_code (1 : Nat) (Option.some Jvm.ClassFile.FieldType.boolean)) ∈ zT := zT_2 (i := 65) rfl rfl
theorem tw_2_66 : (Jvm.Cond.methodLink "SumNames$Reader" (61 : Nat) ({ cls := "SumNames$Reader", name := "readToken", desc := "()V" } : Jvm.MethodName)) ∈ zT := zT_2 (i := 66) (by decide +kernel) rfl
theorem tw_2_68 : (Jvm.Cond.instanceMethod ({ cls := "SumNames$Reader", name := "readToken", desc := "()V" } : Jvm.MethodName)) ∈ zT := zT_2 (i := 68) (by decide +kernel) rfl
set_option maxRecDepth 100000 in
theorem tw_2_69 : (Jvm.Cond.code ({ cls := "SumNames$Reader", name := "readToken", desc := "()V" } : Jvm.MethodName) prog_5_method_18_code (2 : Nat) (Option.none : Option Jvm.ClassFile.FieldType)) ∈ zT := zT_2 (i := 69) rfl rfl
theorem tw_2_70 : (Jvm.Cond.methodLink "SumNames$Reader" (173 : Nat) ({ cls := "SumNames$Reader", name := "kindAt", desc := "(I)I" } : Jvm.MethodName)) ∈ zT := zT_2 (i := 70) (by decide +kernel) rfl
theorem tw_2_72 : (Jvm.Cond.instanceMethod ({ cls := "SumNames$Reader", name := "kindAt", desc := "(I)I" } : Jvm.MethodName)) ∈ zT := zT_2 (i := 72) (by decide +kernel) rfl
set_option maxRecDepth 100000 in
theorem tw_2_73 : (Jvm.Cond.code ({ cls := "SumNames$Reader", name := "kindAt", desc := "(I)I" } : Jvm.MethodName) prog_5_method_20_code (2 : Nat) (Option.some Jvm.ClassFile.FieldType.int)) ∈ zT := zT_2 (i := 73) rfl rfl
theorem tw_2_74 : (Jvm.Cond.methodLink "SumNames$Reader" (177 : Nat) ({ cls := "SumNames$Reader", name := "valueWith", desc := "(I)J" } : Jvm.MethodName)) ∈ zT := zT_2 (i := 74) (by decide +kernel) rfl
theorem tw_2_76 : (Jvm.Cond.instanceMethod ({ cls := "SumNames$Reader", name := "valueWith", desc := "(I)J" } : Jvm.MethodName)) ∈ zT := zT_2 (i := 76) (by decide +kernel) rfl
set_option maxRecDepth 100000 in
theorem tw_2_77 : (Jvm.Cond.code ({ cls := "SumNames$Reader", name := "valueWith", desc := "(I)J" } : Jvm.MethodName) prog_5_method_19_code (2 : Nat) (Option.some Jvm.ClassFile.FieldType.long)) ∈ zT := zT_2 (i := 77) rfl rfl
theorem tw_2_78 : (Jvm.Cond.constantLong "SumNames$Reader" (181 : Nat) (27 : Int64)) ∈ zT := zT_2 (i := 78) (by decide +kernel) rfl
theorem tw_2_79 : (Jvm.Cond.constantLong "SumNames$Reader" (183 : Nat) (97 : Int64)) ∈ zT := zT_2 (i := 79) (by decide +kernel) rfl
theorem tw_2_80 : (Jvm.Cond.constantLong "SumNames$Reader" (185 : Nat) (10 : Int64)) ∈ zT := zT_2 (i := 80) (by decide +kernel) rfl
theorem tw_2_81 : (Jvm.Cond.constantLong "SumNames$Reader" (187 : Nat) (48 : Int64)) ∈ zT := zT_2 (i := 81) (by decide +kernel) rfl
theorem tw_2_83 : (Jvm.Cond.methodLink "SumNames$Reader" (68 : Nat) ({ cls := "SumNames$Reader", name := "says", desc := "(Ljava/lang/String;)Z" } : Jvm.MethodName)) ∈ zT := zT_2 (i := 83) (by decide +kernel) rfl
theorem tw_2_85 : (Jvm.Cond.instanceMethod ({ cls := "SumNames$Reader", name := "says", desc := "(Ljava/lang/String;)Z" } : Jvm.MethodName)) ∈ zT := zT_2 (i := 85) (by decide +kernel) rfl
set_option maxRecDepth 100000 in
theorem tw_2_86 : (Jvm.Cond.code ({ cls := "SumNames$Reader", name := "says", desc := "(Ljava/lang/String;)Z" } : Jvm.MethodName) prog_5_method_17_code (3 : Nat) (Option.some Jvm.ClassFile.FieldType.boolean)) ∈ zT := zT_2 (i := 86) rfl rfl
theorem tw_2_87 : (Jvm.Cond.methodLink "SumNames$Reader" (164 : Nat) ({ cls := "java/lang/String", name := "length", desc := "()I" } : Jvm.MethodName)) ∈ zT := zT_2 (i := 87) (by decide +kernel) rfl
theorem tw_2_88 : (Jvm.Cond.instanceMethod ({ cls := "java/lang/String", name := "length", desc := "()I" } : Jvm.MethodName)) ∈ zT := zT_2 (i := 88) (by decide +kernel) rfl
theorem tw_2_89 : (Jvm.Cond.selects "java/lang/String" ({ cls := "java/lang/String", name := "length", desc := "()I" } : Jvm.MethodName) ({ cls := "java/lang/String", name := "length", desc := "()I" } : Jvm.MethodName)) ∈ zT := zT_2 (i := 89) (by decide +kernel) rfl
set_option maxRecDepth 100000 in
theorem tw_2_90 : (Jvm.Cond.code ({ cls := "java/lang/String", name := "length", desc := "()I" } : Jvm.MethodName) prog_12_method_54_code (1 : Nat) (Option.some Jvm.ClassFile.FieldType.int)) ∈ zT := zT_2 (i := 90) rfl rfl
theorem tw_2_91 : (Jvm.Cond.methodLink "java/lang/String" (335 : Nat) ({ cls := "java/lang/String", name := "coder", desc := "()B" } : Jvm.MethodName)) ∈ zT := zT_2 (i := 91) (by decide +kernel) rfl
theorem tw_2_92 : (Jvm.Cond.instanceMethod ({ cls := "java/lang/String", name := "coder", desc := "()B" } : Jvm.MethodName)) ∈ zT := zT_2 (i := 92) (by decide +kernel) rfl
theorem tw_2_93 : (Jvm.Cond.selects "java/lang/String" ({ cls := "java/lang/String", name := "coder", desc := "()B" } : Jvm.MethodName) ({ cls := "java/lang/String", name := "coder", desc := "()B" } : Jvm.MethodName)) ∈ zT := zT_2 (i := 93) (by decide +kernel) rfl
set_option maxRecDepth 100000 in
theorem tw_2_94 : (Jvm.Cond.code ({ cls := "java/lang/String", name := "coder", desc := "()B" } : Jvm.MethodName) prog_12_method_152_code (1 : Nat) (Option.some Jvm.ClassFile.FieldType.byte)) ∈ zT := zT_2 (i := 94) rfl rfl
theorem tw_2_95 : (Jvm.Cond.fieldLink "java/lang/String" (38 : Nat) "java/lang/String" "COMPACT_STRINGS" "Z") ∈ zT := zT_2 (i := 95) (by decide +kernel) rfl
theorem tw_2_97 : (Jvm.Cond.methodLink "SumNames$Reader" (169 : Nat) ({ cls := "java/lang/String", name := "charAt", desc := "(I)C" } : Jvm.MethodName)) ∈ zT := zT_2 (i := 97) (by decide +kernel) rfl
theorem tw_2_98 : (Jvm.Cond.instanceMethod ({ cls := "java/lang/String", name := "charAt", desc := "(I)C" } : Jvm.MethodName)) ∈ zT := zT_2 (i := 98) (by decide +kernel) rfl
theorem tw_2_99 : (Jvm.Cond.selects "java/lang/String" ({ cls := "java/lang/String", name := "charAt", desc := "(I)C" } : Jvm.MethodName) ({ cls := "java/lang/String", name := "charAt", desc := "(I)C" } : Jvm.MethodName)) ∈ zT := zT_2 (i := 99) (by decide +kernel) rfl
set_option maxRecDepth 100000 in
theorem tw_2_100 : (Jvm.Cond.code ({ cls := "java/lang/String", name := "charAt", desc := "(I)C" } : Jvm.MethodName) prog_12_method_56_code (2 : Nat) (Option.some Jvm.ClassFile.FieldType.char)) ∈ zT := zT_2 (i := 100) rfl rfl
theorem tw_2_101 : (Jvm.Cond.methodLink "java/lang/String" (492 : Nat) ({ cls := "java/lang/String", name := "isLatin1", desc := "()Z" } : Jvm.MethodName)) ∈ zT := zT_2 (i := 101) (by decide +kernel) rfl
theorem tw_2_102 : (Jvm.Cond.instanceMethod ({ cls := "java/lang/String", name := "isLatin1", desc := "()Z" } : Jvm.MethodName)) ∈ zT := zT_2 (i := 102) (by decide +kernel) rfl
theorem tw_2_103 : (Jvm.Cond.selects "java/lang/String" ({ cls := "java/lang/String", name := "isLatin1", desc := "()Z" } : Jvm.MethodName) ({ cls := "java/lang/String", name := "isLatin1", desc := "()Z" } : Jvm.MethodName)) ∈ zT := zT_2 (i := 103) (by decide +kernel) rfl
set_option maxRecDepth 100000 in
theorem tw_2_104 : (Jvm.Cond.code ({ cls := "java/lang/String", name := "isLatin1", desc := "()Z" } : Jvm.MethodName) prog_12_method_154_code (1 : Nat) (Option.some Jvm.ClassFile.FieldType.boolean)) ∈ zT := zT_2 (i := 104) rfl rfl
theorem tw_2_105 : (Jvm.Cond.methodLink "java/lang/String" (495 : Nat) ({ cls := "java/lang/StringLatin1", name := "charAt", desc := "([BI)C" } : Jvm.MethodName)) ∈ zT := zT_2 (i := 105) (by decide +kernel) rfl
theorem tw_2_106 : (Jvm.Cond.static ({ cls := "java/lang/StringLatin1", name := "charAt", desc := "([BI)C" } : Jvm.MethodName)) ∈ zT := zT_2 (i := 106) (by decide +kernel) rfl
set_option maxRecDepth 100000 in
theorem tw_2_107 : (Jvm.Cond.code ({ cls := "java/lang/StringLatin1", name := "charAt", desc := "([BI)C" } : Jvm.MethodName) prog_13_method_2_code (2 : Nat) (Option.some Jvm.ClassFile.FieldType.char)) ∈ zT := zT_2 (i := 107) rfl rfl
theorem tw_2_108 : (Jvm.Cond.methodLink "java/lang/StringLatin1" (9 : Nat) ({ cls := "java/lang/String", name := "checkIndex", desc := "(II)V" } : Jvm.MethodName)) ∈ zT := zT_2 (i := 108) (by decide +kernel) rfl
theorem tw_2_109 : (Jvm.Cond.static ({ cls := "java/lang/String", name := "checkIndex", desc := "(II)V" } : Jvm.MethodName)) ∈ zT := zT_2 (i := 109) (by decide +kernel) rfl
set_option maxRecDepth 100000 in
theorem tw_2_110 : (Jvm.Cond.code ({ cls := "java/lang/String", name := "checkIndex", desc := "(II)V" } : Jvm.MethodName) prog_12_method_155_code (2 : Nat) (Option.none : Option Jvm.ClassFile.FieldType)) ∈ zT := zT_2 (i := 110) rfl rfl
theorem tw_2_111 : (Jvm.Cond.fieldLink "java/lang/String" (1053 : Nat) "jdk/internal/util/Preconditions" "SIOOBE_FORMATTER" "Ljava/util/function/BiFunction;") ∈ zT := zT_2 (i := 111) (by decide +kernel) rfl
theorem tw_2_113 : (Jvm.Cond.methodLink "java/lang/String" (1059 : Nat) ({ cls := "jdk/internal/util/Preconditions", name := "checkIndex", desc := "(IILjava/util/function/BiFunction;)I" } : Jvm.MethodName)) ∈ zT := zT_2 (i := 113) (by decide +kernel) rfl
theorem tw_2_114 : (Jvm.Cond.static ({ cls := "jdk/internal/util/Preconditions", name := "checkIndex", desc := "(IILjava/util/function/BiFunction;)I" } : Jvm.MethodName)) ∈ zT := zT_2 (i := 114) (by decide +kernel) rfl
set_option maxRecDepth 100000 in
theorem tw_2_115 : (Jvm.Cond.code ({ cls := "jdk/internal/util/Preconditions", name := "checkIndex", desc := "(IILjava/util/function/BiFunction;)I" } : Jvm.MethodName) prog_16_method_11_code (3 : Nat) (Option.some Jvm.ClassFile.FieldType.int)) ∈ zT := zT_2 (i := 115) rfl rfl
theorem tw_2_116 : (Jvm.Cond.methodLink "java/lang/String" (498 : Nat) ({ cls := "java/lang/StringUTF16", name := "charAt", desc := "([BI)C" } : Jvm.MethodName)) ∈ zT := zT_2 (i := 116) (by decide +kernel) rfl
theorem tw_2_117 : (Jvm.Cond.static ({ cls := "java/lang/StringUTF16", name := "charAt", desc := "([BI)C" } : Jvm.MethodName)) ∈ zT := zT_2 (i := 117) (by decide +kernel) rfl
set_option maxRecDepth 100000 in
theorem tw_2_118 : (Jvm.Cond.code ({ cls := "java/lang/StringUTF16", name := "charAt", desc := "([BI)C" } : Jvm.MethodName) prog_14_method_83_code (2 : Nat) (Option.some Jvm.ClassFile.FieldType.char)) ∈ zT := zT_2 (i := 118) rfl rfl
theorem tw_2_119 : (Jvm.Cond.methodLink "java/lang/StringUTF16" (67 : Nat) ({ cls := "java/lang/StringUTF16", name := "checkIndex", desc := "(I[B)V" } : Jvm.MethodName)) ∈ zT := zT_2 (i := 119) (by decide +kernel) rfl
theorem tw_2_120 : (Jvm.Cond.static ({ cls := "java/lang/StringUTF16", name := "checkIndex", desc := "(I[B)V" } : Jvm.MethodName)) ∈ zT := zT_2 (i := 120) (by decide +kernel) rfl
set_option maxRecDepth 100000 in
theorem tw_2_121 : (Jvm.Cond.code ({ cls := "java/lang/StringUTF16", name := "checkIndex", desc := "(I[B)V" } : Jvm.MethodName) prog_14_method_91_code (2 : Nat) (Option.none : Option Jvm.ClassFile.FieldType)) ∈ zT := zT_2 (i := 121) rfl rfl
theorem tw_2_122 : (Jvm.Cond.methodLink "java/lang/StringUTF16" (48 : Nat) ({ cls := "java/lang/StringUTF16", name := "length", desc := "([B)I" } : Jvm.MethodName)) ∈ zT := zT_2 (i := 122) (by decide +kernel) rfl
theorem tw_2_123 : (Jvm.Cond.static ({ cls := "java/lang/StringUTF16", name := "length", desc := "([B)I" } : Jvm.MethodName)) ∈ zT := zT_2 (i := 123) (by decide +kernel) rfl
set_option maxRecDepth 100000 in
theorem tw_2_124 : (Jvm.Cond.code ({ cls := "java/lang/StringUTF16", name := "length", desc := "([B)I" } : Jvm.MethodName) prog_14_method_6_code (1 : Nat) (Option.some Jvm.ClassFile.FieldType.int)) ∈ zT := zT_2 (i := 124) rfl rfl
theorem tw_2_125 : (Jvm.Cond.methodLink "java/lang/StringUTF16" (414 : Nat) ({ cls := "java/lang/String", name := "checkIndex", desc := "(II)V" } : Jvm.MethodName)) ∈ zT := zT_2 (i := 125) (by decide +kernel) rfl
theorem tw_2_126 : (Jvm.Cond.methodLink "java/lang/StringUTF16" (71 : Nat) ({ cls := "java/lang/StringUTF16", name := "getChar", desc := "([BI)C" } : Jvm.MethodName)) ∈ zT := zT_2 (i := 126) (by decide +kernel) rfl
theorem tw_2_127 : (Jvm.Cond.static ({ cls := "java/lang/StringUTF16", name := "getChar", desc := "([BI)C" } : Jvm.MethodName)) ∈ zT := zT_2 (i := 127) (by decide +kernel) rfl
set_option maxRecDepth 100000 in
theorem tw_2_128 : (Jvm.Cond.code ({ cls := "java/lang/StringUTF16", name := "getChar", desc := "([BI)C" } : Jvm.MethodName) prog_14_method_5_code (2 : Nat) (Option.some Jvm.ClassFile.FieldType.char)) ∈ zT := zT_2 (i := 128) rfl rfl
theorem tw_2_129 : (Jvm.Cond.fieldLink "java/lang/StringUTF16" (44 : Nat) "java/lang/StringUTF16" "$assertionsDisabled" "Z") ∈ zT := zT_2 (i := 129) (by decide +kernel) rfl
theorem tw_2_131 : (Jvm.Cond.fieldLink "java/lang/StringUTF16" (59 : Nat) "java/lang/StringUTF16" "HI_BYTE_SHIFT" "I") ∈ zT := zT_2 (i := 131) (by decide +kernel) rfl
theorem tw_2_133 : (Jvm.Cond.fieldLink "java/lang/StringUTF16" (63 : Nat) "java/lang/StringUTF16" "LO_BYTE_SHIFT" "I") ∈ zT := zT_2 (i := 133) (by decide +kernel) rfl
theorem tw_2_135 : (Jvm.Cond.methodLink "SumNames$Reader" (72 : Nat) ({ cls := "SumNames$Reader", name := "readLetter", desc := "()Z" } : Jvm.MethodName)) ∈ zT := zT_2 (i := 135) (by decide +kernel) rfl
theorem tw_2_137 : (Jvm.Cond.instanceMethod ({ cls := "SumNames$Reader", name := "readLetter", desc := "()Z" } : Jvm.MethodName)) ∈ zT := zT_2 (i := 137) (by decide +kernel) rfl
set_option maxRecDepth 100000 in
theorem tw_2_138 : (Jvm.Cond.code ({ cls := "SumNames$Reader", name := "readLetter", desc := "()Z" } : Jvm.MethodName) prog_5_method_5_code (2 : Nat) (Option.some Jvm.ClassFile.FieldType.boolean)) ∈ zT := zT_2 (i := 138) rfl rfl
theorem tw_2_139 : (Jvm.Cond.methodLink "SumNames$Reader" (77 : Nat) ({ cls := "SumNames$Reader", name := "readWord", desc := "(I)Z" } : Jvm.MethodName)) ∈ zT := zT_2 (i := 139) (by decide +kernel) rfl
theorem tw_2_141 : (Jvm.Cond.instanceMethod ({ cls := "SumNames$Reader", name := "readWord", desc := "(I)Z" } : Jvm.MethodName)) ∈ zT := zT_2 (i := 141) (by decide +kernel) rfl
set_option maxRecDepth 100000 in
theorem tw_2_142 : (Jvm.Cond.code ({ cls := "SumNames$Reader", name := "readWord", desc := "(I)Z" } : Jvm.MethodName) prog_5_method_15_code (2 : Nat) (Option.some Jvm.ClassFile.FieldType.boolean)) ∈ zT := zT_2 (i := 142) rfl rfl
theorem tw_2_144 : (Jvm.Cond.static ({ cls := "SumNames", name := "lastLetter", desc := "(J)I" } : Jvm.MethodName)) ∈ zT := zT_2 (i := 144) (by decide +kernel) rfl
set_option maxRecDepth 100000 in
theorem tw_2_145 : (Jvm.Cond.code ({ cls := "SumNames", name := "lastLetter", desc := "(J)I" } : Jvm.MethodName) prog_1_method_50_code (2 : Nat) (Option.some Jvm.ClassFile.FieldType.int)) ∈ zT := zT_2 (i := 145) rfl rfl
theorem tw_2_146 : (Jvm.Cond.constantLong "SumNames" (310 : Nat) (27 : Int64)) ∈ zT := zT_2 (i := 146) (by decide +kernel) rfl
theorem tw_2_148 : (Jvm.Cond.static ({ cls := "SumNames", name := "isLetter", desc := "(I)Z" } : Jvm.MethodName)) ∈ zT := zT_2 (i := 148) (by decide +kernel) rfl
set_option maxRecDepth 100000 in
theorem tw_2_149 : (Jvm.Cond.code ({ cls := "SumNames", name := "isLetter", desc := "(I)Z" } : Jvm.MethodName) prog_1_method_42_code (1 : Nat) (Option.some Jvm.ClassFile.FieldType.boolean)) ∈ zT := zT_2 (i := 149) rfl rfl
theorem tw_2_150 : (Jvm.Cond.methodLink "SumNames$Reader" (128 : Nat) ({ cls := "SumNames$Reader", name := "readNumber", desc := "(II)Z" } : Jvm.MethodName)) ∈ zT := zT_2 (i := 150) (by decide +kernel) rfl
theorem tw_2_152 : (Jvm.Cond.instanceMethod ({ cls := "SumNames$Reader", name := "readNumber", desc := "(II)Z" } : Jvm.MethodName)) ∈ zT := zT_2 (i := 152) (by decide +kernel) rfl
set_option maxRecDepth 100000 in
theorem tw_2_153 : (Jvm.Cond.code ({ cls := "SumNames$Reader", name := "readNumber", desc := "(II)Z" } : Jvm.MethodName) prog_5_method_14_code (3 : Nat) (Option.some Jvm.ClassFile.FieldType.boolean)) ∈ zT := zT_2 (i := 153) rfl rfl
theorem tw_2_155 : (Jvm.Cond.methodLink "SumNames$Reader" (81 : Nat) ({ cls := "SumNames$World", name := "addSyllable", desc := "(J)Z" } : Jvm.MethodName)) ∈ zT := zT_2 (i := 155) (by decide +kernel) rfl
theorem tw_2_156 : (Jvm.Cond.instanceMethod ({ cls := "SumNames$World", name := "addSyllable", desc := "(J)Z" } : Jvm.MethodName)) ∈ zT := zT_2 (i := 156) (by decide +kernel) rfl
theorem tw_2_157 : (Jvm.Cond.selects "SumNames$World" ({ cls := "SumNames$World", name := "addSyllable", desc := "(J)Z" } : Jvm.MethodName) ({ cls := "SumNames$World", name := "addSyllable", desc := "(J)Z" } : Jvm.MethodName)) ∈ zT := zT_2 (i := 157) (by decide +kernel) rfl
set_option maxRecDepth 100000 in
theorem tw_2_158 : (Jvm.Cond.code ({ cls := "SumNames$World", name := "addSyllable", desc := "(J)Z" } : Jvm.MethodName) prog_7_method_4_code (3 : Nat) (Option.some Jvm.ClassFile.FieldType.boolean)) ∈ zT := zT_2 (i := 158) rfl rfl
theorem tw_2_159 : (Jvm.Cond.methodLink "SumNames$World" (59 : Nat) ({ cls := "SumNames$World", name := "isSyllable", desc := "(J)Z" } : Jvm.MethodName)) ∈ zT := zT_2 (i := 159) (by decide +kernel) rfl
theorem tw_2_160 : (Jvm.Cond.instanceMethod ({ cls := "SumNames$World", name := "isSyllable", desc := "(J)Z" } : Jvm.MethodName)) ∈ zT := zT_2 (i := 160) (by decide +kernel) rfl
theorem tw_2_161 : (Jvm.Cond.selects "SumNames$World" ({ cls := "SumNames$World", name := "isSyllable", desc := "(J)Z" } : Jvm.MethodName) ({ cls := "SumNames$World", name := "isSyllable", desc := "(J)Z" } : Jvm.MethodName)) ∈ zT := zT_2 (i := 161) (by decide +kernel) rfl
set_option maxRecDepth 100000 in
theorem tw_2_162 : (Jvm.Cond.code ({ cls := "SumNames$World", name := "isSyllable", desc := "(J)Z" } : Jvm.MethodName) prog_7_method_9_code (4 : Nat) (Option.some Jvm.ClassFile.FieldType.boolean)) ∈ zT := zT_2 (i := 162) rfl rfl
theorem tw_2_164 : (Jvm.Cond.methodLink "SumNames$Reader" (90 : Nat) ({ cls := "SumNames$Reader", name := "readNoParents", desc := "()Z" } : Jvm.MethodName)) ∈ zT := zT_2 (i := 164) (by decide +kernel) rfl
theorem tw_2_166 : (Jvm.Cond.instanceMethod ({ cls := "SumNames$Reader", name := "readNoParents", desc := "()Z" } : Jvm.MethodName)) ∈ zT := zT_2 (i := 166) (by decide +kernel) rfl
set_option maxRecDepth 100000 in
theorem tw_2_167 : (Jvm.Cond.code ({ cls := "SumNames$Reader", name := "readNoParents", desc := "()Z" } : Jvm.MethodName) prog_5_method_6_code (1 : Nat) (Option.some Jvm.ClassFile.FieldType.boolean)) ∈ zT := zT_2 (i := 167) rfl rfl
theorem tw_2_168 : (Jvm.Cond.methodLink "SumNames$Reader" (93 : Nat) ({ cls := "SumNames$Reader", name := "readBirth", desc := "()Z" } : Jvm.MethodName)) ∈ zT := zT_2 (i := 168) (by decide +kernel) rfl
theorem tw_2_170 : (Jvm.Cond.instanceMethod ({ cls := "SumNames$Reader", name := "readBirth", desc := "()Z" } : Jvm.MethodName)) ∈ zT := zT_2 (i := 170) (by decide +kernel) rfl
set_option maxRecDepth 100000 in
theorem tw_2_171 : (Jvm.Cond.code ({ cls := "SumNames$Reader", name := "readBirth", desc := "()Z" } : Jvm.MethodName) prog_5_method_8_code (2 : Nat) (Option.some Jvm.ClassFile.FieldType.boolean)) ∈ zT := zT_2 (i := 171) rfl rfl
theorem tw_2_172 : (Jvm.Cond.methodLink "SumNames$Reader" (138 : Nat) ({ cls := "SumNames$Reader", name := "readWordOrNothing", desc := "()Z" } : Jvm.MethodName)) ∈ zT := zT_2 (i := 172) (by decide +kernel) rfl
theorem tw_2_174 : (Jvm.Cond.instanceMethod ({ cls := "SumNames$Reader", name := "readWordOrNothing", desc := "()Z" } : Jvm.MethodName)) ∈ zT := zT_2 (i := 174) (by decide +kernel) rfl
set_option maxRecDepth 100000 in
theorem tw_2_175 : (Jvm.Cond.code ({ cls := "SumNames$Reader", name := "readWordOrNothing", desc := "()Z" } : Jvm.MethodName) prog_5_method_16_code (1 : Nat) (Option.some Jvm.ClassFile.FieldType.boolean)) ∈ zT := zT_2 (i := 175) rfl rfl
theorem tw_2_176 : (Jvm.Cond.constantLong "SumNames$Reader" (162 : Nat) (45 : Int64)) ∈ zT := zT_2 (i := 176) (by decide +kernel) rfl
theorem tw_2_177 : (Jvm.Cond.methodLink "SumNames$Reader" (141 : Nat) ({ cls := "SumNames$World", name := "addPerson", desc := "(IIIJ)V" } : Jvm.MethodName)) ∈ zT := zT_2 (i := 177) (by decide +kernel) rfl
theorem tw_2_178 : (Jvm.Cond.instanceMethod ({ cls := "SumNames$World", name := "addPerson", desc := "(IIIJ)V" } : Jvm.MethodName)) ∈ zT := zT_2 (i := 178) (by decide +kernel) rfl
theorem tw_2_179 : (Jvm.Cond.selects "SumNames$World" ({ cls := "SumNames$World", name := "addPerson", desc := "(IIIJ)V" } : Jvm.MethodName) ({ cls := "SumNames$World", name := "addPerson", desc := "(IIIJ)V" } : Jvm.MethodName)) ∈ zT := zT_2 (i := 179) (by decide +kernel) rfl
set_option maxRecDepth 100000 in
theorem tw_2_180 : (Jvm.Cond.code ({ cls := "SumNames$World", name := "addPerson", desc := "(IIIJ)V" } : Jvm.MethodName) prog_7_method_5_code (6 : Nat) (Option.none : Option Jvm.ClassFile.FieldType)) ∈ zT := zT_2 (i := 180) rfl rfl
theorem tw_2_181 : (Jvm.Cond.methodLink "SumNames$World" (63 : Nat) ({ cls := "SumNames$World", name := "kindOf", desc := "(III)I" } : Jvm.MethodName)) ∈ zT := zT_2 (i := 181) (by decide +kernel) rfl
theorem tw_2_183 : (Jvm.Cond.instanceMethod ({ cls := "SumNames$World", name := "kindOf", desc := "(III)I" } : Jvm.MethodName)) ∈ zT := zT_2 (i := 183) (by decide +kernel) rfl
set_option maxRecDepth 100000 in
theorem tw_2_184 : (Jvm.Cond.code ({ cls := "SumNames$World", name := "kindOf", desc := "(III)I" } : Jvm.MethodName) prog_7_method_6_code (7 : Nat) (Option.some Jvm.ClassFile.FieldType.int)) ∈ zT := zT_2 (i := 184) rfl rfl
theorem tw_2_186 : (Jvm.Cond.methodLink "SumNames$Reader" (98 : Nat) ({ cls := "SumNames$Reader", name := "readParents", desc := "()Z" } : Jvm.MethodName)) ∈ zT := zT_2 (i := 186) (by decide +kernel) rfl
theorem tw_2_188 : (Jvm.Cond.instanceMethod ({ cls := "SumNames$Reader", name := "readParents", desc := "()Z" } : Jvm.MethodName)) ∈ zT := zT_2 (i := 188) (by decide +kernel) rfl
set_option maxRecDepth 100000 in
theorem tw_2_189 : (Jvm.Cond.code ({ cls := "SumNames$Reader", name := "readParents", desc := "()Z" } : Jvm.MethodName) prog_5_method_7_code (1 : Nat) (Option.some Jvm.ClassFile.FieldType.boolean)) ∈ zT := zT_2 (i := 189) rfl rfl
theorem tw_2_190 : (Jvm.Cond.methodLink "SumNames$Reader" (135 : Nat) ({ cls := "SumNames$Reader", name := "readPerson", desc := "()Z" } : Jvm.MethodName)) ∈ zT := zT_2 (i := 190) (by decide +kernel) rfl
theorem tw_2_192 : (Jvm.Cond.instanceMethod ({ cls := "SumNames$Reader", name := "readPerson", desc := "()Z" } : Jvm.MethodName)) ∈ zT := zT_2 (i := 192) (by decide +kernel) rfl
set_option maxRecDepth 100000 in
theorem tw_2_193 : (Jvm.Cond.code ({ cls := "SumNames$Reader", name := "readPerson", desc := "()Z" } : Jvm.MethodName) prog_5_method_13_code (1 : Nat) (Option.some Jvm.ClassFile.FieldType.boolean)) ∈ zT := zT_2 (i := 193) rfl rfl
theorem tw_2_195 : (Jvm.Cond.methodLink "SumNames$Reader" (103 : Nat) ({ cls := "SumNames$Reader", name := "readCall", desc := "()Z" } : Jvm.MethodName)) ∈ zT := zT_2 (i := 195) (by decide +kernel) rfl
theorem tw_2_197 : (Jvm.Cond.instanceMethod ({ cls := "SumNames$Reader", name := "readCall", desc := "()Z" } : Jvm.MethodName)) ∈ zT := zT_2 (i := 197) (by decide +kernel) rfl
set_option maxRecDepth 100000 in
theorem tw_2_198 : (Jvm.Cond.code ({ cls := "SumNames$Reader", name := "readCall", desc := "()Z" } : Jvm.MethodName) prog_5_method_9_code (2 : Nat) (Option.some Jvm.ClassFile.FieldType.boolean)) ∈ zT := zT_2 (i := 198) rfl rfl
theorem tw_2_200 : (Jvm.Cond.methodLink "SumNames$Reader" (108 : Nat) ({ cls := "SumNames$Reader", name := "readHope", desc := "()Z" } : Jvm.MethodName)) ∈ zT := zT_2 (i := 200) (by decide +kernel) rfl
theorem tw_2_202 : (Jvm.Cond.instanceMethod ({ cls := "SumNames$Reader", name := "readHope", desc := "()Z" } : Jvm.MethodName)) ∈ zT := zT_2 (i := 202) (by decide +kernel) rfl
set_option maxRecDepth 100000 in
theorem tw_2_203 : (Jvm.Cond.code ({ cls := "SumNames$Reader", name := "readHope", desc := "()Z" } : Jvm.MethodName) prog_5_method_10_code (2 : Nat) (Option.some Jvm.ClassFile.FieldType.boolean)) ∈ zT := zT_2 (i := 203) rfl rfl
theorem tw_2_204 : (Jvm.Cond.methodLink "SumNames$Reader" (152 : Nat) ({ cls := "SumNames$World", name := "addHope", desc := "(II)V" } : Jvm.MethodName)) ∈ zT := zT_2 (i := 204) (by decide +kernel) rfl
theorem tw_2_205 : (Jvm.Cond.instanceMethod ({ cls := "SumNames$World", name := "addHope", desc := "(II)V" } : Jvm.MethodName)) ∈ zT := zT_2 (i := 205) (by decide +kernel) rfl
theorem tw_2_206 : (Jvm.Cond.selects "SumNames$World" ({ cls := "SumNames$World", name := "addHope", desc := "(II)V" } : Jvm.MethodName) ({ cls := "SumNames$World", name := "addHope", desc := "(II)V" } : Jvm.MethodName)) ∈ zT := zT_2 (i := 206) (by decide +kernel) rfl
set_option maxRecDepth 100000 in
theorem tw_2_207 : (Jvm.Cond.code ({ cls := "SumNames$World", name := "addHope", desc := "(II)V" } : Jvm.MethodName) prog_7_method_7_code (3 : Nat) (Option.none : Option Jvm.ClassFile.FieldType)) ∈ zT := zT_2 (i := 207) rfl rfl
theorem tw_2_209 : (Jvm.Cond.methodLink "SumNames$Reader" (113 : Nat) ({ cls := "SumNames$Reader", name := "readDegrees", desc := "()Z" } : Jvm.MethodName)) ∈ zT := zT_2 (i := 209) (by decide +kernel) rfl
theorem tw_2_211 : (Jvm.Cond.instanceMethod ({ cls := "SumNames$Reader", name := "readDegrees", desc := "()Z" } : Jvm.MethodName)) ∈ zT := zT_2 (i := 211) (by decide +kernel) rfl
set_option maxRecDepth 100000 in
theorem tw_2_212 : (Jvm.Cond.code ({ cls := "SumNames$Reader", name := "readDegrees", desc := "()Z" } : Jvm.MethodName) prog_5_method_11_code (1 : Nat) (Option.some Jvm.ClassFile.FieldType.boolean)) ∈ zT := zT_2 (i := 212) rfl rfl
theorem tw_2_214 : (Jvm.Cond.methodLink "SumNames$Reader" (118 : Nat) ({ cls := "SumNames$Reader", name := "readForget", desc := "()Z" } : Jvm.MethodName)) ∈ zT := zT_2 (i := 214) (by decide +kernel) rfl
theorem tw_2_216 : (Jvm.Cond.instanceMethod ({ cls := "SumNames$Reader", name := "readForget", desc := "()Z" } : Jvm.MethodName)) ∈ zT := zT_2 (i := 216) (by decide +kernel) rfl
set_option maxRecDepth 100000 in
theorem tw_2_217 : (Jvm.Cond.code ({ cls := "SumNames$Reader", name := "readForget", desc := "()Z" } : Jvm.MethodName) prog_5_method_12_code (1 : Nat) (Option.some Jvm.ClassFile.FieldType.boolean)) ∈ zT := zT_2 (i := 217) rfl rfl
theorem tw_2_218 : (Jvm.Cond.methodLink "SumNames$Reader" (159 : Nat) ({ cls := "SumNames$World", name := "forgetAll", desc := "()V" } : Jvm.MethodName)) ∈ zT := zT_2 (i := 218) (by decide +kernel) rfl
theorem tw_2_219 : (Jvm.Cond.instanceMethod ({ cls := "SumNames$World", name := "forgetAll", desc := "()V" } : Jvm.MethodName)) ∈ zT := zT_2 (i := 219) (by decide +kernel) rfl
theorem tw_2_220 : (Jvm.Cond.selects "SumNames$World" ({ cls := "SumNames$World", name := "forgetAll", desc := "()V" } : Jvm.MethodName) ({ cls := "SumNames$World", name := "forgetAll", desc := "()V" } : Jvm.MethodName)) ∈ zT := zT_2 (i := 220) (by decide +kernel) rfl
set_option maxRecDepth 100000 in
theorem tw_2_221 : (Jvm.Cond.code ({ cls := "SumNames$World", name := "forgetAll", desc := "()V" } : Jvm.MethodName) prog_7_method_3_code (1 : Nat) (Option.none : Option Jvm.ClassFile.FieldType)) ∈ zT := zT_2 (i := 221) rfl rfl
theorem tw_2_222 : (Jvm.Cond.constantLong "SumNames$Reader" (64 : Nat) (59 : Int64)) ∈ zT := zT_2 (i := 222) (by decide +kernel) rfl
theorem tw_2_223 : (Jvm.Cond.arrayClass Jvm.ClassFile.FieldType.byte) ∈ zT := zT_2 (i := 223) (by decide +kernel) rfl
theorem tw_2_224 : (Jvm.Cond.methodLink "SumNamesLaw" (29 : Nat) ({ cls := "SumNames", name := "told", desc := "()I" } : Jvm.MethodName)) ∈ zT := zT_2 (i := 224) (by decide +kernel) rfl
theorem tw_2_225 : (Jvm.Cond.instanceMethod ({ cls := "SumNames", name := "told", desc := "()I" } : Jvm.MethodName)) ∈ zT := zT_2 (i := 225) (by decide +kernel) rfl
theorem tw_2_226 : (Jvm.Cond.selects "SumNames" ({ cls := "SumNames", name := "told", desc := "()I" } : Jvm.MethodName) ({ cls := "SumNames", name := "told", desc := "()I" } : Jvm.MethodName)) ∈ zT := zT_2 (i := 226) (by decide +kernel) rfl
set_option maxRecDepth 100000 in
theorem tw_2_227 : (Jvm.Cond.code ({ cls := "SumNames", name := "told", desc := "()I" } : Jvm.MethodName) prog_1_method_5_code (1 : Nat) (Option.some Jvm.ClassFile.FieldType.int)) ∈ zT := zT_2 (i := 227) rfl rfl
theorem tw_2_228 : (Jvm.Cond.methodLink "SumNames" (74 : Nat) ({ cls := "SumNames$World", name := "takeFrom", desc := "(LSumNames$World;)V" } : Jvm.MethodName)) ∈ zT := zT_2 (i := 228) (by decide +kernel) rfl
theorem tw_2_229 : (Jvm.Cond.methodLink "SumNamesLaw" (33 : Nat) ({ cls := "SumNames", name := "letter", desc := "(I)I" } : Jvm.MethodName)) ∈ zT := zT_2 (i := 229) (by decide +kernel) rfl
theorem tw_2_230 : (Jvm.Cond.instanceMethod ({ cls := "SumNames", name := "letter", desc := "(I)I" } : Jvm.MethodName)) ∈ zT := zT_2 (i := 230) (by decide +kernel) rfl
theorem tw_2_231 : (Jvm.Cond.selects "SumNames" ({ cls := "SumNames", name := "letter", desc := "(I)I" } : Jvm.MethodName) ({ cls := "SumNames", name := "letter", desc := "(I)I" } : Jvm.MethodName)) ∈ zT := zT_2 (i := 231) (by decide +kernel) rfl
set_option maxRecDepth 100000 in
theorem tw_2_232 : (Jvm.Cond.code ({ cls := "SumNames", name := "letter", desc := "(I)I" } : Jvm.MethodName) prog_1_method_6_code (2 : Nat) (Option.some Jvm.ClassFile.FieldType.int)) ∈ zT := zT_2 (i := 232) rfl rfl
theorem tw_2_233 : (Jvm.Cond.methodLink "SumNames" (81 : Nat) ({ cls := "SumNames", name := "isLetter", desc := "(I)Z" } : Jvm.MethodName)) ∈ zT := zT_2 (i := 233) (by decide +kernel) rfl
theorem tw_2_234 : (Jvm.Cond.methodLink "SumNamesLaw" (38 : Nat) ({ cls := "SumNames", name := "person", desc := "(II)I" } : Jvm.MethodName)) ∈ zT := zT_2 (i := 234) (by decide +kernel) rfl
theorem tw_2_235 : (Jvm.Cond.instanceMethod ({ cls := "SumNames", name := "person", desc := "(II)I" } : Jvm.MethodName)) ∈ zT := zT_2 (i := 235) (by decide +kernel) rfl
theorem tw_2_236 : (Jvm.Cond.selects "SumNames" ({ cls := "SumNames", name := "person", desc := "(II)I" } : Jvm.MethodName) ({ cls := "SumNames", name := "person", desc := "(II)I" } : Jvm.MethodName)) ∈ zT := zT_2 (i := 236) (by decide +kernel) rfl
set_option maxRecDepth 100000 in
theorem tw_2_237 : (Jvm.Cond.code ({ cls := "SumNames", name := "person", desc := "(II)I" } : Jvm.MethodName) prog_1_method_7_code (3 : Nat) (Option.some Jvm.ClassFile.FieldType.int)) ∈ zT := zT_2 (i := 237) rfl rfl
theorem tw_2_238 : (Jvm.Cond.methodLink "SumNames" (88 : Nat) ({ cls := "SumNames$World", name := "isPerson", desc := "(I)Z" } : Jvm.MethodName)) ∈ zT := zT_2 (i := 238) (by decide +kernel) rfl
theorem tw_2_239 : (Jvm.Cond.instanceMethod ({ cls := "SumNames$World", name := "isPerson", desc := "(I)Z" } : Jvm.MethodName)) ∈ zT := zT_2 (i := 239) (by decide +kernel) rfl
theorem tw_3_0 : (Jvm.Cond.selects "SumNames$World" ({ cls := "SumNames$World", name := "isPerson", desc := "(I)Z" } : Jvm.MethodName) ({ cls := "SumNames$World", name := "isPerson", desc := "(I)Z" } : Jvm.MethodName)) ∈ zT := zT_3 (i := 0) (by decide +kernel) rfl
set_option maxRecDepth 100000 in
theorem tw_3_1 : (Jvm.Cond.code ({ cls := "SumNames$World", name := "isPerson", desc := "(I)Z" } : Jvm.MethodName) prog_7_method_8_code (2 : Nat) (Option.some Jvm.ClassFile.FieldType.boolean)) ∈ zT := zT_3 (i := 1) rfl rfl
theorem tw_3_2 : (Jvm.Cond.methodLink "SumNames" (103 : Nat) ({ cls := "SumNames$World", name := "nearOf", desc := "(I)I" } : Jvm.MethodName)) ∈ zT := zT_3 (i := 2) (by decide +kernel) rfl
theorem tw_3_3 : (Jvm.Cond.instanceMethod ({ cls := "SumNames$World", name := "nearOf", desc := "(I)I" } : Jvm.MethodName)) ∈ zT := zT_3 (i := 3) (by decide +kernel) rfl
theorem tw_3_4 : (Jvm.Cond.selects "SumNames$World" ({ cls := "SumNames$World", name := "nearOf", desc := "(I)I" } : Jvm.MethodName) ({ cls := "SumNames$World", name := "nearOf", desc := "(I)I" } : Jvm.MethodName)) ∈ zT := zT_3 (i := 4) (by decide +kernel) rfl
set_option maxRecDepth 100000 in
theorem tw_3_5 : (Jvm.Cond.code ({ cls := "SumNames$World", name := "nearOf", desc := "(I)I" } : Jvm.MethodName) prog_7_method_17_code (2 : Nat) (Option.some Jvm.ClassFile.FieldType.int)) ∈ zT := zT_3 (i := 5) rfl rfl
theorem tw_3_6 : (Jvm.Cond.methodLink "SumNames$World" (101 : Nat) ({ cls := "SumNames$World", name := "within", desc := "(II)I" } : Jvm.MethodName)) ∈ zT := zT_3 (i := 6) (by decide +kernel) rfl
theorem tw_3_8 : (Jvm.Cond.instanceMethod ({ cls := "SumNames$World", name := "within", desc := "(II)I" } : Jvm.MethodName)) ∈ zT := zT_3 (i := 8) (by decide +kernel) rfl
set_option maxRecDepth 100000 in
theorem tw_3_9 : (Jvm.Cond.code ({ cls := "SumNames$World", name := "within", desc := "(II)I" } : Jvm.MethodName) prog_7_method_19_code (5 : Nat) (Option.some Jvm.ClassFile.FieldType.int)) ∈ zT := zT_3 (i := 9) rfl rfl
theorem tw_3_10 : (Jvm.Cond.methodLink "SumNames$World" (105 : Nat) ({ cls := "SumNames$World", name := "oneStepMore", desc := "(I)I" } : Jvm.MethodName)) ∈ zT := zT_3 (i := 10) (by decide +kernel) rfl
theorem tw_3_12 : (Jvm.Cond.instanceMethod ({ cls := "SumNames$World", name := "oneStepMore", desc := "(I)I" } : Jvm.MethodName)) ∈ zT := zT_3 (i := 12) (by decide +kernel) rfl
set_option maxRecDepth 100000 in
theorem tw_3_13 : (Jvm.Cond.code ({ cls := "SumNames$World", name := "oneStepMore", desc := "(I)I" } : Jvm.MethodName) prog_7_method_20_code (5 : Nat) (Option.some Jvm.ClassFile.FieldType.int)) ∈ zT := zT_3 (i := 13) rfl rfl
theorem tw_3_14 : (Jvm.Cond.methodLink "SumNamesLaw" (43 : Nat) ({ cls := "SumNames", name := "called", desc := "(I)J" } : Jvm.MethodName)) ∈ zT := zT_3 (i := 14) (by decide +kernel) rfl
theorem tw_3_15 : (Jvm.Cond.instanceMethod ({ cls := "SumNames", name := "called", desc := "(I)J" } : Jvm.MethodName)) ∈ zT := zT_3 (i := 15) (by decide +kernel) rfl
theorem tw_3_16 : (Jvm.Cond.selects "SumNames" ({ cls := "SumNames", name := "called", desc := "(I)J" } : Jvm.MethodName) ({ cls := "SumNames", name := "called", desc := "(I)J" } : Jvm.MethodName)) ∈ zT := zT_3 (i := 16) (by decide +kernel) rfl
set_option maxRecDepth 100000 in
theorem tw_3_17 : (Jvm.Cond.code ({ cls := "SumNames", name := "called", desc := "(I)J" } : Jvm.MethodName) prog_1_method_8_code (2 : Nat) (Option.some Jvm.ClassFile.FieldType.long)) ∈ zT := zT_3 (i := 17) rfl rfl
theorem tw_3_18 : (Jvm.Cond.constantLong "SumNames" (111 : Nat) (-2 : Int64)) ∈ zT := zT_3 (i := 18) (by decide +kernel) rfl
theorem tw_3_19 : (Jvm.Cond.methodLink "SumNamesLaw" (48 : Nat) ({ cls := "SumNames", name := "degrees", desc := "(II)I" } : Jvm.MethodName)) ∈ zT := zT_3 (i := 19) (by decide +kernel) rfl
theorem tw_3_20 : (Jvm.Cond.instanceMethod ({ cls := "SumNames", name := "degrees", desc := "(II)I" } : Jvm.MethodName)) ∈ zT := zT_3 (i := 20) (by decide +kernel) rfl
theorem tw_3_21 : (Jvm.Cond.selects "SumNames" ({ cls := "SumNames", name := "degrees", desc := "(II)I" } : Jvm.MethodName) ({ cls := "SumNames", name := "degrees", desc := "(II)I" } : Jvm.MethodName)) ∈ zT := zT_3 (i := 21) (by decide +kernel) rfl
set_option maxRecDepth 100000 in
theorem tw_3_22 : (Jvm.Cond.code ({ cls := "SumNames", name := "degrees", desc := "(II)I" } : Jvm.MethodName) prog_1_method_9_code (3 : Nat) (Option.some Jvm.ClassFile.FieldType.int)) ∈ zT := zT_3 (i := 22) rfl rfl
theorem tw_3_23 : (Jvm.Cond.methodLink "SumNames" (113 : Nat) ({ cls := "SumNames$World", name := "stepsBetween", desc := "(II)I" } : Jvm.MethodName)) ∈ zT := zT_3 (i := 23) (by decide +kernel) rfl
theorem tw_3_24 : (Jvm.Cond.instanceMethod ({ cls := "SumNames$World", name := "stepsBetween", desc := "(II)I" } : Jvm.MethodName)) ∈ zT := zT_3 (i := 24) (by decide +kernel) rfl
theorem tw_3_25 : (Jvm.Cond.selects "SumNames$World" ({ cls := "SumNames$World", name := "stepsBetween", desc := "(II)I" } : Jvm.MethodName) ({ cls := "SumNames$World", name := "stepsBetween", desc := "(II)I" } : Jvm.MethodName)) ∈ zT := zT_3 (i := 25) (by decide +kernel) rfl
set_option maxRecDepth 100000 in
theorem tw_3_26 : (Jvm.Cond.code ({ cls := "SumNames$World", name := "stepsBetween", desc := "(II)I" } : Jvm.MethodName) prog_7_method_21_code (5 : Nat) (Option.some Jvm.ClassFile.FieldType.int)) ∈ zT := zT_3 (i := 26) rfl rfl
theorem tw_3_27 : (Jvm.Cond.methodLink "SumNamesLaw" (52 : Nat) ({ cls := "SumNames", name := "as", desc := "(II)I" } : Jvm.MethodName)) ∈ zT := zT_3 (i := 27) (by decide +kernel) rfl
theorem tw_3_28 : (Jvm.Cond.instanceMethod ({ cls := "SumNames", name := "as", desc := "(II)I" } : Jvm.MethodName)) ∈ zT := zT_3 (i := 28) (by decide +kernel) rfl
theorem tw_3_29 : (Jvm.Cond.selects "SumNames" ({ cls := "SumNames", name := "as", desc := "(II)I" } : Jvm.MethodName) ({ cls := "SumNames", name := "as", desc := "(II)I" } : Jvm.MethodName)) ∈ zT := zT_3 (i := 29) (by decide +kernel) rfl
set_option maxRecDepth 100000 in
theorem tw_3_30 : (Jvm.Cond.code ({ cls := "SumNames", name := "as", desc := "(II)I" } : Jvm.MethodName) prog_1_method_10_code (3 : Nat) (Option.some Jvm.ClassFile.FieldType.int)) ∈ zT := zT_3 (i := 30) rfl rfl
theorem tw_3_31 : (Jvm.Cond.methodLink "SumNames" (117 : Nat) ({ cls := "SumNames", name := "isOfKind", desc := "(II)Z" } : Jvm.MethodName)) ∈ zT := zT_3 (i := 31) (by decide +kernel) rfl
theorem tw_3_32 : (Jvm.Cond.static ({ cls := "SumNames", name := "isOfKind", desc := "(II)Z" } : Jvm.MethodName)) ∈ zT := zT_3 (i := 32) (by decide +kernel) rfl
set_option maxRecDepth 100000 in
theorem tw_3_33 : (Jvm.Cond.code ({ cls := "SumNames", name := "isOfKind", desc := "(II)Z" } : Jvm.MethodName) prog_1_method_11_code (2 : Nat) (Option.some Jvm.ClassFile.FieldType.boolean)) ∈ zT := zT_3 (i := 33) rfl rfl
theorem tw_3_34 : (Jvm.Cond.methodLink "SumNames" (121 : Nat) ({ cls := "java/lang/Integer", name := "bitCount", desc := "(I)I" } : Jvm.MethodName)) ∈ zT := zT_3 (i := 34) (by decide +kernel) rfl
theorem tw_3_35 : (Jvm.Cond.static ({ cls := "java/lang/Integer", name := "bitCount", desc := "(I)I" } : Jvm.MethodName)) ∈ zT := zT_3 (i := 35) (by decide +kernel) rfl
set_option maxRecDepth 100000 in
theorem tw_3_36 : (Jvm.Cond.code ({ cls := "java/lang/Integer", name := "bitCount", desc := "(I)I" } : Jvm.MethodName) prog_10_method_49_code (1 : Nat) (Option.some Jvm.ClassFile.FieldType.int)) ∈ zT := zT_3 (i := 36) rfl rfl
theorem tw_3_37 : (Jvm.Cond.constant "java/lang/Integer" (265 : Nat) (1431655765 : Int32)) ∈ zT := zT_3 (i := 37) (by decide +kernel) rfl
theorem tw_3_38 : (Jvm.Cond.constant "java/lang/Integer" (266 : Nat) (858993459 : Int32)) ∈ zT := zT_3 (i := 38) (by decide +kernel) rfl
theorem tw_3_39 : (Jvm.Cond.constant "java/lang/Integer" (267 : Nat) (252645135 : Int32)) ∈ zT := zT_3 (i := 39) (by decide +kernel) rfl
theorem tw_3_40 : (Jvm.Cond.methodLink "SumNamesLaw" (56 : Nat) ({ cls := "SumNames", name := "sum", desc := "(J)I" } : Jvm.MethodName)) ∈ zT := zT_3 (i := 40) (by decide +kernel) rfl
theorem tw_3_41 : (Jvm.Cond.instanceMethod ({ cls := "SumNames", name := "sum", desc := "(J)I" } : Jvm.MethodName)) ∈ zT := zT_3 (i := 41) (by decide +kernel) rfl
theorem tw_3_42 : (Jvm.Cond.selects "SumNames" ({ cls := "SumNames", name := "sum", desc := "(J)I" } : Jvm.MethodName) ({ cls := "SumNames", name := "sum", desc := "(J)I" } : Jvm.MethodName)) ∈ zT := zT_3 (i := 42) (by decide +kernel) rfl
set_option maxRecDepth 100000 in
theorem tw_3_43 : (Jvm.Cond.code ({ cls := "SumNames", name := "sum", desc := "(J)I" } : Jvm.MethodName) prog_1_method_12_code (3 : Nat) (Option.some Jvm.ClassFile.FieldType.int)) ∈ zT := zT_3 (i := 43) rfl rfl
theorem tw_3_44 : (Jvm.Cond.methodLink "SumNames" (126 : Nat) ({ cls := "SumNames", name := "lettersOf", desc := "(J)I" } : Jvm.MethodName)) ∈ zT := zT_3 (i := 44) (by decide +kernel) rfl
theorem tw_3_45 : (Jvm.Cond.static ({ cls := "SumNames", name := "lettersOf", desc := "(J)I" } : Jvm.MethodName)) ∈ zT := zT_3 (i := 45) (by decide +kernel) rfl
set_option maxRecDepth 100000 in
theorem tw_3_46 : (Jvm.Cond.code ({ cls := "SumNames", name := "lettersOf", desc := "(J)I" } : Jvm.MethodName) prog_1_method_49_code (5 : Nat) (Option.some Jvm.ClassFile.FieldType.int)) ∈ zT := zT_3 (i := 46) rfl rfl
theorem tw_3_47 : (Jvm.Cond.constantLong "SumNames" (308 : Nat) (7625597484986 : Int64)) ∈ zT := zT_3 (i := 47) (by decide +kernel) rfl
theorem tw_3_48 : (Jvm.Cond.methodLink "SumNames" (130 : Nat) ({ cls := "SumNames$World", name := "sumOf", desc := "(J)I" } : Jvm.MethodName)) ∈ zT := zT_3 (i := 48) (by decide +kernel) rfl
theorem tw_3_49 : (Jvm.Cond.instanceMethod ({ cls := "SumNames$World", name := "sumOf", desc := "(J)I" } : Jvm.MethodName)) ∈ zT := zT_3 (i := 49) (by decide +kernel) rfl
theorem tw_3_50 : (Jvm.Cond.selects "SumNames$World" ({ cls := "SumNames$World", name := "sumOf", desc := "(J)I" } : Jvm.MethodName) ({ cls := "SumNames$World", name := "sumOf", desc := "(J)I" } : Jvm.MethodName)) ∈ zT := zT_3 (i := 50) (by decide +kernel) rfl
set_option maxRecDepth 100000 in
theorem tw_3_51 : (Jvm.Cond.code ({ cls := "SumNames$World", name := "sumOf", desc := "(J)I" } : Jvm.MethodName) prog_7_method_10_code (8 : Nat) (Option.some Jvm.ClassFile.FieldType.int)) ∈ zT := zT_3 (i := 51) rfl rfl
theorem tw_3_54 : (Jvm.Cond.constantLong "SumNames$World" (75 : Nat) (27 : Int64)) ∈ zT := zT_3 (i := 54) (by decide +kernel) rfl
theorem tw_3_55 : (Jvm.Cond.methodLink "SumNamesLaw" (61 : Nat) ({ cls := "SumNames", name := "name", desc := "(J)I" } : Jvm.MethodName)) ∈ zT := zT_3 (i := 55) (by decide +kernel) rfl
theorem tw_3_56 : (Jvm.Cond.instanceMethod ({ cls := "SumNames", name := "name", desc := "(J)I" } : Jvm.MethodName)) ∈ zT := zT_3 (i := 56) (by decide +kernel) rfl
theorem tw_3_57 : (Jvm.Cond.selects "SumNames" ({ cls := "SumNames", name := "name", desc := "(J)I" } : Jvm.MethodName) ({ cls := "SumNames", name := "name", desc := "(J)I" } : Jvm.MethodName)) ∈ zT := zT_3 (i := 57) (by decide +kernel) rfl
set_option maxRecDepth 100000 in
theorem tw_3_58 : (Jvm.Cond.code ({ cls := "SumNames", name := "name", desc := "(J)I" } : Jvm.MethodName) prog_1_method_13_code (3 : Nat) (Option.some Jvm.ClassFile.FieldType.int)) ∈ zT := zT_3 (i := 58) rfl rfl
theorem tw_3_59 : (Jvm.Cond.methodLink "SumNames" (133 : Nat) ({ cls := "SumNames$World", name := "isName", desc := "(J)Z" } : Jvm.MethodName)) ∈ zT := zT_3 (i := 59) (by decide +kernel) rfl
theorem tw_3_60 : (Jvm.Cond.instanceMethod ({ cls := "SumNames$World", name := "isName", desc := "(J)Z" } : Jvm.MethodName)) ∈ zT := zT_3 (i := 60) (by decide +kernel) rfl
theorem tw_3_61 : (Jvm.Cond.selects "SumNames$World" ({ cls := "SumNames$World", name := "isName", desc := "(J)Z" } : Jvm.MethodName) ({ cls := "SumNames$World", name := "isName", desc := "(J)Z" } : Jvm.MethodName)) ∈ zT := zT_3 (i := 61) (by decide +kernel) rfl
set_option maxRecDepth 100000 in
theorem tw_3_62 : (Jvm.Cond.code ({ cls := "SumNames$World", name := "isName", desc := "(J)Z" } : Jvm.MethodName) prog_7_method_12_code (3 : Nat) (Option.some Jvm.ClassFile.FieldType.boolean)) ∈ zT := zT_3 (i := 62) rfl rfl
theorem tw_3_63 : (Jvm.Cond.methodLink "SumNames$World" (80 : Nat) ({ cls := "SumNames$World", name := "sumInNames", desc := "(J)I" } : Jvm.MethodName)) ∈ zT := zT_3 (i := 63) (by decide +kernel) rfl
theorem tw_3_64 : (Jvm.Cond.instanceMethod ({ cls := "SumNames$World", name := "sumInNames", desc := "(J)I" } : Jvm.MethodName)) ∈ zT := zT_3 (i := 64) (by decide +kernel) rfl
theorem tw_3_65 : (Jvm.Cond.selects "SumNames$World" ({ cls := "SumNames$World", name := "sumInNames", desc := "(J)I" } : Jvm.MethodName) ({ cls := "SumNames$World", name := "sumInNames", desc := "(J)I" } : Jvm.MethodName)) ∈ zT := zT_3 (i := 65) (by decide +kernel) rfl
set_option maxRecDepth 100000 in
theorem tw_3_66 : (Jvm.Cond.code ({ cls := "SumNames$World", name := "sumInNames", desc := "(J)I" } : Jvm.MethodName) prog_7_method_11_code (7 : Nat) (Option.some Jvm.ClassFile.FieldType.int)) ∈ zT := zT_3 (i := 66) rfl rfl
theorem tw_3_67 : (Jvm.Cond.methodLink "SumNames$World" (77 : Nat) ({ cls := "SumNames$World", name := "sumOf", desc := "(J)I" } : Jvm.MethodName)) ∈ zT := zT_3 (i := 67) (by decide +kernel) rfl
theorem tw_3_68 : (Jvm.Cond.methodLink "SumNames$World" (83 : Nat) ({ cls := "SumNames$World", name := "isParted", desc := "(JI)Z" } : Jvm.MethodName)) ∈ zT := zT_3 (i := 68) (by decide +kernel) rfl
theorem tw_3_70 : (Jvm.Cond.instanceMethod ({ cls := "SumNames$World", name := "isParted", desc := "(JI)Z" } : Jvm.MethodName)) ∈ zT := zT_3 (i := 70) (by decide +kernel) rfl
set_option maxRecDepth 100000 in
theorem tw_3_71 : (Jvm.Cond.code ({ cls := "SumNames$World", name := "isParted", desc := "(JI)Z" } : Jvm.MethodName) prog_7_method_13_code (7 : Nat) (Option.some Jvm.ClassFile.FieldType.boolean)) ∈ zT := zT_3 (i := 71) rfl rfl
theorem tw_3_72 : (Jvm.Cond.methodLink "SumNamesLaw" (65 : Nat) ({ cls := "SumNames", name := "judge", desc := "(I)I" } : Jvm.MethodName)) ∈ zT := zT_3 (i := 72) (by decide +kernel) rfl
theorem tw_3_73 : (Jvm.Cond.instanceMethod ({ cls := "SumNames", name := "judge", desc := "(I)I" } : Jvm.MethodName)) ∈ zT := zT_3 (i := 73) (by decide +kernel) rfl
theorem tw_3_74 : (Jvm.Cond.selects "SumNames" ({ cls := "SumNames", name := "judge", desc := "(I)I" } : Jvm.MethodName) ({ cls := "SumNames", name := "judge", desc := "(I)I" } : Jvm.MethodName)) ∈ zT := zT_3 (i := 74) (by decide +kernel) rfl
set_option maxRecDepth 100000 in
theorem tw_3_75 : (Jvm.Cond.code ({ cls := "SumNames", name := "judge", desc := "(I)I" } : Jvm.MethodName) prog_1_method_14_code (2 : Nat) (Option.some Jvm.ClassFile.FieldType.int)) ∈ zT := zT_3 (i := 75) rfl rfl
theorem tw_3_76 : (Jvm.Cond.methodLink "SumNames" (137 : Nat) ({ cls := "SumNames$World", name := "faultOfName", desc := "(I)I" } : Jvm.MethodName)) ∈ zT := zT_3 (i := 76) (by decide +kernel) rfl
theorem tw_3_77 : (Jvm.Cond.instanceMethod ({ cls := "SumNames$World", name := "faultOfName", desc := "(I)I" } : Jvm.MethodName)) ∈ zT := zT_3 (i := 77) (by decide +kernel) rfl
theorem tw_3_78 : (Jvm.Cond.selects "SumNames$World" ({ cls := "SumNames$World", name := "faultOfName", desc := "(I)I" } : Jvm.MethodName) ({ cls := "SumNames$World", name := "faultOfName", desc := "(I)I" } : Jvm.MethodName)) ∈ zT := zT_3 (i := 78) (by decide +kernel) rfl
set_option maxRecDepth 100000 in
theorem tw_3_79 : (Jvm.Cond.code ({ cls := "SumNames$World", name := "faultOfName", desc := "(I)I" } : Jvm.MethodName) prog_7_method_15_code (4 : Nat) (Option.some Jvm.ClassFile.FieldType.int)) ∈ zT := zT_3 (i := 79) rfl rfl
theorem tw_3_80 : (Jvm.Cond.methodLink "SumNames$World" (87 : Nat) ({ cls := "SumNames$World", name := "isName", desc := "(J)Z" } : Jvm.MethodName)) ∈ zT := zT_3 (i := 80) (by decide +kernel) rfl
theorem tw_3_81 : (Jvm.Cond.methodLink "SumNames$World" (90 : Nat) ({ cls := "SumNames$World", name := "addsUp", desc := "(I)Z" } : Jvm.MethodName)) ∈ zT := zT_3 (i := 81) (by decide +kernel) rfl
theorem tw_3_82 : (Jvm.Cond.instanceMethod ({ cls := "SumNames$World", name := "addsUp", desc := "(I)Z" } : Jvm.MethodName)) ∈ zT := zT_3 (i := 82) (by decide +kernel) rfl
theorem tw_3_83 : (Jvm.Cond.selects "SumNames$World" ({ cls := "SumNames$World", name := "addsUp", desc := "(I)Z" } : Jvm.MethodName) ({ cls := "SumNames$World", name := "addsUp", desc := "(I)Z" } : Jvm.MethodName)) ∈ zT := zT_3 (i := 83) (by decide +kernel) rfl
set_option maxRecDepth 100000 in
theorem tw_3_84 : (Jvm.Cond.code ({ cls := "SumNames$World", name := "addsUp", desc := "(I)Z" } : Jvm.MethodName) prog_7_method_14_code (2 : Nat) (Option.some Jvm.ClassFile.FieldType.boolean)) ∈ zT := zT_3 (i := 84) rfl rfl
theorem tw_3_85 : (Jvm.Cond.methodLink "SumNames$World" (93 : Nat) ({ cls := "SumNames$World", name := "nearOf", desc := "(I)I" } : Jvm.MethodName)) ∈ zT := zT_3 (i := 85) (by decide +kernel) rfl
theorem tw_3_86 : (Jvm.Cond.methodLink "SumNames$World" (97 : Nat) ({ cls := "SumNames$World", name := "leastCalled", desc := "(JI)I" } : Jvm.MethodName)) ∈ zT := zT_3 (i := 86) (by decide +kernel) rfl
theorem tw_3_87 : (Jvm.Cond.instanceMethod ({ cls := "SumNames$World", name := "leastCalled", desc := "(JI)I" } : Jvm.MethodName)) ∈ zT := zT_3 (i := 87) (by decide +kernel) rfl
theorem tw_3_88 : (Jvm.Cond.selects "SumNames$World" ({ cls := "SumNames$World", name := "leastCalled", desc := "(JI)I" } : Jvm.MethodName) ({ cls := "SumNames$World", name := "leastCalled", desc := "(JI)I" } : Jvm.MethodName)) ∈ zT := zT_3 (i := 88) (by decide +kernel) rfl
set_option maxRecDepth 100000 in
theorem tw_3_89 : (Jvm.Cond.code ({ cls := "SumNames$World", name := "leastCalled", desc := "(JI)I" } : Jvm.MethodName) prog_7_method_16_code (5 : Nat) (Option.some Jvm.ClassFile.FieldType.int)) ∈ zT := zT_3 (i := 89) rfl rfl
theorem tw_3_90 : (Jvm.Cond.methodLink "SumNamesLaw" (69 : Nat) ({ cls := "SumNames", name := "taker", desc := "(I)I" } : Jvm.MethodName)) ∈ zT := zT_3 (i := 90) (by decide +kernel) rfl
theorem tw_3_91 : (Jvm.Cond.instanceMethod ({ cls := "SumNames", name := "taker", desc := "(I)I" } : Jvm.MethodName)) ∈ zT := zT_3 (i := 91) (by decide +kernel) rfl
theorem tw_3_92 : (Jvm.Cond.selects "SumNames" ({ cls := "SumNames", name := "taker", desc := "(I)I" } : Jvm.MethodName) ({ cls := "SumNames", name := "taker", desc := "(I)I" } : Jvm.MethodName)) ∈ zT := zT_3 (i := 92) (by decide +kernel) rfl
set_option maxRecDepth 100000 in
theorem tw_3_93 : (Jvm.Cond.code ({ cls := "SumNames", name := "taker", desc := "(I)I" } : Jvm.MethodName) prog_1_method_15_code (2 : Nat) (Option.some Jvm.ClassFile.FieldType.int)) ∈ zT := zT_3 (i := 93) rfl rfl
theorem tw_3_94 : (Jvm.Cond.methodLink "SumNames" (140 : Nat) ({ cls := "SumNames$World", name := "leastCalled", desc := "(JI)I" } : Jvm.MethodName)) ∈ zT := zT_3 (i := 94) (by decide +kernel) rfl
theorem tw_3_95 : (Jvm.Cond.methodLink "SumNamesLaw" (73 : Nat) ({ cls := "SumNames", name := "names", desc := "(II)I" } : Jvm.MethodName)) ∈ zT := zT_3 (i := 95) (by decide +kernel) rfl
theorem tw_3_96 : (Jvm.Cond.instanceMethod ({ cls := "SumNames", name := "names", desc := "(II)I" } : Jvm.MethodName)) ∈ zT := zT_3 (i := 96) (by decide +kernel) rfl
theorem tw_3_97 : (Jvm.Cond.selects "SumNames" ({ cls := "SumNames", name := "names", desc := "(II)I" } : Jvm.MethodName) ({ cls := "SumNames", name := "names", desc := "(II)I" } : Jvm.MethodName)) ∈ zT := zT_3 (i := 97) (by decide +kernel) rfl
set_option maxRecDepth 100000 in
theorem tw_3_98 : (Jvm.Cond.code ({ cls := "SumNames", name := "names", desc := "(II)I" } : Jvm.MethodName) prog_1_method_16_code (5 : Nat) (Option.some Jvm.ClassFile.FieldType.int)) ∈ zT := zT_3 (i := 98) rfl rfl
theorem tw_3_99 : (Jvm.Cond.methodLink "SumNames" (144 : Nat) ({ cls := "SumNames", name := "isDay", desc := "(I)Z" } : Jvm.MethodName)) ∈ zT := zT_3 (i := 99) (by decide +kernel) rfl
theorem tw_3_100 : (Jvm.Cond.static ({ cls := "SumNames", name := "isDay", desc := "(I)Z" } : Jvm.MethodName)) ∈ zT := zT_3 (i := 100) (by decide +kernel) rfl
set_option maxRecDepth 100000 in
theorem tw_3_101 : (Jvm.Cond.code ({ cls := "SumNames", name := "isDay", desc := "(I)Z" } : Jvm.MethodName) prog_1_method_43_code (1 : Nat) (Option.some Jvm.ClassFile.FieldType.boolean)) ∈ zT := zT_3 (i := 101) rfl rfl
theorem tw_3_102 : (Jvm.Cond.methodLink "SumNames" (147 : Nat) ({ cls := "SumNames$NameRow", name := "gather", desc := "(LSumNames$World;IZ)V" } : Jvm.MethodName)) ∈ zT := zT_3 (i := 102) (by decide +kernel) rfl
theorem tw_3_103 : (Jvm.Cond.instanceMethod ({ cls := "SumNames$NameRow", name := "gather", desc := "(LSumNames$World;IZ)V" } : Jvm.MethodName)) ∈ zT := zT_3 (i := 103) (by decide +kernel) rfl
theorem tw_3_104 : (Jvm.Cond.selects "SumNames$NameRow" ({ cls := "SumNames$NameRow", name := "gather", desc := "(LSumNames$World;IZ)V" } : Jvm.MethodName) ({ cls := "SumNames$NameRow", name := "gather", desc := "(LSumNames$World;IZ)V" } : Jvm.MethodName)) ∈ zT := zT_3 (i := 104) (by decide +kernel) rfl
set_option maxRecDepth 100000 in
theorem tw_3_105 : (Jvm.Cond.code ({ cls := "SumNames$NameRow", name := "gather", desc := "(LSumNames$World;IZ)V" } : Jvm.MethodName) prog_2_method_2_code (4 : Nat) (Option.none : Option Jvm.ClassFile.FieldType)) ∈ zT := zT_3 (i := 105) rfl rfl
theorem tw_3_106 : (Jvm.Cond.methodLink "SumNames$NameRow" (39 : Nat) ({ cls := "SumNames$NameRow", name := "findParts", desc := "(LSumNames$World;)V" } : Jvm.MethodName)) ∈ zT := zT_3 (i := 106) (by decide +kernel) rfl
theorem tw_3_108 : (Jvm.Cond.instanceMethod ({ cls := "SumNames$NameRow", name := "findParts", desc := "(LSumNames$World;)V" } : Jvm.MethodName)) ∈ zT := zT_3 (i := 108) (by decide +kernel) rfl
set_option maxRecDepth 100000 in
theorem tw_3_109 : (Jvm.Cond.code ({ cls := "SumNames$NameRow", name := "findParts", desc := "(LSumNames$World;)V" } : Jvm.MethodName) prog_2_method_3_code (6 : Nat) (Option.none : Option Jvm.ClassFile.FieldType)) ∈ zT := zT_3 (i := 109) rfl rfl
theorem tw_3_110 : (Jvm.Cond.methodLink "SumNames$NameRow" (61 : Nat) ({ cls := "SumNames$World", name := "sumInNames", desc := "(J)I" } : Jvm.MethodName)) ∈ zT := zT_3 (i := 110) (by decide +kernel) rfl
theorem tw_3_111 : (Jvm.Cond.methodLink "SumNames$NameRow" (65 : Nat) ({ cls := "SumNames$NameRow", name := "shiftOf", desc := "(J)J" } : Jvm.MethodName)) ∈ zT := zT_3 (i := 111) (by decide +kernel) rfl
theorem tw_3_112 : (Jvm.Cond.static ({ cls := "SumNames$NameRow", name := "shiftOf", desc := "(J)J" } : Jvm.MethodName)) ∈ zT := zT_3 (i := 112) (by decide +kernel) rfl
set_option maxRecDepth 100000 in
theorem tw_3_113 : (Jvm.Cond.code ({ cls := "SumNames$NameRow", name := "shiftOf", desc := "(J)J" } : Jvm.MethodName) prog_2_method_4_code (5 : Nat) (Option.some Jvm.ClassFile.FieldType.long)) ∈ zT := zT_3 (i := 113) rfl rfl
theorem tw_3_114 : (Jvm.Cond.constantLong "SumNames$NameRow" (69 : Nat) (27 : Int64)) ∈ zT := zT_3 (i := 114) (by decide +kernel) rfl
theorem tw_3_115 : (Jvm.Cond.methodLink "SumNames$NameRow" (43 : Nat) ({ cls := "SumNames$NameRow", name := "join", desc := "(JII)V" } : Jvm.MethodName)) ∈ zT := zT_3 (i := 115) (by decide +kernel) rfl
theorem tw_3_117 : (Jvm.Cond.instanceMethod ({ cls := "SumNames$NameRow", name := "join", desc := "(JII)V" } : Jvm.MethodName)) ∈ zT := zT_3 (i := 117) (by decide +kernel) rfl
set_option maxRecDepth 100000 in
theorem tw_3_118 : (Jvm.Cond.code ({ cls := "SumNames$NameRow", name := "join", desc := "(JII)V" } : Jvm.MethodName) prog_2_method_5_code (9 : Nat) (Option.none : Option Jvm.ClassFile.FieldType)) ∈ zT := zT_3 (i := 118) rfl rfl
theorem tw_3_119 : (Jvm.Cond.methodLink "SumNames$NameRow" (71 : Nat) ({ cls := "SumNames$NameRow", name := "addIfWanted", desc := "(JI)V" } : Jvm.MethodName)) ∈ zT := zT_3 (i := 119) (by decide +kernel) rfl
theorem tw_3_121 : (Jvm.Cond.instanceMethod ({ cls := "SumNames$NameRow", name := "addIfWanted", desc := "(JI)V" } : Jvm.MethodName)) ∈ zT := zT_3 (i := 121) (by decide +kernel) rfl
set_option maxRecDepth 100000 in
theorem tw_3_122 : (Jvm.Cond.code ({ cls := "SumNames$NameRow", name := "addIfWanted", desc := "(JI)V" } : Jvm.MethodName) prog_2_method_6_code (5 : Nat) (Option.none : Option Jvm.ClassFile.FieldType)) ∈ zT := zT_3 (i := 122) rfl rfl
theorem tw_3_123 : (Jvm.Cond.methodLink "SumNames$NameRow" (47 : Nat) ({ cls := "SumNames$NameRow", name := "sort", desc := "()V" } : Jvm.MethodName)) ∈ zT := zT_3 (i := 123) (by decide +kernel) rfl
theorem tw_3_125 : (Jvm.Cond.instanceMethod ({ cls := "SumNames$NameRow", name := "sort", desc := "()V" } : Jvm.MethodName)) ∈ zT := zT_3 (i := 125) (by decide +kernel) rfl
set_option maxRecDepth 100000 in
theorem tw_3_126 : (Jvm.Cond.code ({ cls := "SumNames$NameRow", name := "sort", desc := "()V" } : Jvm.MethodName) prog_2_method_7_code (9 : Nat) (Option.none : Option Jvm.ClassFile.FieldType)) ∈ zT := zT_3 (i := 126) rfl rfl
theorem tw_3_127 : (Jvm.Cond.fieldLink "SumNames$NameRow" (75 : Nat) "SumNames$NameRow" "GAPS" "[I") ∈ zT := zT_3 (i := 127) (by decide +kernel) rfl
theorem tw_3_129 : (Jvm.Cond.methodLink "SumNames$NameRow" (50 : Nat) ({ cls := "SumNames$NameRow", name := "dropLike", desc := "()V" } : Jvm.MethodName)) ∈ zT := zT_3 (i := 129) (by decide +kernel) rfl
theorem tw_3_131 : (Jvm.Cond.instanceMethod ({ cls := "SumNames$NameRow", name := "dropLike", desc := "()V" } : Jvm.MethodName)) ∈ zT := zT_3 (i := 131) (by decide +kernel) rfl
set_option maxRecDepth 100000 in
theorem tw_3_132 : (Jvm.Cond.code ({ cls := "SumNames$NameRow", name := "dropLike", desc := "()V" } : Jvm.MethodName) prog_2_method_8_code (3 : Nat) (Option.none : Option Jvm.ClassFile.FieldType)) ∈ zT := zT_3 (i := 132) rfl rfl
theorem tw_3_133 : (Jvm.Cond.methodLink "SumNamesLaw" (77 : Nat) ({ cls := "SumNames", name := "which", desc := "(II)J" } : Jvm.MethodName)) ∈ zT := zT_3 (i := 133) (by decide +kernel) rfl
theorem tw_3_134 : (Jvm.Cond.instanceMethod ({ cls := "SumNames", name := "which", desc := "(II)J" } : Jvm.MethodName)) ∈ zT := zT_3 (i := 134) (by decide +kernel) rfl
theorem tw_3_135 : (Jvm.Cond.selects "SumNames" ({ cls := "SumNames", name := "which", desc := "(II)J" } : Jvm.MethodName) ({ cls := "SumNames", name := "which", desc := "(II)J" } : Jvm.MethodName)) ∈ zT := zT_3 (i := 135) (by decide +kernel) rfl
set_option maxRecDepth 100000 in
theorem tw_3_136 : (Jvm.Cond.code ({ cls := "SumNames", name := "which", desc := "(II)J" } : Jvm.MethodName) prog_1_method_17_code (3 : Nat) (Option.some Jvm.ClassFile.FieldType.long)) ∈ zT := zT_3 (i := 136) rfl rfl
theorem tw_3_137 : (Jvm.Cond.constantLong "SumNames" (157 : Nat) (-3 : Int64)) ∈ zT := zT_3 (i := 137) (by decide +kernel) rfl
theorem tw_3_138 : (Jvm.Cond.constantLong "SumNames" (159 : Nat) (-1 : Int64)) ∈ zT := zT_3 (i := 138) (by decide +kernel) rfl
theorem tw_3_139 : (Jvm.Cond.methodLink "SumNamesLaw" (82 : Nat) ({ cls := "SumNames", name := "free", desc := "(II)J" } : Jvm.MethodName)) ∈ zT := zT_3 (i := 139) (by decide +kernel) rfl
theorem tw_3_140 : (Jvm.Cond.instanceMethod ({ cls := "SumNames", name := "free", desc := "(II)J" } : Jvm.MethodName)) ∈ zT := zT_3 (i := 140) (by decide +kernel) rfl
theorem tw_3_141 : (Jvm.Cond.selects "SumNames" ({ cls := "SumNames", name := "free", desc := "(II)J" } : Jvm.MethodName) ({ cls := "SumNames", name := "free", desc := "(II)J" } : Jvm.MethodName)) ∈ zT := zT_3 (i := 141) (by decide +kernel) rfl
set_option maxRecDepth 100000 in
theorem tw_3_142 : (Jvm.Cond.code ({ cls := "SumNames", name := "free", desc := "(II)J" } : Jvm.MethodName) prog_1_method_18_code (3 : Nat) (Option.some Jvm.ClassFile.FieldType.long)) ∈ zT := zT_3 (i := 142) rfl rfl
theorem tw_3_143 : (Jvm.Cond.methodLink "SumNames" (161 : Nat) ({ cls := "SumNames$NameRow", name := "dropCalled", desc := "(LSumNames$World;I)V" } : Jvm.MethodName)) ∈ zT := zT_3 (i := 143) (by decide +kernel) rfl
theorem tw_3_144 : (Jvm.Cond.instanceMethod ({ cls := "SumNames$NameRow", name := "dropCalled", desc := "(LSumNames$World;I)V" } : Jvm.MethodName)) ∈ zT := zT_3 (i := 144) (by decide +kernel) rfl
theorem tw_3_145 : (Jvm.Cond.selects "SumNames$NameRow" ({ cls := "SumNames$NameRow", name := "dropCalled", desc := "(LSumNames$World;I)V" } : Jvm.MethodName) ({ cls := "SumNames$NameRow", name := "dropCalled", desc := "(LSumNames$World;I)V" } : Jvm.MethodName)) ∈ zT := zT_3 (i := 145) (by decide +kernel) rfl
set_option maxRecDepth 100000 in
theorem tw_3_146 : (Jvm.Cond.code ({ cls := "SumNames$NameRow", name := "dropCalled", desc := "(LSumNames$World;I)V" } : Jvm.MethodName) prog_2_method_9_code (5 : Nat) (Option.none : Option Jvm.ClassFile.FieldType)) ∈ zT := zT_3 (i := 146) rfl rfl
theorem tw_3_147 : (Jvm.Cond.methodLink "SumNames$NameRow" (78 : Nat) ({ cls := "SumNames$World", name := "leastCalled", desc := "(JI)I" } : Jvm.MethodName)) ∈ zT := zT_3 (i := 147) (by decide +kernel) rfl
theorem tw_3_148 : (Jvm.Cond.methodLink "SumNamesLaw" (86 : Nat) ({ cls := "SumNames", name := "hopes", desc := "(III)J" } : Jvm.MethodName)) ∈ zT := zT_3 (i := 148) (by decide +kernel) rfl
theorem tw_3_149 : (Jvm.Cond.instanceMethod ({ cls := "SumNames", name := "hopes", desc := "(III)J" } : Jvm.MethodName)) ∈ zT := zT_3 (i := 149) (by decide +kernel) rfl
theorem tw_3_150 : (Jvm.Cond.selects "SumNames" ({ cls := "SumNames", name := "hopes", desc := "(III)J" } : Jvm.MethodName) ({ cls := "SumNames", name := "hopes", desc := "(III)J" } : Jvm.MethodName)) ∈ zT := zT_3 (i := 150) (by decide +kernel) rfl
set_option maxRecDepth 100000 in
theorem tw_3_151 : (Jvm.Cond.code ({ cls := "SumNames", name := "hopes", desc := "(III)J" } : Jvm.MethodName) prog_1_method_19_code (10 : Nat) (Option.some Jvm.ClassFile.FieldType.long)) ∈ zT := zT_3 (i := 151) rfl rfl
theorem tw_3_152 : (Jvm.Cond.methodLink "SumNames" (165 : Nat) ({ cls := "SumNames", name := "isZeroOrOne", desc := "(I)Z" } : Jvm.MethodName)) ∈ zT := zT_3 (i := 152) (by decide +kernel) rfl
theorem tw_3_153 : (Jvm.Cond.static ({ cls := "SumNames", name := "isZeroOrOne", desc := "(I)Z" } : Jvm.MethodName)) ∈ zT := zT_3 (i := 153) (by decide +kernel) rfl
set_option maxRecDepth 100000 in
theorem tw_3_154 : (Jvm.Cond.code ({ cls := "SumNames", name := "isZeroOrOne", desc := "(I)Z" } : Jvm.MethodName) prog_1_method_45_code (1 : Nat) (Option.some Jvm.ClassFile.FieldType.boolean)) ∈ zT := zT_3 (i := 154) rfl rfl
theorem tw_3_155 : (Jvm.Cond.methodLink "SumNames" (168 : Nat) ({ cls := "SumNames$World", name := "nearChildOf", desc := "(II)I" } : Jvm.MethodName)) ∈ zT := zT_3 (i := 155) (by decide +kernel) rfl
theorem tw_3_156 : (Jvm.Cond.instanceMethod ({ cls := "SumNames$World", name := "nearChildOf", desc := "(II)I" } : Jvm.MethodName)) ∈ zT := zT_3 (i := 156) (by decide +kernel) rfl
theorem tw_3_157 : (Jvm.Cond.selects "SumNames$World" ({ cls := "SumNames$World", name := "nearChildOf", desc := "(II)I" } : Jvm.MethodName) ({ cls := "SumNames$World", name := "nearChildOf", desc := "(II)I" } : Jvm.MethodName)) ∈ zT := zT_3 (i := 157) (by decide +kernel) rfl
set_option maxRecDepth 100000 in
theorem tw_3_158 : (Jvm.Cond.code ({ cls := "SumNames$World", name := "nearChildOf", desc := "(II)I" } : Jvm.MethodName) prog_7_method_18_code (3 : Nat) (Option.some Jvm.ClassFile.FieldType.int)) ∈ zT := zT_3 (i := 158) rfl rfl
theorem tw_3_159 : (Jvm.Cond.methodLink "SumNames" (171 : Nat) ({ cls := "SumNames", name := "findRooms", desc := "(I)V" } : Jvm.MethodName)) ∈ zT := zT_3 (i := 159) (by decide +kernel) rfl
theorem tw_3_161 : (Jvm.Cond.instanceMethod ({ cls := "SumNames", name := "findRooms", desc := "(I)V" } : Jvm.MethodName)) ∈ zT := zT_3 (i := 161) (by decide +kernel) rfl
set_option maxRecDepth 100000 in
theorem tw_3_162 : (Jvm.Cond.code ({ cls := "SumNames", name := "findRooms", desc := "(I)V" } : Jvm.MethodName) prog_1_method_20_code (3 : Nat) (Option.none : Option Jvm.ClassFile.FieldType)) ∈ zT := zT_3 (i := 162) rfl rfl
theorem tw_3_163 : (Jvm.Cond.methodLink "SumNames" (175 : Nat) ({ cls := "SumNames", name := "waysWithNames", desc := "()J" } : Jvm.MethodName)) ∈ zT := zT_3 (i := 163) (by decide +kernel) rfl
theorem tw_3_165 : (Jvm.Cond.instanceMethod ({ cls := "SumNames", name := "waysWithNames", desc := "()J" } : Jvm.MethodName)) ∈ zT := zT_3 (i := 165) (by decide +kernel) rfl
set_option maxRecDepth 100000 in
theorem tw_3_166 : (Jvm.Cond.code ({ cls := "SumNames", name := "waysWithNames", desc := "()J" } : Jvm.MethodName) prog_1_method_21_code (4 : Nat) (Option.some Jvm.ClassFile.FieldType.long)) ∈ zT := zT_3 (i := 166) rfl rfl
theorem tw_3_167 : (Jvm.Cond.methodLink "SumNames" (191 : Nat) ({ cls := "SumNames", name := "allHaveNames", desc := "(I)Z" } : Jvm.MethodName)) ∈ zT := zT_3 (i := 167) (by decide +kernel) rfl
theorem tw_3_169 : (Jvm.Cond.instanceMethod ({ cls := "SumNames", name := "allHaveNames", desc := "(I)Z" } : Jvm.MethodName)) ∈ zT := zT_3 (i := 169) (by decide +kernel) rfl
set_option maxRecDepth 100000 in
theorem tw_3_170 : (Jvm.Cond.code ({ cls := "SumNames", name := "allHaveNames", desc := "(I)Z" } : Jvm.MethodName) prog_1_method_22_code (3 : Nat) (Option.some Jvm.ClassFile.FieldType.boolean)) ∈ zT := zT_3 (i := 170) rfl rfl
theorem tw_3_171 : (Jvm.Cond.methodLink "SumNames" (198 : Nat) ({ cls := "SumNames", name := "comingWith", desc := "(II)I" } : Jvm.MethodName)) ∈ zT := zT_3 (i := 171) (by decide +kernel) rfl
theorem tw_3_173 : (Jvm.Cond.instanceMethod ({ cls := "SumNames", name := "comingWith", desc := "(II)I" } : Jvm.MethodName)) ∈ zT := zT_3 (i := 173) (by decide +kernel) rfl
set_option maxRecDepth 100000 in
theorem tw_3_174 : (Jvm.Cond.code ({ cls := "SumNames", name := "comingWith", desc := "(II)I" } : Jvm.MethodName) prog_1_method_23_code (5 : Nat) (Option.some Jvm.ClassFile.FieldType.int)) ∈ zT := zT_3 (i := 174) rfl rfl
theorem tw_3_175 : (Jvm.Cond.methodLink "SumNames" (194 : Nat) ({ cls := "SumNames", name := "waysOfComing", desc := "(I)J" } : Jvm.MethodName)) ∈ zT := zT_3 (i := 175) (by decide +kernel) rfl
theorem tw_3_177 : (Jvm.Cond.instanceMethod ({ cls := "SumNames", name := "waysOfComing", desc := "(I)J" } : Jvm.MethodName)) ∈ zT := zT_3 (i := 177) (by decide +kernel) rfl
set_option maxRecDepth 100000 in
theorem tw_3_178 : (Jvm.Cond.code ({ cls := "SumNames", name := "waysOfComing", desc := "(I)J" } : Jvm.MethodName) prog_1_method_24_code (6 : Nat) (Option.some Jvm.ClassFile.FieldType.long)) ∈ zT := zT_3 (i := 178) rfl rfl
theorem tw_3_179 : (Jvm.Cond.constantLong "SumNames" (182 : Nat) (10 : Int64)) ∈ zT := zT_3 (i := 179) (by decide +kernel) rfl
theorem tw_3_180 : (Jvm.Cond.methodLink "SumNames" (184 : Nat) ({ cls := "SumNames", name := "commonDivisor", desc := "(JJ)J" } : Jvm.MethodName)) ∈ zT := zT_3 (i := 180) (by decide +kernel) rfl
theorem tw_3_181 : (Jvm.Cond.static ({ cls := "SumNames", name := "commonDivisor", desc := "(JJ)J" } : Jvm.MethodName)) ∈ zT := zT_3 (i := 181) (by decide +kernel) rfl
set_option maxRecDepth 100000 in
theorem tw_3_182 : (Jvm.Cond.code ({ cls := "SumNames", name := "commonDivisor", desc := "(JJ)J" } : Jvm.MethodName) prog_1_method_53_code (11 : Nat) (Option.some Jvm.ClassFile.FieldType.long)) ∈ zT := zT_3 (i := 182) rfl rfl
theorem tw_3_183 : (Jvm.Cond.methodLink "SumNames" (315 : Nat) ({ cls := "java/lang/Math", name := "max", desc := "(JJ)J" } : Jvm.MethodName)) ∈ zT := zT_3 (i := 183) (by decide +kernel) rfl
theorem tw_3_184 : (Jvm.Cond.static ({ cls := "java/lang/Math", name := "max", desc := "(JJ)J" } : Jvm.MethodName)) ∈ zT := zT_3 (i := 184) (by decide +kernel) rfl
set_option maxRecDepth 100000 in
theorem tw_3_185 : (Jvm.Cond.code ({ cls := "java/lang/Math", name := "max", desc := "(JJ)J" } : Jvm.MethodName) prog_11_method_66_code (4 : Nat) (Option.some Jvm.ClassFile.FieldType.long)) ∈ zT := zT_3 (i := 185) rfl rfl
theorem tw_3_186 : (Jvm.Cond.methodLink "SumNamesLaw" (91 : Nat) ({ cls := "SumNames", name := "without", desc := "(III)I" } : Jvm.MethodName)) ∈ zT := zT_3 (i := 186) (by decide +kernel) rfl
theorem tw_3_187 : (Jvm.Cond.instanceMethod ({ cls := "SumNames", name := "without", desc := "(III)I" } : Jvm.MethodName)) ∈ zT := zT_3 (i := 187) (by decide +kernel) rfl
theorem tw_3_188 : (Jvm.Cond.selects "SumNames" ({ cls := "SumNames", name := "without", desc := "(III)I" } : Jvm.MethodName) ({ cls := "SumNames", name := "without", desc := "(III)I" } : Jvm.MethodName)) ∈ zT := zT_3 (i := 188) (by decide +kernel) rfl
set_option maxRecDepth 100000 in
theorem tw_3_189 : (Jvm.Cond.code ({ cls := "SumNames", name := "without", desc := "(III)I" } : Jvm.MethodName) prog_1_method_25_code (4 : Nat) (Option.some Jvm.ClassFile.FieldType.int)) ∈ zT := zT_3 (i := 189) rfl rfl
theorem tw_3_190 : (Jvm.Cond.methodLink "SumNames" (204 : Nat) ({ cls := "SumNames", name := "areDays", desc := "(II)Z" } : Jvm.MethodName)) ∈ zT := zT_3 (i := 190) (by decide +kernel) rfl
theorem tw_3_191 : (Jvm.Cond.static ({ cls := "SumNames", name := "areDays", desc := "(II)Z" } : Jvm.MethodName)) ∈ zT := zT_3 (i := 191) (by decide +kernel) rfl
set_option maxRecDepth 100000 in
theorem tw_3_192 : (Jvm.Cond.code ({ cls := "SumNames", name := "areDays", desc := "(II)Z" } : Jvm.MethodName) prog_1_method_44_code (2 : Nat) (Option.some Jvm.ClassFile.FieldType.boolean)) ∈ zT := zT_3 (i := 192) rfl rfl
theorem tw_3_193 : (Jvm.Cond.methodLink "SumNames" (207 : Nat) ({ cls := "SumNames$Reach", name := "measure", desc := "(LSumNames$World;)V" } : Jvm.MethodName)) ∈ zT := zT_3 (i := 193) (by decide +kernel) rfl
theorem tw_3_194 : (Jvm.Cond.instanceMethod ({ cls := "SumNames$Reach", name := "measure", desc := "(LSumNames$World;)V" } : Jvm.MethodName)) ∈ zT := zT_3 (i := 194) (by decide +kernel) rfl
theorem tw_3_195 : (Jvm.Cond.selects "SumNames$Reach" ({ cls := "SumNames$Reach", name := "measure", desc := "(LSumNames$World;)V" } : Jvm.MethodName) ({ cls := "SumNames$Reach", name := "measure", desc := "(LSumNames$World;)V" } : Jvm.MethodName)) ∈ zT := zT_3 (i := 195) (by decide +kernel) rfl
set_option maxRecDepth 100000 in
theorem tw_3_196 : (Jvm.Cond.code ({ cls := "SumNames$Reach", name := "measure", desc := "(LSumNames$World;)V" } : Jvm.MethodName) prog_4_method_2_code (4 : Nat) (Option.none : Option Jvm.ClassFile.FieldType)) ∈ zT := zT_3 (i := 196) rfl rfl
theorem tw_3_197 : (Jvm.Cond.methodLink "SumNames$Reach" (29 : Nat) ({ cls := "SumNames$World", name := "sumInNames", desc := "(J)I" } : Jvm.MethodName)) ∈ zT := zT_3 (i := 197) (by decide +kernel) rfl
theorem tw_3_198 : (Jvm.Cond.methodLink "SumNames$Reach" (33 : Nat) ({ cls := "SumNames$Reach", name := "addPart", desc := "(I)V" } : Jvm.MethodName)) ∈ zT := zT_3 (i := 198) (by decide +kernel) rfl
theorem tw_3_200 : (Jvm.Cond.instanceMethod ({ cls := "SumNames$Reach", name := "addPart", desc := "(I)V" } : Jvm.MethodName)) ∈ zT := zT_3 (i := 200) (by decide +kernel) rfl
set_option maxRecDepth 100000 in
theorem tw_3_201 : (Jvm.Cond.code ({ cls := "SumNames$Reach", name := "addPart", desc := "(I)V" } : Jvm.MethodName) prog_4_method_3_code (3 : Nat) (Option.none : Option Jvm.ClassFile.FieldType)) ∈ zT := zT_3 (i := 201) rfl rfl
theorem tw_3_202 : (Jvm.Cond.methodLink "SumNames$Reach" (37 : Nat) ({ cls := "java/lang/Math", name := "min", desc := "(II)I" } : Jvm.MethodName)) ∈ zT := zT_3 (i := 202) (by decide +kernel) rfl
theorem tw_3_203 : (Jvm.Cond.static ({ cls := "java/lang/Math", name := "min", desc := "(II)I" } : Jvm.MethodName)) ∈ zT := zT_3 (i := 203) (by decide +kernel) rfl
set_option maxRecDepth 100000 in
theorem tw_3_204 : (Jvm.Cond.code ({ cls := "java/lang/Math", name := "min", desc := "(II)I" } : Jvm.MethodName) prog_11_method_69_code (2 : Nat) (Option.some Jvm.ClassFile.FieldType.int)) ∈ zT := zT_3 (i := 204) rfl rfl
theorem tw_3_205 : (Jvm.Cond.methodLink "SumNames" (210 : Nat) ({ cls := "SumNames$Reach", name := "daysWithout", desc := "(II)I" } : Jvm.MethodName)) ∈ zT := zT_3 (i := 205) (by decide +kernel) rfl
theorem tw_3_206 : (Jvm.Cond.instanceMethod ({ cls := "SumNames$Reach", name := "daysWithout", desc := "(II)I" } : Jvm.MethodName)) ∈ zT := zT_3 (i := 206) (by decide +kernel) rfl
theorem tw_3_207 : (Jvm.Cond.selects "SumNames$Reach" ({ cls := "SumNames$Reach", name := "daysWithout", desc := "(II)I" } : Jvm.MethodName) ({ cls := "SumNames$Reach", name := "daysWithout", desc := "(II)I" } : Jvm.MethodName)) ∈ zT := zT_3 (i := 207) (by decide +kernel) rfl
set_option maxRecDepth 100000 in
theorem tw_3_208 : (Jvm.Cond.code ({ cls := "SumNames$Reach", name := "daysWithout", desc := "(II)I" } : Jvm.MethodName) prog_4_method_4_code (5 : Nat) (Option.some Jvm.ClassFile.FieldType.int)) ∈ zT := zT_3 (i := 208) rfl rfl
theorem tw_3_209 : (Jvm.Cond.methodLink "SumNames" (213 : Nat) ({ cls := "SumNames$Reach", name := "firstWithout", desc := "(II)I" } : Jvm.MethodName)) ∈ zT := zT_3 (i := 209) (by decide +kernel) rfl
theorem tw_3_210 : (Jvm.Cond.instanceMethod ({ cls := "SumNames$Reach", name := "firstWithout", desc := "(II)I" } : Jvm.MethodName)) ∈ zT := zT_3 (i := 210) (by decide +kernel) rfl
theorem tw_3_211 : (Jvm.Cond.selects "SumNames$Reach" ({ cls := "SumNames$Reach", name := "firstWithout", desc := "(II)I" } : Jvm.MethodName) ({ cls := "SumNames$Reach", name := "firstWithout", desc := "(II)I" } : Jvm.MethodName)) ∈ zT := zT_3 (i := 211) (by decide +kernel) rfl
set_option maxRecDepth 100000 in
theorem tw_3_212 : (Jvm.Cond.code ({ cls := "SumNames$Reach", name := "firstWithout", desc := "(II)I" } : Jvm.MethodName) prog_4_method_5_code (4 : Nat) (Option.some Jvm.ClassFile.FieldType.int)) ∈ zT := zT_3 (i := 212) rfl rfl
theorem tw_3_213 : (Jvm.Cond.methodLink "SumNamesLaw" (96 : Nat) ({ cls := "SumNames", name := "mend", desc := "(II)J" } : Jvm.MethodName)) ∈ zT := zT_3 (i := 213) (by decide +kernel) rfl
theorem tw_3_214 : (Jvm.Cond.instanceMethod ({ cls := "SumNames", name := "mend", desc := "(II)J" } : Jvm.MethodName)) ∈ zT := zT_3 (i := 214) (by decide +kernel) rfl
theorem tw_3_215 : (Jvm.Cond.selects "SumNames" ({ cls := "SumNames", name := "mend", desc := "(II)J" } : Jvm.MethodName) ({ cls := "SumNames", name := "mend", desc := "(II)J" } : Jvm.MethodName)) ∈ zT := zT_3 (i := 215) (by decide +kernel) rfl
set_option maxRecDepth 100000 in
theorem tw_3_216 : (Jvm.Cond.code ({ cls := "SumNames", name := "mend", desc := "(II)J" } : Jvm.MethodName) prog_1_method_26_code (3 : Nat) (Option.some Jvm.ClassFile.FieldType.long)) ∈ zT := zT_3 (i := 216) rfl rfl
theorem tw_3_217 : (Jvm.Cond.constantLong "SumNames" (219 : Nat) (-4 : Int64)) ∈ zT := zT_3 (i := 217) (by decide +kernel) rfl
theorem tw_3_218 : (Jvm.Cond.methodLink "SumNames" (221 : Nat) ({ cls := "SumNames$Reach", name := "mendingSyllable", desc := "(LSumNames$World;II)J" } : Jvm.MethodName)) ∈ zT := zT_3 (i := 218) (by decide +kernel) rfl
theorem tw_3_219 : (Jvm.Cond.instanceMethod ({ cls := "SumNames$Reach", name := "mendingSyllable", desc := "(LSumNames$World;II)J" } : Jvm.MethodName)) ∈ zT := zT_3 (i := 219) (by decide +kernel) rfl
theorem tw_3_220 : (Jvm.Cond.selects "SumNames$Reach" ({ cls := "SumNames$Reach", name := "mendingSyllable", desc := "(LSumNames$World;II)J" } : Jvm.MethodName) ({ cls := "SumNames$Reach", name := "mendingSyllable", desc := "(LSumNames$World;II)J" } : Jvm.MethodName)) ∈ zT := zT_3 (i := 220) (by decide +kernel) rfl
set_option maxRecDepth 100000 in
theorem tw_3_221 : (Jvm.Cond.code ({ cls := "SumNames$Reach", name := "mendingSyllable", desc := "(LSumNames$World;II)J" } : Jvm.MethodName) prog_4_method_6_code (7 : Nat) (Option.some Jvm.ClassFile.FieldType.long)) ∈ zT := zT_3 (i := 221) rfl rfl
theorem tw_3_222 : (Jvm.Cond.constantLong "SumNames$Reach" (43 : Nat) (728 : Int64)) ∈ zT := zT_3 (i := 222) (by decide +kernel) rfl
theorem tw_3_223 : (Jvm.Cond.methodLink "SumNames$Reach" (45 : Nat) ({ cls := "SumNames$Reach", name := "mendsAll", desc := "(III)Z" } : Jvm.MethodName)) ∈ zT := zT_3 (i := 223) (by decide +kernel) rfl
theorem tw_3_225 : (Jvm.Cond.instanceMethod ({ cls := "SumNames$Reach", name := "mendsAll", desc := "(III)Z" } : Jvm.MethodName)) ∈ zT := zT_3 (i := 225) (by decide +kernel) rfl
set_option maxRecDepth 100000 in
theorem tw_3_226 : (Jvm.Cond.code ({ cls := "SumNames$Reach", name := "mendsAll", desc := "(III)Z" } : Jvm.MethodName) prog_4_method_7_code (5 : Nat) (Option.some Jvm.ClassFile.FieldType.boolean)) ∈ zT := zT_3 (i := 226) rfl rfl
theorem tw_3_227 : (Jvm.Cond.methodLink "SumNames$Reach" (51 : Nat) ({ cls := "SumNames$Reach", name := "hasNameWith", desc := "(II)Z" } : Jvm.MethodName)) ∈ zT := zT_3 (i := 227) (by decide +kernel) rfl
theorem tw_3_229 : (Jvm.Cond.instanceMethod ({ cls := "SumNames$Reach", name := "hasNameWith", desc := "(II)Z" } : Jvm.MethodName)) ∈ zT := zT_3 (i := 229) (by decide +kernel) rfl
set_option maxRecDepth 100000 in
theorem tw_3_230 : (Jvm.Cond.code ({ cls := "SumNames$Reach", name := "hasNameWith", desc := "(II)Z" } : Jvm.MethodName) prog_4_method_8_code (5 : Nat) (Option.some Jvm.ClassFile.FieldType.boolean)) ∈ zT := zT_3 (i := 230) rfl rfl
theorem tw_3_231 : (Jvm.Cond.constantLong "SumNames$Reach" (49 : Nat) (-1 : Int64)) ∈ zT := zT_3 (i := 231) (by decide +kernel) rfl
theorem tw_3_232 : (Jvm.Cond.methodLink "SumNamesLaw" (100 : Nat) ({ cls := "SumNames", name := "old", desc := "(II)I" } : Jvm.MethodName)) ∈ zT := zT_3 (i := 232) (by decide +kernel) rfl
theorem tw_3_233 : (Jvm.Cond.instanceMethod ({ cls := "SumNames", name := "old", desc := "(II)I" } : Jvm.MethodName)) ∈ zT := zT_3 (i := 233) (by decide +kernel) rfl
theorem tw_3_234 : (Jvm.Cond.selects "SumNames" ({ cls := "SumNames", name := "old", desc := "(II)I" } : Jvm.MethodName) ({ cls := "SumNames", name := "old", desc := "(II)I" } : Jvm.MethodName)) ∈ zT := zT_3 (i := 234) (by decide +kernel) rfl
set_option maxRecDepth 100000 in
theorem tw_3_235 : (Jvm.Cond.code ({ cls := "SumNames", name := "old", desc := "(II)I" } : Jvm.MethodName) prog_1_method_27_code (3 : Nat) (Option.some Jvm.ClassFile.FieldType.int)) ∈ zT := zT_3 (i := 235) rfl rfl
theorem tw_3_236 : (Jvm.Cond.methodLink "SumNames" (225 : Nat) ({ cls := "SumNames$OldNames", name := "solve", desc := "(LSumNames$World;I)Z" } : Jvm.MethodName)) ∈ zT := zT_3 (i := 236) (by decide +kernel) rfl
theorem tw_3_237 : (Jvm.Cond.instanceMethod ({ cls := "SumNames$OldNames", name := "solve", desc := "(LSumNames$World;I)Z" } : Jvm.MethodName)) ∈ zT := zT_3 (i := 237) (by decide +kernel) rfl
theorem tw_3_238 : (Jvm.Cond.selects "SumNames$OldNames" ({ cls := "SumNames$OldNames", name := "solve", desc := "(LSumNames$World;I)Z" } : Jvm.MethodName) ({ cls := "SumNames$OldNames", name := "solve", desc := "(LSumNames$World;I)Z" } : Jvm.MethodName)) ∈ zT := zT_3 (i := 238) (by decide +kernel) rfl
set_option maxRecDepth 100000 in
theorem tw_3_239 : (Jvm.Cond.code ({ cls := "SumNames$OldNames", name := "solve", desc := "(LSumNames$World;I)Z" } : Jvm.MethodName) prog_3_method_2_code (4 : Nat) (Option.some Jvm.ClassFile.FieldType.boolean)) ∈ zT := zT_3 (i := 239) rfl rfl
theorem tw_4_0 : (Jvm.Cond.methodLink "SumNames$OldNames" (45 : Nat) ({ cls := "SumNames$OldNames", name := "findLetters", desc := "(LSumNames$World;)Z" } : Jvm.MethodName)) ∈ zT := zT_4 (i := 0) (by decide +kernel) rfl
theorem tw_4_2 : (Jvm.Cond.instanceMethod ({ cls := "SumNames$OldNames", name := "findLetters", desc := "(LSumNames$World;)Z" } : Jvm.MethodName)) ∈ zT := zT_4 (i := 2) (by decide +kernel) rfl
set_option maxRecDepth 100000 in
theorem tw_4_3 : (Jvm.Cond.code ({ cls := "SumNames$OldNames", name := "findLetters", desc := "(LSumNames$World;)Z" } : Jvm.MethodName) prog_3_method_3_code (3 : Nat) (Option.some Jvm.ClassFile.FieldType.boolean)) ∈ zT := zT_4 (i := 3) rfl rfl
theorem tw_4_4 : (Jvm.Cond.methodLink "SumNames$OldNames" (69 : Nat) ({ cls := "SumNames$OldNames", name := "isInAny", desc := "(LSumNames$World;I)Z" } : Jvm.MethodName)) ∈ zT := zT_4 (i := 4) (by decide +kernel) rfl
theorem tw_4_5 : (Jvm.Cond.static ({ cls := "SumNames$OldNames", name := "isInAny", desc := "(LSumNames$World;I)Z" } : Jvm.MethodName)) ∈ zT := zT_4 (i := 5) (by decide +kernel) rfl
set_option maxRecDepth 100000 in
theorem tw_4_6 : (Jvm.Cond.code ({ cls := "SumNames$OldNames", name := "isInAny", desc := "(LSumNames$World;I)Z" } : Jvm.MethodName) prog_3_method_4_code (3 : Nat) (Option.some Jvm.ClassFile.FieldType.boolean)) ∈ zT := zT_4 (i := 6) rfl rfl
theorem tw_4_8 : (Jvm.Cond.static ({ cls := "SumNames", name := "timesIn", desc := "(JI)I" } : Jvm.MethodName)) ∈ zT := zT_4 (i := 8) (by decide +kernel) rfl
set_option maxRecDepth 100000 in
theorem tw_4_9 : (Jvm.Cond.code ({ cls := "SumNames", name := "timesIn", desc := "(JI)I" } : Jvm.MethodName) prog_1_method_51_code (7 : Nat) (Option.some Jvm.ClassFile.FieldType.int)) ∈ zT := zT_4 (i := 9) rfl rfl
theorem tw_4_10 : (Jvm.Cond.methodLink "SumNames" (312 : Nat) ({ cls := "SumNames", name := "lastLetter", desc := "(J)I" } : Jvm.MethodName)) ∈ zT := zT_4 (i := 10) (by decide +kernel) rfl
theorem tw_4_11 : (Jvm.Cond.methodLink "SumNames$OldNames" (61 : Nat) ({ cls := "SumNames$OldNames", name := "addWord", desc := "(JI)V" } : Jvm.MethodName)) ∈ zT := zT_4 (i := 11) (by decide +kernel) rfl
theorem tw_4_13 : (Jvm.Cond.instanceMethod ({ cls := "SumNames$OldNames", name := "addWord", desc := "(JI)V" } : Jvm.MethodName)) ∈ zT := zT_4 (i := 13) (by decide +kernel) rfl
set_option maxRecDepth 100000 in
theorem tw_4_14 : (Jvm.Cond.code ({ cls := "SumNames$OldNames", name := "addWord", desc := "(JI)V" } : Jvm.MethodName) prog_3_method_5_code (6 : Nat) (Option.none : Option Jvm.ClassFile.FieldType)) ∈ zT := zT_4 (i := 14) rfl rfl
theorem tw_4_15 : (Jvm.Cond.methodLink "SumNames$OldNames" (65 : Nat) ({ cls := "SumNames$OldNames", name := "give", desc := "(I)V" } : Jvm.MethodName)) ∈ zT := zT_4 (i := 15) (by decide +kernel) rfl
theorem tw_4_17 : (Jvm.Cond.instanceMethod ({ cls := "SumNames$OldNames", name := "give", desc := "(I)V" } : Jvm.MethodName)) ∈ zT := zT_4 (i := 17) (by decide +kernel) rfl
set_option maxRecDepth 100000 in
theorem tw_4_18 : (Jvm.Cond.code ({ cls := "SumNames$OldNames", name := "give", desc := "(I)V" } : Jvm.MethodName) prog_3_method_6_code (4 : Nat) (Option.none : Option Jvm.ClassFile.FieldType)) ∈ zT := zT_4 (i := 18) rfl rfl
theorem tw_4_19 : (Jvm.Cond.methodLink "SumNames$OldNames" (77 : Nat) ({ cls := "SumNames$OldNames", name := "addWay", desc := "()V" } : Jvm.MethodName)) ∈ zT := zT_4 (i := 19) (by decide +kernel) rfl
theorem tw_4_21 : (Jvm.Cond.instanceMethod ({ cls := "SumNames$OldNames", name := "addWay", desc := "()V" } : Jvm.MethodName)) ∈ zT := zT_4 (i := 21) (by decide +kernel) rfl
set_option maxRecDepth 100000 in
theorem tw_4_22 : (Jvm.Cond.code ({ cls := "SumNames$OldNames", name := "addWay", desc := "()V" } : Jvm.MethodName) prog_3_method_7_code (1 : Nat) (Option.none : Option Jvm.ClassFile.FieldType)) ∈ zT := zT_4 (i := 22) rfl rfl
theorem tw_4_23 : (Jvm.Cond.methodLink "SumNames$OldNames" (91 : Nat) ({ cls := "java/lang/System", name := "arraycopy", desc := "(Ljava/lang/Object;ILjava/lang/Object;II)V" } : Jvm.MethodName)) ∈ zT := zT_4 (i := 23) (by decide +kernel) rfl
theorem tw_4_24 : (Jvm.Cond.methodLink "SumNames$OldNames" (80 : Nat) ({ cls := "SumNames$OldNames", name := "greatestFor", desc := "(I)I" } : Jvm.MethodName)) ∈ zT := zT_4 (i := 24) (by decide +kernel) rfl
theorem tw_4_26 : (Jvm.Cond.instanceMethod ({ cls := "SumNames$OldNames", name := "greatestFor", desc := "(I)I" } : Jvm.MethodName)) ∈ zT := zT_4 (i := 26) (by decide +kernel) rfl
set_option maxRecDepth 100000 in
theorem tw_4_27 : (Jvm.Cond.code ({ cls := "SumNames$OldNames", name := "greatestFor", desc := "(I)I" } : Jvm.MethodName) prog_3_method_9_code (4 : Nat) (Option.some Jvm.ClassFile.FieldType.int)) ∈ zT := zT_4 (i := 27) rfl rfl
theorem tw_4_28 : (Jvm.Cond.methodLink "SumNames$OldNames" (97 : Nat) ({ cls := "java/lang/Math", name := "floorDiv", desc := "(II)I" } : Jvm.MethodName)) ∈ zT := zT_4 (i := 28) (by decide +kernel) rfl
theorem tw_4_29 : (Jvm.Cond.static ({ cls := "java/lang/Math", name := "floorDiv", desc := "(II)I" } : Jvm.MethodName)) ∈ zT := zT_4 (i := 29) (by decide +kernel) rfl
set_option maxRecDepth 100000 in
theorem tw_4_30 : (Jvm.Cond.code ({ cls := "java/lang/Math", name := "floorDiv", desc := "(II)I" } : Jvm.MethodName) prog_11_method_47_code (3 : Nat) (Option.some Jvm.ClassFile.FieldType.int)) ∈ zT := zT_4 (i := 30) rfl rfl
theorem tw_4_31 : (Jvm.Cond.methodLink "SumNames$OldNames" (106 : Nat) ({ cls := "java/lang/Math", name := "min", desc := "(II)I" } : Jvm.MethodName)) ∈ zT := zT_4 (i := 31) (by decide +kernel) rfl
theorem tw_4_32 : (Jvm.Cond.methodLink "SumNames$OldNames" (84 : Nat) ({ cls := "SumNames$OldNames", name := "leastFor", desc := "(I)I" } : Jvm.MethodName)) ∈ zT := zT_4 (i := 32) (by decide +kernel) rfl
theorem tw_4_34 : (Jvm.Cond.instanceMethod ({ cls := "SumNames$OldNames", name := "leastFor", desc := "(I)I" } : Jvm.MethodName)) ∈ zT := zT_4 (i := 34) (by decide +kernel) rfl
set_option maxRecDepth 100000 in
theorem tw_4_35 : (Jvm.Cond.code ({ cls := "SumNames$OldNames", name := "leastFor", desc := "(I)I" } : Jvm.MethodName) prog_3_method_8_code (5 : Nat) (Option.some Jvm.ClassFile.FieldType.int)) ∈ zT := zT_4 (i := 35) rfl rfl
theorem tw_4_36 : (Jvm.Cond.methodLink "SumNames$OldNames" (103 : Nat) ({ cls := "java/lang/Math", name := "max", desc := "(II)I" } : Jvm.MethodName)) ∈ zT := zT_4 (i := 36) (by decide +kernel) rfl
theorem tw_4_37 : (Jvm.Cond.static ({ cls := "java/lang/Math", name := "max", desc := "(II)I" } : Jvm.MethodName)) ∈ zT := zT_4 (i := 37) (by decide +kernel) rfl
set_option maxRecDepth 100000 in
theorem tw_4_38 : (Jvm.Cond.code ({ cls := "java/lang/Math", name := "max", desc := "(II)I" } : Jvm.MethodName) prog_11_method_65_code (2 : Nat) (Option.some Jvm.ClassFile.FieldType.int)) ∈ zT := zT_4 (i := 38) rfl rfl
theorem tw_4_39 : (Jvm.Cond.methodLink "SumNames$OldNames" (87 : Nat) ({ cls := "SumNames$OldNames", name := "take", desc := "(II)V" } : Jvm.MethodName)) ∈ zT := zT_4 (i := 39) (by decide +kernel) rfl
theorem tw_4_41 : (Jvm.Cond.instanceMethod ({ cls := "SumNames$OldNames", name := "take", desc := "(II)V" } : Jvm.MethodName)) ∈ zT := zT_4 (i := 41) (by decide +kernel) rfl
set_option maxRecDepth 100000 in
theorem tw_4_42 : (Jvm.Cond.code ({ cls := "SumNames$OldNames", name := "take", desc := "(II)V" } : Jvm.MethodName) prog_3_method_10_code (4 : Nat) (Option.none : Option Jvm.ClassFile.FieldType)) ∈ zT := zT_4 (i := 42) rfl rfl
theorem tw_4_43 : (Jvm.Cond.methodLink "SumNames" (232 : Nat) ({ cls := "SumNames$OldNames", name := "firstNumberOf", desc := "(I)I" } : Jvm.MethodName)) ∈ zT := zT_4 (i := 43) (by decide +kernel) rfl
theorem tw_4_44 : (Jvm.Cond.instanceMethod ({ cls := "SumNames$OldNames", name := "firstNumberOf", desc := "(I)I" } : Jvm.MethodName)) ∈ zT := zT_4 (i := 44) (by decide +kernel) rfl
theorem tw_4_45 : (Jvm.Cond.selects "SumNames$OldNames" ({ cls := "SumNames$OldNames", name := "firstNumberOf", desc := "(I)I" } : Jvm.MethodName) ({ cls := "SumNames$OldNames", name := "firstNumberOf", desc := "(I)I" } : Jvm.MethodName)) ∈ zT := zT_4 (i := 45) (by decide +kernel) rfl
set_option maxRecDepth 100000 in
theorem tw_4_46 : (Jvm.Cond.code ({ cls := "SumNames$OldNames", name := "firstNumberOf", desc := "(I)I" } : Jvm.MethodName) prog_3_method_11_code (3 : Nat) (Option.some Jvm.ClassFile.FieldType.int)) ∈ zT := zT_4 (i := 46) rfl rfl
theorem tw_4_47 : (Jvm.Cond.methodLink "SumNamesLaw" (104 : Nat) ({ cls := "SumNames", name := "reform", desc := "(II)I" } : Jvm.MethodName)) ∈ zT := zT_4 (i := 47) (by decide +kernel) rfl
theorem tw_4_48 : (Jvm.Cond.instanceMethod ({ cls := "SumNames", name := "reform", desc := "(II)I" } : Jvm.MethodName)) ∈ zT := zT_4 (i := 48) (by decide +kernel) rfl
theorem tw_4_49 : (Jvm.Cond.selects "SumNames" ({ cls := "SumNames", name := "reform", desc := "(II)I" } : Jvm.MethodName) ({ cls := "SumNames", name := "reform", desc := "(II)I" } : Jvm.MethodName)) ∈ zT := zT_4 (i := 49) (by decide +kernel) rfl
set_option maxRecDepth 100000 in
theorem tw_4_50 : (Jvm.Cond.code ({ cls := "SumNames", name := "reform", desc := "(II)I" } : Jvm.MethodName) prog_1_method_28_code (4 : Nat) (Option.some Jvm.ClassFile.FieldType.int)) ∈ zT := zT_4 (i := 50) rfl rfl
theorem tw_4_51 : (Jvm.Cond.methodLink "SumNames" (235 : Nat) ({ cls := "SumNames", name := "bestReformedLetter", desc := "(I)I" } : Jvm.MethodName)) ∈ zT := zT_4 (i := 51) (by decide +kernel) rfl
theorem tw_4_53 : (Jvm.Cond.instanceMethod ({ cls := "SumNames", name := "bestReformedLetter", desc := "(I)I" } : Jvm.MethodName)) ∈ zT := zT_4 (i := 53) (by decide +kernel) rfl
set_option maxRecDepth 100000 in
theorem tw_4_54 : (Jvm.Cond.code ({ cls := "SumNames", name := "bestReformedLetter", desc := "(I)I" } : Jvm.MethodName) prog_1_method_29_code (5 : Nat) (Option.some Jvm.ClassFile.FieldType.int)) ∈ zT := zT_4 (i := 54) rfl rfl
theorem tw_4_55 : (Jvm.Cond.methodLink "SumNames" (238 : Nat) ({ cls := "SumNames", name := "reformedNumber", desc := "(II)I" } : Jvm.MethodName)) ∈ zT := zT_4 (i := 55) (by decide +kernel) rfl
theorem tw_4_57 : (Jvm.Cond.instanceMethod ({ cls := "SumNames", name := "reformedNumber", desc := "(II)I" } : Jvm.MethodName)) ∈ zT := zT_4 (i := 57) (by decide +kernel) rfl
set_option maxRecDepth 100000 in
theorem tw_4_58 : (Jvm.Cond.code ({ cls := "SumNames", name := "reformedNumber", desc := "(II)I" } : Jvm.MethodName) prog_1_method_30_code (7 : Nat) (Option.some Jvm.ClassFile.FieldType.int)) ∈ zT := zT_4 (i := 58) rfl rfl
theorem tw_4_59 : (Jvm.Cond.methodLink "SumNames" (244 : Nat) ({ cls := "SumNames", name := "timesIn", desc := "(JI)I" } : Jvm.MethodName)) ∈ zT := zT_4 (i := 59) (by decide +kernel) rfl
theorem tw_4_60 : (Jvm.Cond.methodLink "SumNames" (241 : Nat) ({ cls := "SumNames", name := "calledAnew", desc := "(II)I" } : Jvm.MethodName)) ∈ zT := zT_4 (i := 60) (by decide +kernel) rfl
theorem tw_4_62 : (Jvm.Cond.instanceMethod ({ cls := "SumNames", name := "calledAnew", desc := "(II)I" } : Jvm.MethodName)) ∈ zT := zT_4 (i := 62) (by decide +kernel) rfl
set_option maxRecDepth 100000 in
theorem tw_4_63 : (Jvm.Cond.code ({ cls := "SumNames", name := "calledAnew", desc := "(II)I" } : Jvm.MethodName) prog_1_method_31_code (5 : Nat) (Option.some Jvm.ClassFile.FieldType.int)) ∈ zT := zT_4 (i := 63) rfl rfl
theorem tw_4_64 : (Jvm.Cond.methodLink "SumNames" (250 : Nat) ({ cls := "SumNames$World", name := "addsUp", desc := "(I)Z" } : Jvm.MethodName)) ∈ zT := zT_4 (i := 64) (by decide +kernel) rfl
theorem tw_4_65 : (Jvm.Cond.methodLink "SumNamesLaw" (108 : Nat) ({ cls := "SumNames", name := "nicknames", desc := "(II)J" } : Jvm.MethodName)) ∈ zT := zT_4 (i := 65) (by decide +kernel) rfl
theorem tw_4_66 : (Jvm.Cond.instanceMethod ({ cls := "SumNames", name := "nicknames", desc := "(II)J" } : Jvm.MethodName)) ∈ zT := zT_4 (i := 66) (by decide +kernel) rfl
theorem tw_4_67 : (Jvm.Cond.selects "SumNames" ({ cls := "SumNames", name := "nicknames", desc := "(II)J" } : Jvm.MethodName) ({ cls := "SumNames", name := "nicknames", desc := "(II)J" } : Jvm.MethodName)) ∈ zT := zT_4 (i := 67) (by decide +kernel) rfl
set_option maxRecDepth 100000 in
theorem tw_4_68 : (Jvm.Cond.code ({ cls := "SumNames", name := "nicknames", desc := "(II)J" } : Jvm.MethodName) prog_1_method_32_code (3 : Nat) (Option.some Jvm.ClassFile.FieldType.long)) ∈ zT := zT_4 (i := 68) rfl rfl
theorem tw_4_69 : (Jvm.Cond.methodLink "SumNames" (253 : Nat) ({ cls := "SumNames$NameRow", name := "dropNoNicknames", desc := "(J)V" } : Jvm.MethodName)) ∈ zT := zT_4 (i := 69) (by decide +kernel) rfl
theorem tw_4_70 : (Jvm.Cond.instanceMethod ({ cls := "SumNames$NameRow", name := "dropNoNicknames", desc := "(J)V" } : Jvm.MethodName)) ∈ zT := zT_4 (i := 70) (by decide +kernel) rfl
theorem tw_4_71 : (Jvm.Cond.selects "SumNames$NameRow" ({ cls := "SumNames$NameRow", name := "dropNoNicknames", desc := "(J)V" } : Jvm.MethodName) ({ cls := "SumNames$NameRow", name := "dropNoNicknames", desc := "(J)V" } : Jvm.MethodName)) ∈ zT := zT_4 (i := 71) (by decide +kernel) rfl
set_option maxRecDepth 100000 in
theorem tw_4_72 : (Jvm.Cond.code ({ cls := "SumNames$NameRow", name := "dropNoNicknames", desc := "(J)V" } : Jvm.MethodName) prog_2_method_10_code (5 : Nat) (Option.none : Option Jvm.ClassFile.FieldType)) ∈ zT := zT_4 (i := 72) rfl rfl
theorem tw_4_74 : (Jvm.Cond.static ({ cls := "SumNames", name := "isLeftOf", desc := "(JJ)Z" } : Jvm.MethodName)) ∈ zT := zT_4 (i := 74) (by decide +kernel) rfl
set_option maxRecDepth 100000 in
theorem tw_4_75 : (Jvm.Cond.code ({ cls := "SumNames", name := "isLeftOf", desc := "(JJ)Z" } : Jvm.MethodName) prog_1_method_52_code (9 : Nat) (Option.some Jvm.ClassFile.FieldType.boolean)) ∈ zT := zT_4 (i := 75) rfl rfl
theorem tw_4_76 : (Jvm.Cond.methodLink "SumNamesLaw" (112 : Nat) ({ cls := "SumNames", name := "page", desc := "(III)I" } : Jvm.MethodName)) ∈ zT := zT_4 (i := 76) (by decide +kernel) rfl
theorem tw_4_77 : (Jvm.Cond.instanceMethod ({ cls := "SumNames", name := "page", desc := "(III)I" } : Jvm.MethodName)) ∈ zT := zT_4 (i := 77) (by decide +kernel) rfl
theorem tw_4_78 : (Jvm.Cond.selects "SumNames" ({ cls := "SumNames", name := "page", desc := "(III)I" } : Jvm.MethodName) ({ cls := "SumNames", name := "page", desc := "(III)I" } : Jvm.MethodName)) ∈ zT := zT_4 (i := 78) (by decide +kernel) rfl
set_option maxRecDepth 100000 in
theorem tw_4_79 : (Jvm.Cond.code ({ cls := "SumNames", name := "page", desc := "(III)I" } : Jvm.MethodName) prog_1_method_33_code (8 : Nat) (Option.some Jvm.ClassFile.FieldType.int)) ∈ zT := zT_4 (i := 79) rfl rfl
theorem tw_4_80 : (Jvm.Cond.methodLink "SumNames" (257 : Nat) ({ cls := "SumNames$World", name := "sumOfAll", desc := "(I)I" } : Jvm.MethodName)) ∈ zT := zT_4 (i := 80) (by decide +kernel) rfl
theorem tw_4_81 : (Jvm.Cond.instanceMethod ({ cls := "SumNames$World", name := "sumOfAll", desc := "(I)I" } : Jvm.MethodName)) ∈ zT := zT_4 (i := 81) (by decide +kernel) rfl
theorem tw_4_82 : (Jvm.Cond.selects "SumNames$World" ({ cls := "SumNames$World", name := "sumOfAll", desc := "(I)I" } : Jvm.MethodName) ({ cls := "SumNames$World", name := "sumOfAll", desc := "(I)I" } : Jvm.MethodName)) ∈ zT := zT_4 (i := 82) (by decide +kernel) rfl
set_option maxRecDepth 100000 in
theorem tw_4_83 : (Jvm.Cond.code ({ cls := "SumNames$World", name := "sumOfAll", desc := "(I)I" } : Jvm.MethodName) prog_7_method_22_code (4 : Nat) (Option.some Jvm.ClassFile.FieldType.int)) ∈ zT := zT_4 (i := 83) rfl rfl
theorem tw_4_84 : (Jvm.Cond.methodLink "SumNames" (260 : Nat) ({ cls := "SumNames$World", name := "changesBy", desc := "(JI)I" } : Jvm.MethodName)) ∈ zT := zT_4 (i := 84) (by decide +kernel) rfl
theorem tw_4_85 : (Jvm.Cond.instanceMethod ({ cls := "SumNames$World", name := "changesBy", desc := "(JI)I" } : Jvm.MethodName)) ∈ zT := zT_4 (i := 85) (by decide +kernel) rfl
theorem tw_4_86 : (Jvm.Cond.selects "SumNames$World" ({ cls := "SumNames$World", name := "changesBy", desc := "(JI)I" } : Jvm.MethodName) ({ cls := "SumNames$World", name := "changesBy", desc := "(JI)I" } : Jvm.MethodName)) ∈ zT := zT_4 (i := 86) (by decide +kernel) rfl
set_option maxRecDepth 100000 in
theorem tw_4_87 : (Jvm.Cond.code ({ cls := "SumNames$World", name := "changesBy", desc := "(JI)I" } : Jvm.MethodName) prog_7_method_23_code (9 : Nat) (Option.some Jvm.ClassFile.FieldType.int)) ∈ zT := zT_4 (i := 87) rfl rfl
theorem tw_4_88 : (Jvm.Cond.methodLink "SumNames$World" (108 : Nat) ({ cls := "SumNames$World", name := "othersOfNumber", desc := "(II)I" } : Jvm.MethodName)) ∈ zT := zT_4 (i := 88) (by decide +kernel) rfl
theorem tw_4_90 : (Jvm.Cond.instanceMethod ({ cls := "SumNames$World", name := "othersOfNumber", desc := "(II)I" } : Jvm.MethodName)) ∈ zT := zT_4 (i := 90) (by decide +kernel) rfl
set_option maxRecDepth 100000 in
theorem tw_4_91 : (Jvm.Cond.code ({ cls := "SumNames$World", name := "othersOfNumber", desc := "(II)I" } : Jvm.MethodName) prog_7_method_24_code (5 : Nat) (Option.some Jvm.ClassFile.FieldType.int)) ∈ zT := zT_4 (i := 91) rfl rfl
theorem tw_4_92 : (Jvm.Cond.methodLink "SumNamesLaw" (116 : Nat) ({ cls := "SumNames", name := "sheet", desc := "(III)I" } : Jvm.MethodName)) ∈ zT := zT_4 (i := 92) (by decide +kernel) rfl
theorem tw_4_93 : (Jvm.Cond.instanceMethod ({ cls := "SumNames", name := "sheet", desc := "(III)I" } : Jvm.MethodName)) ∈ zT := zT_4 (i := 93) (by decide +kernel) rfl
theorem tw_4_94 : (Jvm.Cond.selects "SumNames" ({ cls := "SumNames", name := "sheet", desc := "(III)I" } : Jvm.MethodName) ({ cls := "SumNames", name := "sheet", desc := "(III)I" } : Jvm.MethodName)) ∈ zT := zT_4 (i := 94) (by decide +kernel) rfl
set_option maxRecDepth 100000 in
theorem tw_4_95 : (Jvm.Cond.code ({ cls := "SumNames", name := "sheet", desc := "(III)I" } : Jvm.MethodName) prog_1_method_34_code (4 : Nat) (Option.some Jvm.ClassFile.FieldType.int)) ∈ zT := zT_4 (i := 95) rfl rfl
theorem tw_4_96 : (Jvm.Cond.methodLink "SumNames" (263 : Nat) ({ cls := "SumNames", name := "isSheet", desc := "(I)Z" } : Jvm.MethodName)) ∈ zT := zT_4 (i := 96) (by decide +kernel) rfl
theorem tw_4_97 : (Jvm.Cond.static ({ cls := "SumNames", name := "isSheet", desc := "(I)Z" } : Jvm.MethodName)) ∈ zT := zT_4 (i := 97) (by decide +kernel) rfl
set_option maxRecDepth 100000 in
theorem tw_4_98 : (Jvm.Cond.code ({ cls := "SumNames", name := "isSheet", desc := "(I)Z" } : Jvm.MethodName) prog_1_method_46_code (1 : Nat) (Option.some Jvm.ClassFile.FieldType.boolean)) ∈ zT := zT_4 (i := 98) rfl rfl
theorem tw_4_99 : (Jvm.Cond.methodLink "SumNames" (266 : Nat) ({ cls := "SumNames", name := "isLane", desc := "(I)Z" } : Jvm.MethodName)) ∈ zT := zT_4 (i := 99) (by decide +kernel) rfl
theorem tw_4_100 : (Jvm.Cond.static ({ cls := "SumNames", name := "isLane", desc := "(I)Z" } : Jvm.MethodName)) ∈ zT := zT_4 (i := 100) (by decide +kernel) rfl
set_option maxRecDepth 100000 in
theorem tw_4_101 : (Jvm.Cond.code ({ cls := "SumNames", name := "isLane", desc := "(I)Z" } : Jvm.MethodName) prog_1_method_47_code (1 : Nat) (Option.some Jvm.ClassFile.FieldType.boolean)) ∈ zT := zT_4 (i := 101) rfl rfl
theorem tw_4_102 : (Jvm.Cond.methodLink "SumNames" (269 : Nat) ({ cls := "SumNames$Sheet", name := "begin", desc := "(II)V" } : Jvm.MethodName)) ∈ zT := zT_4 (i := 102) (by decide +kernel) rfl
theorem tw_4_103 : (Jvm.Cond.instanceMethod ({ cls := "SumNames$Sheet", name := "begin", desc := "(II)V" } : Jvm.MethodName)) ∈ zT := zT_4 (i := 103) (by decide +kernel) rfl
theorem tw_4_104 : (Jvm.Cond.selects "SumNames$Sheet" ({ cls := "SumNames$Sheet", name := "begin", desc := "(II)V" } : Jvm.MethodName) ({ cls := "SumNames$Sheet", name := "begin", desc := "(II)V" } : Jvm.MethodName)) ∈ zT := zT_4 (i := 104) (by decide +kernel) rfl
set_option maxRecDepth 100000 in
theorem tw_4_105 : (Jvm.Cond.code ({ cls := "SumNames$Sheet", name := "begin", desc := "(II)V" } : Jvm.MethodName) prog_6_method_3_code (4 : Nat) (Option.none : Option Jvm.ClassFile.FieldType)) ∈ zT := zT_4 (i := 105) rfl rfl
theorem tw_4_106 : (Jvm.Cond.methodLink "SumNamesLaw" (120 : Nat) ({ cls := "SumNames", name := "tear", desc := "(I)I" } : Jvm.MethodName)) ∈ zT := zT_4 (i := 106) (by decide +kernel) rfl
theorem tw_4_107 : (Jvm.Cond.instanceMethod ({ cls := "SumNames", name := "tear", desc := "(I)I" } : Jvm.MethodName)) ∈ zT := zT_4 (i := 107) (by decide +kernel) rfl
theorem tw_4_108 : (Jvm.Cond.selects "SumNames" ({ cls := "SumNames", name := "tear", desc := "(I)I" } : Jvm.MethodName) ({ cls := "SumNames", name := "tear", desc := "(I)I" } : Jvm.MethodName)) ∈ zT := zT_4 (i := 108) (by decide +kernel) rfl
set_option maxRecDepth 100000 in
theorem tw_4_109 : (Jvm.Cond.code ({ cls := "SumNames", name := "tear", desc := "(I)I" } : Jvm.MethodName) prog_1_method_35_code (2 : Nat) (Option.some Jvm.ClassFile.FieldType.int)) ∈ zT := zT_4 (i := 109) rfl rfl
theorem tw_4_110 : (Jvm.Cond.methodLink "SumNamesLaw" (124 : Nat) ({ cls := "SumNames", name := "lay", desc := "(III)I" } : Jvm.MethodName)) ∈ zT := zT_4 (i := 110) (by decide +kernel) rfl
theorem tw_4_111 : (Jvm.Cond.instanceMethod ({ cls := "SumNames", name := "lay", desc := "(III)I" } : Jvm.MethodName)) ∈ zT := zT_4 (i := 111) (by decide +kernel) rfl
theorem tw_4_112 : (Jvm.Cond.selects "SumNames" ({ cls := "SumNames", name := "lay", desc := "(III)I" } : Jvm.MethodName) ({ cls := "SumNames", name := "lay", desc := "(III)I" } : Jvm.MethodName)) ∈ zT := zT_4 (i := 112) (by decide +kernel) rfl
set_option maxRecDepth 100000 in
theorem tw_4_113 : (Jvm.Cond.code ({ cls := "SumNames", name := "lay", desc := "(III)I" } : Jvm.MethodName) prog_1_method_36_code (4 : Nat) (Option.some Jvm.ClassFile.FieldType.int)) ∈ zT := zT_4 (i := 113) rfl rfl
theorem tw_4_114 : (Jvm.Cond.methodLink "SumNames" (274 : Nat) ({ cls := "SumNames$Sheet", name := "isMissing", desc := "()Z" } : Jvm.MethodName)) ∈ zT := zT_4 (i := 114) (by decide +kernel) rfl
theorem tw_4_115 : (Jvm.Cond.instanceMethod ({ cls := "SumNames$Sheet", name := "isMissing", desc := "()Z" } : Jvm.MethodName)) ∈ zT := zT_4 (i := 115) (by decide +kernel) rfl
theorem tw_4_116 : (Jvm.Cond.selects "SumNames$Sheet" ({ cls := "SumNames$Sheet", name := "isMissing", desc := "()Z" } : Jvm.MethodName) ({ cls := "SumNames$Sheet", name := "isMissing", desc := "()Z" } : Jvm.MethodName)) ∈ zT := zT_4 (i := 116) (by decide +kernel) rfl
set_option maxRecDepth 100000 in
theorem tw_4_117 : (Jvm.Cond.code ({ cls := "SumNames$Sheet", name := "isMissing", desc := "()Z" } : Jvm.MethodName) prog_6_method_2_code (1 : Nat) (Option.some Jvm.ClassFile.FieldType.boolean)) ∈ zT := zT_4 (i := 117) rfl rfl
theorem tw_4_118 : (Jvm.Cond.methodLink "SumNames" (278 : Nat) ({ cls := "SumNames$Sheet", name := "hasPlaces", desc := "(II)Z" } : Jvm.MethodName)) ∈ zT := zT_4 (i := 118) (by decide +kernel) rfl
theorem tw_4_119 : (Jvm.Cond.instanceMethod ({ cls := "SumNames$Sheet", name := "hasPlaces", desc := "(II)Z" } : Jvm.MethodName)) ∈ zT := zT_4 (i := 119) (by decide +kernel) rfl
theorem tw_4_120 : (Jvm.Cond.selects "SumNames$Sheet" ({ cls := "SumNames$Sheet", name := "hasPlaces", desc := "(II)Z" } : Jvm.MethodName) ({ cls := "SumNames$Sheet", name := "hasPlaces", desc := "(II)Z" } : Jvm.MethodName)) ∈ zT := zT_4 (i := 120) (by decide +kernel) rfl
set_option maxRecDepth 100000 in
theorem tw_4_121 : (Jvm.Cond.code ({ cls := "SumNames$Sheet", name := "hasPlaces", desc := "(II)Z" } : Jvm.MethodName) prog_6_method_4_code (3 : Nat) (Option.some Jvm.ClassFile.FieldType.boolean)) ∈ zT := zT_4 (i := 121) rfl rfl
theorem tw_4_122 : (Jvm.Cond.methodLink "SumNames" (281 : Nat) ({ cls := "SumNames$Sheet", name := "put", desc := "(II)V" } : Jvm.MethodName)) ∈ zT := zT_4 (i := 122) (by decide +kernel) rfl
theorem tw_4_123 : (Jvm.Cond.instanceMethod ({ cls := "SumNames$Sheet", name := "put", desc := "(II)V" } : Jvm.MethodName)) ∈ zT := zT_4 (i := 123) (by decide +kernel) rfl
theorem tw_4_124 : (Jvm.Cond.selects "SumNames$Sheet" ({ cls := "SumNames$Sheet", name := "put", desc := "(II)V" } : Jvm.MethodName) ({ cls := "SumNames$Sheet", name := "put", desc := "(II)V" } : Jvm.MethodName)) ∈ zT := zT_4 (i := 124) (by decide +kernel) rfl
set_option maxRecDepth 100000 in
theorem tw_4_125 : (Jvm.Cond.code ({ cls := "SumNames$Sheet", name := "put", desc := "(II)V" } : Jvm.MethodName) prog_6_method_5_code (3 : Nat) (Option.none : Option Jvm.ClassFile.FieldType)) ∈ zT := zT_4 (i := 125) rfl rfl
theorem tw_4_126 : (Jvm.Cond.methodLink "SumNamesLaw" (128 : Nat) ({ cls := "SumNames", name := "copy", desc := "(IIIII)I" } : Jvm.MethodName)) ∈ zT := zT_4 (i := 126) (by decide +kernel) rfl
theorem tw_4_127 : (Jvm.Cond.instanceMethod ({ cls := "SumNames", name := "copy", desc := "(IIIII)I" } : Jvm.MethodName)) ∈ zT := zT_4 (i := 127) (by decide +kernel) rfl
theorem tw_4_128 : (Jvm.Cond.selects "SumNames" ({ cls := "SumNames", name := "copy", desc := "(IIIII)I" } : Jvm.MethodName) ({ cls := "SumNames", name := "copy", desc := "(IIIII)I" } : Jvm.MethodName)) ∈ zT := zT_4 (i := 128) (by decide +kernel) rfl
set_option maxRecDepth 100000 in
theorem tw_4_129 : (Jvm.Cond.code ({ cls := "SumNames", name := "copy", desc := "(IIIII)I" } : Jvm.MethodName) prog_1_method_37_code (8 : Nat) (Option.some Jvm.ClassFile.FieldType.int)) ∈ zT := zT_4 (i := 129) rfl rfl
theorem tw_4_130 : (Jvm.Cond.methodLink "SumNames" (290 : Nat) ({ cls := "java/lang/System", name := "arraycopy", desc := "(Ljava/lang/Object;ILjava/lang/Object;II)V" } : Jvm.MethodName)) ∈ zT := zT_4 (i := 130) (by decide +kernel) rfl
theorem tw_4_131 : (Jvm.Cond.methodLink "SumNamesLaw" (133 : Nat) ({ cls := "SumNames", name := "hope", desc := "(IIIII)I" } : Jvm.MethodName)) ∈ zT := zT_4 (i := 131) (by decide +kernel) rfl
theorem tw_4_132 : (Jvm.Cond.instanceMethod ({ cls := "SumNames", name := "hope", desc := "(IIIII)I" } : Jvm.MethodName)) ∈ zT := zT_4 (i := 132) (by decide +kernel) rfl
theorem tw_4_133 : (Jvm.Cond.selects "SumNames" ({ cls := "SumNames", name := "hope", desc := "(IIIII)I" } : Jvm.MethodName) ({ cls := "SumNames", name := "hope", desc := "(IIIII)I" } : Jvm.MethodName)) ∈ zT := zT_4 (i := 133) (by decide +kernel) rfl
set_option maxRecDepth 100000 in
theorem tw_4_134 : (Jvm.Cond.code ({ cls := "SumNames", name := "hope", desc := "(IIIII)I" } : Jvm.MethodName) prog_1_method_38_code (8 : Nat) (Option.some Jvm.ClassFile.FieldType.int)) ∈ zT := zT_4 (i := 134) rfl rfl
theorem tw_4_135 : (Jvm.Cond.methodLink "SumNames" (296 : Nat) ({ cls := "SumNames$Sheet", name := "hasOnlyDays", desc := "(II)Z" } : Jvm.MethodName)) ∈ zT := zT_4 (i := 135) (by decide +kernel) rfl
theorem tw_4_136 : (Jvm.Cond.instanceMethod ({ cls := "SumNames$Sheet", name := "hasOnlyDays", desc := "(II)Z" } : Jvm.MethodName)) ∈ zT := zT_4 (i := 136) (by decide +kernel) rfl
theorem tw_4_137 : (Jvm.Cond.selects "SumNames$Sheet" ({ cls := "SumNames$Sheet", name := "hasOnlyDays", desc := "(II)Z" } : Jvm.MethodName) ({ cls := "SumNames$Sheet", name := "hasOnlyDays", desc := "(II)Z" } : Jvm.MethodName)) ∈ zT := zT_4 (i := 137) (by decide +kernel) rfl
set_option maxRecDepth 100000 in
theorem tw_4_138 : (Jvm.Cond.code ({ cls := "SumNames$Sheet", name := "hasOnlyDays", desc := "(II)Z" } : Jvm.MethodName) prog_6_method_6_code (4 : Nat) (Option.some Jvm.ClassFile.FieldType.boolean)) ∈ zT := zT_4 (i := 138) rfl rfl
theorem tw_4_140 : (Jvm.Cond.methodLink "SumNames" (299 : Nat) ({ cls := "SumNames$World", name := "addHope", desc := "(II)V" } : Jvm.MethodName)) ∈ zT := zT_4 (i := 140) (by decide +kernel) rfl
theorem tw_4_141 : (Jvm.Cond.methodLink "SumNamesLaw" (137 : Nat) ({ cls := "SumNames", name := "keep", desc := "(I)I" } : Jvm.MethodName)) ∈ zT := zT_4 (i := 141) (by decide +kernel) rfl
theorem tw_4_142 : (Jvm.Cond.instanceMethod ({ cls := "SumNames", name := "keep", desc := "(I)I" } : Jvm.MethodName)) ∈ zT := zT_4 (i := 142) (by decide +kernel) rfl
theorem tw_4_143 : (Jvm.Cond.selects "SumNames" ({ cls := "SumNames", name := "keep", desc := "(I)I" } : Jvm.MethodName) ({ cls := "SumNames", name := "keep", desc := "(I)I" } : Jvm.MethodName)) ∈ zT := zT_4 (i := 143) (by decide +kernel) rfl
set_option maxRecDepth 100000 in
theorem tw_4_144 : (Jvm.Cond.code ({ cls := "SumNames", name := "keep", desc := "(I)I" } : Jvm.MethodName) prog_1_method_39_code (2 : Nat) (Option.some Jvm.ClassFile.FieldType.int)) ∈ zT := zT_4 (i := 144) rfl rfl
theorem tw_4_145 : (Jvm.Cond.methodLink "SumNames" (302 : Nat) ({ cls := "SumNames", name := "isImage", desc := "(I)Z" } : Jvm.MethodName)) ∈ zT := zT_4 (i := 145) (by decide +kernel) rfl
theorem tw_4_146 : (Jvm.Cond.static ({ cls := "SumNames", name := "isImage", desc := "(I)Z" } : Jvm.MethodName)) ∈ zT := zT_4 (i := 146) (by decide +kernel) rfl
set_option maxRecDepth 100000 in
theorem tw_4_147 : (Jvm.Cond.code ({ cls := "SumNames", name := "isImage", desc := "(I)Z" } : Jvm.MethodName) prog_1_method_48_code (1 : Nat) (Option.some Jvm.ClassFile.FieldType.boolean)) ∈ zT := zT_4 (i := 147) rfl rfl
theorem tw_4_148 : (Jvm.Cond.methodLink "SumNamesLaw" (141 : Nat) ({ cls := "SumNames", name := "back", desc := "(I)I" } : Jvm.MethodName)) ∈ zT := zT_4 (i := 148) (by decide +kernel) rfl
theorem tw_4_149 : (Jvm.Cond.instanceMethod ({ cls := "SumNames", name := "back", desc := "(I)I" } : Jvm.MethodName)) ∈ zT := zT_4 (i := 149) (by decide +kernel) rfl
theorem tw_4_150 : (Jvm.Cond.selects "SumNames" ({ cls := "SumNames", name := "back", desc := "(I)I" } : Jvm.MethodName) ({ cls := "SumNames", name := "back", desc := "(I)I" } : Jvm.MethodName)) ∈ zT := zT_4 (i := 150) (by decide +kernel) rfl
set_option maxRecDepth 100000 in
theorem tw_4_151 : (Jvm.Cond.code ({ cls := "SumNames", name := "back", desc := "(I)I" } : Jvm.MethodName) prog_1_method_40_code (2 : Nat) (Option.some Jvm.ClassFile.FieldType.int)) ∈ zT := zT_4 (i := 151) rfl rfl
theorem tw_4_152 : (Jvm.Cond.methodLink "SumNamesLaw" (145 : Nat) ({ cls := "SumNames", name := "count", desc := "(I)I" } : Jvm.MethodName)) ∈ zT := zT_4 (i := 152) (by decide +kernel) rfl
theorem tw_4_153 : (Jvm.Cond.instanceMethod ({ cls := "SumNames", name := "count", desc := "(I)I" } : Jvm.MethodName)) ∈ zT := zT_4 (i := 153) (by decide +kernel) rfl
theorem tw_4_154 : (Jvm.Cond.selects "SumNames" ({ cls := "SumNames", name := "count", desc := "(I)I" } : Jvm.MethodName) ({ cls := "SumNames", name := "count", desc := "(I)I" } : Jvm.MethodName)) ∈ zT := zT_4 (i := 154) (by decide +kernel) rfl
set_option maxRecDepth 100000 in
theorem tw_4_155 : (Jvm.Cond.code ({ cls := "SumNames", name := "count", desc := "(I)I" } : Jvm.MethodName) prog_1_method_41_code (2 : Nat) (Option.some Jvm.ClassFile.FieldType.int)) ∈ zT := zT_4 (i := 155) rfl rfl
theorem tw_4_156 : (Jvm.Cond.classLink "SumNamesLaw" (10 : Nat) "SumNamesModel") ∈ zT := zT_4 (i := 156) (by decide +kernel) rfl
theorem tw_4_157 : (Jvm.Cond.instantiable "SumNamesModel" (29 : Nat)) ∈ zT := zT_4 (i := 157) (by decide +kernel) rfl
theorem tw_4_158 : (Jvm.Cond.methodLink "SumNamesLaw" (12 : Nat) ({ cls := "SumNamesModel", name := "<init>", desc := "()V" } : Jvm.MethodName)) ∈ zT := zT_4 (i := 158) (by decide +kernel) rfl
theorem tw_4_159 : (Jvm.Cond.instanceMethod ({ cls := "SumNamesModel", name := "<init>", desc := "()V" } : Jvm.MethodName)) ∈ zT := zT_4 (i := 159) (by decide +kernel) rfl
set_option maxRecDepth 100000 in
theorem tw_4_160 : (Jvm.Cond.code ({ cls := "SumNamesModel", name := "<init>", desc := "()V" } : Jvm.MethodName) prog_9_method_1_code (2 : Nat) (Option.none : Option Jvm.ClassFile.FieldType)) ∈ zT := zT_4 (i := 160) rfl rfl
theorem tw_4_161 : (Jvm.Cond.methodLink "SumNamesModel" (1 : Nat) ({ cls := "java/lang/Object", name := "<init>", desc := "()V" } : Jvm.MethodName)) ∈ zT := zT_4 (i := 161) (by decide +kernel) rfl
theorem tw_4_162 : (Jvm.Cond.fieldLink "SumNamesModel" (7 : Nat) "SumNamesModel" "row" "[I") ∈ zT := zT_4 (i := 162) (by decide +kernel) rfl
theorem tw_4_163 : (Jvm.Cond.fieldLink "SumNamesModel" (13 : Nat) "SumNamesModel" "words" "[J") ∈ zT := zT_4 (i := 163) (by decide +kernel) rfl
theorem tw_4_164 : (Jvm.Cond.fieldLink "SumNamesModel" (17 : Nat) "SumNamesModel" "isKept" "[Z") ∈ zT := zT_4 (i := 164) (by decide +kernel) rfl
theorem tw_4_165 : (Jvm.Cond.fieldLink "SumNamesModel" (21 : Nat) "SumNamesModel" "text" "[I") ∈ zT := zT_4 (i := 165) (by decide +kernel) rfl
theorem tw_4_166 : (Jvm.Cond.fieldLink "SumNamesModel" (72 : Nat) "SumNamesModel" "length" "I") ∈ zT := zT_4 (i := 166) (by decide +kernel) rfl
theorem tw_4_167 : (Jvm.Cond.fieldLink "SumNamesModel" (24 : Nat) "SumNamesModel" "read" "[I") ∈ zT := zT_4 (i := 167) (by decide +kernel) rfl
theorem tw_4_168 : (Jvm.Cond.fieldLink "SumNamesModel" (27 : Nat) "SumNamesModel" "readWord" "[J") ∈ zT := zT_4 (i := 168) (by decide +kernel) rfl
theorem tw_4_169 : (Jvm.Cond.fieldLink "SumNamesModel" (113 : Nat) "SumNamesModel" "readMany" "I") ∈ zT := zT_4 (i := 169) (by decide +kernel) rfl
theorem tw_4_170 : (Jvm.Cond.fieldLink "SumNamesModel" (30 : Nat) "SumNamesModel" "lanes" "[I") ∈ zT := zT_4 (i := 170) (by decide +kernel) rfl
theorem tw_4_171 : (Jvm.Cond.fieldLink "SumNamesModel" (33 : Nat) "SumNamesModel" "sizes" "[I") ∈ zT := zT_4 (i := 171) (by decide +kernel) rfl
theorem tw_4_172 : (Jvm.Cond.fieldLink "SumNamesModel" (36 : Nat) "SumNamesModel" "items" "[I") ∈ zT := zT_4 (i := 172) (by decide +kernel) rfl
theorem tw_4_173 : (Jvm.Cond.fieldLink "SumNamesModel" (78 : Nat) "SumNamesModel" "at" "I") ∈ zT := zT_4 (i := 173) (by decide +kernel) rfl
theorem tw_4_174 : (Jvm.Cond.fieldLink "SumNamesModel" (81 : Nat) "SumNamesModel" "place" "I") ∈ zT := zT_4 (i := 174) (by decide +kernel) rfl
theorem tw_4_175 : (Jvm.Cond.fieldLink "SumNamesModel" (88 : Nat) "SumNamesModel" "end" "I") ∈ zT := zT_4 (i := 175) (by decide +kernel) rfl
theorem tw_4_176 : (Jvm.Cond.fieldLink "SumNamesModel" (132 : Nat) "SumNamesModel" "readPersons" "I") ∈ zT := zT_4 (i := 176) (by decide +kernel) rfl
theorem tw_4_177 : (Jvm.Cond.fieldLink "SumNamesModel" (153 : Nat) "SumNamesModel" "readHopes" "I") ∈ zT := zT_4 (i := 177) (by decide +kernel) rfl
theorem tw_4_178 : (Jvm.Cond.fieldLink "SumNamesModel" (129 : Nat) "SumNamesModel" "readSyls" "I") ∈ zT := zT_4 (i := 178) (by decide +kernel) rfl
theorem tw_4_179 : (Jvm.Cond.fieldLink "SumNamesModel" (39 : Nat) "SumNamesModel" "readSyl" "[I") ∈ zT := zT_4 (i := 179) (by decide +kernel) rfl
theorem tw_4_180 : (Jvm.Cond.fieldLink "SumNamesModel" (42 : Nat) "SumNamesModel" "far" "[I") ∈ zT := zT_4 (i := 180) (by decide +kernel) rfl
theorem tw_4_181 : (Jvm.Cond.fieldLink "SumNamesModel" (45 : Nat) "SumNamesModel" "names" "[J") ∈ zT := zT_4 (i := 181) (by decide +kernel) rfl
theorem tw_4_182 : (Jvm.Cond.fieldLink "SumNamesModel" (211 : Nat) "SumNamesModel" "nameMany" "I") ∈ zT := zT_4 (i := 182) (by decide +kernel) rfl
theorem tw_4_183 : (Jvm.Cond.fieldLink "SumNamesModel" (48 : Nat) "SumNamesModel" "room" "[I") ∈ zT := zT_4 (i := 183) (by decide +kernel) rfl
theorem tw_4_184 : (Jvm.Cond.fieldLink "SumNamesModel" (51 : Nat) "SumNamesModel" "sums" "[I") ∈ zT := zT_4 (i := 184) (by decide +kernel) rfl
theorem tw_4_185 : (Jvm.Cond.fieldLink "SumNamesModel" (267 : Nat) "SumNamesModel" "sumMany" "I") ∈ zT := zT_4 (i := 185) (by decide +kernel) rfl
theorem tw_4_186 : (Jvm.Cond.fieldLink "SumNamesModel" (54 : Nat) "SumNamesModel" "named" "[Z") ∈ zT := zT_4 (i := 186) (by decide +kernel) rfl
theorem tw_4_187 : (Jvm.Cond.fieldLink "SumNamesModel" (57 : Nat) "SumNamesModel" "used" "[I") ∈ zT := zT_4 (i := 187) (by decide +kernel) rfl
theorem tw_4_188 : (Jvm.Cond.fieldLink "SumNamesModel" (293 : Nat) "SumNamesModel" "usedMany" "I") ∈ zT := zT_4 (i := 188) (by decide +kernel) rfl
theorem tw_4_189 : (Jvm.Cond.fieldLink "SumNamesModel" (60 : Nat) "SumNamesModel" "trial" "[I") ∈ zT := zT_4 (i := 189) (by decide +kernel) rfl
theorem tw_4_190 : (Jvm.Cond.fieldLink "SumNamesModel" (63 : Nat) "SumNamesModel" "found" "[J") ∈ zT := zT_4 (i := 190) (by decide +kernel) rfl
theorem tw_5_10 : (Jvm.Cond.methodLink "SumNamesLaw" (19 : Nat) ({ cls := "SumNamesModel", name := "write", desc := "(JI)I" } : Jvm.MethodName)) ∈ zT := zT_5 (i := 10) (by decide +kernel) rfl
theorem tw_5_11 : (Jvm.Cond.instanceMethod ({ cls := "SumNamesModel", name := "write", desc := "(JI)I" } : Jvm.MethodName)) ∈ zT := zT_5 (i := 11) (by decide +kernel) rfl
theorem tw_5_12 : (Jvm.Cond.selects "SumNamesModel" ({ cls := "SumNamesModel", name := "write", desc := "(JI)I" } : Jvm.MethodName) ({ cls := "SumNamesModel", name := "write", desc := "(JI)I" } : Jvm.MethodName)) ∈ zT := zT_5 (i := 12) (by decide +kernel) rfl
set_option maxRecDepth 100000 in
theorem tw_5_13 : (Jvm.Cond.code ({ cls := "SumNamesModel", name := "write", desc := "(JI)I" } : Jvm.MethodName) prog_9_method_4_code (5 : Nat) (Option.some Jvm.ClassFile.FieldType.int)) ∈ zT := zT_5 (i := 13) rfl rfl
theorem tw_5_14 : (Jvm.Cond.constantLong "SumNamesModel" (66 : Nat) (8 : Int64)) ∈ zT := zT_5 (i := 14) (by decide +kernel) rfl
theorem tw_5_15 : (Jvm.Cond.methodLink "SumNamesModel" (68 : Nat) ({ cls := "SumNamesModel", name := "in", desc := "(JJJ)Z" } : Jvm.MethodName)) ∈ zT := zT_5 (i := 15) (by decide +kernel) rfl
theorem tw_5_16 : (Jvm.Cond.static ({ cls := "SumNamesModel", name := "in", desc := "(JJJ)Z" } : Jvm.MethodName)) ∈ zT := zT_5 (i := 16) (by decide +kernel) rfl
set_option maxRecDepth 100000 in
theorem tw_5_17 : (Jvm.Cond.code ({ cls := "SumNamesModel", name := "in", desc := "(JJJ)Z" } : Jvm.MethodName) prog_9_method_2_code (6 : Nat) (Option.some Jvm.ClassFile.FieldType.boolean)) ∈ zT := zT_5 (i := 17) rfl rfl
theorem tw_5_18 : (Jvm.Cond.constantLong "SumNamesModel" (76 : Nat) (255 : Int64)) ∈ zT := zT_5 (i := 18) (by decide +kernel) rfl
theorem tw_5_19 : (Jvm.Cond.methodLink "SumNamesLaw" (24 : Nat) ({ cls := "SumNamesModel", name := "erase", desc := "()I" } : Jvm.MethodName)) ∈ zT := zT_5 (i := 19) (by decide +kernel) rfl
theorem tw_5_20 : (Jvm.Cond.instanceMethod ({ cls := "SumNamesModel", name := "erase", desc := "()I" } : Jvm.MethodName)) ∈ zT := zT_5 (i := 20) (by decide +kernel) rfl
theorem tw_5_21 : (Jvm.Cond.selects "SumNamesModel" ({ cls := "SumNamesModel", name := "erase", desc := "()I" } : Jvm.MethodName) ({ cls := "SumNamesModel", name := "erase", desc := "()I" } : Jvm.MethodName)) ∈ zT := zT_5 (i := 21) (by decide +kernel) rfl
set_option maxRecDepth 100000 in
theorem tw_5_22 : (Jvm.Cond.code ({ cls := "SumNamesModel", name := "erase", desc := "()I" } : Jvm.MethodName) prog_9_method_5_code (2 : Nat) (Option.some Jvm.ClassFile.FieldType.int)) ∈ zT := zT_5 (i := 22) rfl rfl
theorem tw_5_23 : (Jvm.Cond.methodLink "SumNamesLaw" (28 : Nat) ({ cls := "SumNamesModel", name := "fault", desc := "()I" } : Jvm.MethodName)) ∈ zT := zT_5 (i := 23) (by decide +kernel) rfl
theorem tw_5_24 : (Jvm.Cond.instanceMethod ({ cls := "SumNamesModel", name := "fault", desc := "()I" } : Jvm.MethodName)) ∈ zT := zT_5 (i := 24) (by decide +kernel) rfl
theorem tw_5_25 : (Jvm.Cond.selects "SumNamesModel" ({ cls := "SumNamesModel", name := "fault", desc := "()I" } : Jvm.MethodName) ({ cls := "SumNamesModel", name := "fault", desc := "()I" } : Jvm.MethodName)) ∈ zT := zT_5 (i := 25) (by decide +kernel) rfl
set_option maxRecDepth 100000 in
theorem tw_5_26 : (Jvm.Cond.code ({ cls := "SumNamesModel", name := "fault", desc := "()I" } : Jvm.MethodName) prog_9_method_17_code (2 : Nat) (Option.some Jvm.ClassFile.FieldType.int)) ∈ zT := zT_5 (i := 26) rfl rfl
theorem tw_5_27 : (Jvm.Cond.methodLink "SumNamesModel" (116 : Nat) ({ cls := "SumNamesModel", name := "token", desc := "()V" } : Jvm.MethodName)) ∈ zT := zT_5 (i := 27) (by decide +kernel) rfl
theorem tw_5_29 : (Jvm.Cond.instanceMethod ({ cls := "SumNamesModel", name := "token", desc := "()V" } : Jvm.MethodName)) ∈ zT := zT_5 (i := 29) (by decide +kernel) rfl
set_option maxRecDepth 100000 in
theorem tw_5_30 : (Jvm.Cond.code ({ cls := "SumNamesModel", name := "token", desc := "()V" } : Jvm.MethodName) prog_9_method_7_code (1 : Nat) (Option.none : Option Jvm.ClassFile.FieldType)) ∈ zT := zT_5 (i := 30) rfl rfl
theorem tw_5_31 : (Jvm.Cond.methodLink "SumNamesModel" (84 : Nat) ({ cls := "SumNamesModel", name := "sort", desc := "(I)I" } : Jvm.MethodName)) ∈ zT := zT_5 (i := 31) (by decide +kernel) rfl
theorem tw_5_32 : (Jvm.Cond.static ({ cls := "SumNamesModel", name := "sort", desc := "(I)I" } : Jvm.MethodName)) ∈ zT := zT_5 (i := 32) (by decide +kernel) rfl
set_option maxRecDepth 100000 in
theorem tw_5_33 : (Jvm.Cond.code ({ cls := "SumNamesModel", name := "sort", desc := "(I)I" } : Jvm.MethodName) prog_9_method_6_code (1 : Nat) (Option.some Jvm.ClassFile.FieldType.int)) ∈ zT := zT_5 (i := 33) rfl rfl
theorem tw_5_34 : (Jvm.Cond.methodLink "SumNamesModel" (160 : Nat) ({ cls := "SumNamesModel", name := "readsLine", desc := "()Z" } : Jvm.MethodName)) ∈ zT := zT_5 (i := 34) (by decide +kernel) rfl
theorem tw_5_36 : (Jvm.Cond.instanceMethod ({ cls := "SumNamesModel", name := "readsLine", desc := "()Z" } : Jvm.MethodName)) ∈ zT := zT_5 (i := 36) (by decide +kernel) rfl
set_option maxRecDepth 100000 in
theorem tw_5_37 : (Jvm.Cond.code ({ cls := "SumNamesModel", name := "readsLine", desc := "()Z" } : Jvm.MethodName) prog_9_method_16_code (3 : Nat) (Option.some Jvm.ClassFile.FieldType.boolean)) ∈ zT := zT_5 (i := 37) rfl rfl
theorem tw_5_38 : (Jvm.Cond.methodLink "SumNamesModel" (149 : Nat) ({ cls := "SumNamesModel", name := "wordOf", desc := "()I" } : Jvm.MethodName)) ∈ zT := zT_5 (i := 38) (by decide +kernel) rfl
theorem tw_5_40 : (Jvm.Cond.instanceMethod ({ cls := "SumNamesModel", name := "wordOf", desc := "()I" } : Jvm.MethodName)) ∈ zT := zT_5 (i := 40) (by decide +kernel) rfl
set_option maxRecDepth 100000 in
theorem tw_5_41 : (Jvm.Cond.code ({ cls := "SumNamesModel", name := "wordOf", desc := "()I" } : Jvm.MethodName) prog_9_method_9_code (1 : Nat) (Option.some Jvm.ClassFile.FieldType.int)) ∈ zT := zT_5 (i := 41) rfl rfl
theorem tw_5_42 : (Jvm.Cond.constantLong "SumNamesModel" (93 : Nat) (609898668 : Int64)) ∈ zT := zT_5 (i := 42) (by decide +kernel) rfl
theorem tw_5_43 : (Jvm.Cond.methodLink "SumNamesModel" (95 : Nat) ({ cls := "SumNamesModel", name := "isWord", desc := "(JI)Z" } : Jvm.MethodName)) ∈ zT := zT_5 (i := 43) (by decide +kernel) rfl
theorem tw_5_45 : (Jvm.Cond.instanceMethod ({ cls := "SumNamesModel", name := "isWord", desc := "(JI)Z" } : Jvm.MethodName)) ∈ zT := zT_5 (i := 45) (by decide +kernel) rfl
set_option maxRecDepth 100000 in
theorem tw_5_46 : (Jvm.Cond.code ({ cls := "SumNamesModel", name := "isWord", desc := "(JI)Z" } : Jvm.MethodName) prog_9_method_8_code (6 : Nat) (Option.some Jvm.ClassFile.FieldType.boolean)) ∈ zT := zT_5 (i := 46) rfl rfl
theorem tw_5_47 : (Jvm.Cond.constantLong "SumNamesModel" (91 : Nat) (31 : Int64)) ∈ zT := zT_5 (i := 47) (by decide +kernel) rfl
theorem tw_5_48 : (Jvm.Cond.constantLong "SumNamesModel" (99 : Nat) (13107 : Int64)) ∈ zT := zT_5 (i := 48) (by decide +kernel) rfl
theorem tw_5_49 : (Jvm.Cond.constantLong "SumNamesModel" (101 : Nat) (21612838 : Int64)) ∈ zT := zT_5 (i := 49) (by decide +kernel) rfl
theorem tw_5_50 : (Jvm.Cond.constantLong "SumNamesModel" (103 : Nat) (4596995 : Int64)) ∈ zT := zT_5 (i := 50) (by decide +kernel) rfl
theorem tw_5_51 : (Jvm.Cond.constantLong "SumNamesModel" (105 : Nat) (405539 : Int64)) ∈ zT := zT_5 (i := 51) (by decide +kernel) rfl
theorem tw_5_52 : (Jvm.Cond.constantLong "SumNamesModel" (107 : Nat) (180712 : Int64)) ∈ zT := zT_5 (i := 52) (by decide +kernel) rfl
theorem tw_5_53 : (Jvm.Cond.constantLong "SumNamesModel" (109 : Nat) (20574706852 : Int64)) ∈ zT := zT_5 (i := 53) (by decide +kernel) rfl
theorem tw_5_54 : (Jvm.Cond.constantLong "SumNamesModel" (111 : Nat) (676579814 : Int64)) ∈ zT := zT_5 (i := 54) (by decide +kernel) rfl
theorem tw_5_55 : (Jvm.Cond.methodLink "SumNamesModel" (156 : Nat) ({ cls := "SumNamesModel", name := "readsRest", desc := "(I)Z" } : Jvm.MethodName)) ∈ zT := zT_5 (i := 55) (by decide +kernel) rfl
theorem tw_5_57 : (Jvm.Cond.instanceMethod ({ cls := "SumNamesModel", name := "readsRest", desc := "(I)Z" } : Jvm.MethodName)) ∈ zT := zT_5 (i := 57) (by decide +kernel) rfl
set_option maxRecDepth 100000 in
theorem tw_5_58 : (Jvm.Cond.code ({ cls := "SumNamesModel", name := "readsRest", desc := "(I)Z" } : Jvm.MethodName) prog_9_method_15_code (4 : Nat) (Option.some Jvm.ClassFile.FieldType.boolean)) ∈ zT := zT_5 (i := 58) rfl rfl
theorem tw_5_59 : (Jvm.Cond.methodLink "SumNamesModel" (135 : Nat) ({ cls := "SumNamesModel", name := "readsLetter", desc := "()Z" } : Jvm.MethodName)) ∈ zT := zT_5 (i := 59) (by decide +kernel) rfl
theorem tw_5_61 : (Jvm.Cond.instanceMethod ({ cls := "SumNamesModel", name := "readsLetter", desc := "()Z" } : Jvm.MethodName)) ∈ zT := zT_5 (i := 61) (by decide +kernel) rfl
set_option maxRecDepth 100000 in
theorem tw_5_62 : (Jvm.Cond.code ({ cls := "SumNamesModel", name := "readsLetter", desc := "()Z" } : Jvm.MethodName) prog_9_method_12_code (3 : Nat) (Option.some Jvm.ClassFile.FieldType.boolean)) ∈ zT := zT_5 (i := 62) rfl rfl
theorem tw_5_63 : (Jvm.Cond.methodLink "SumNamesModel" (125 : Nat) ({ cls := "SumNamesModel", name := "codeHere", desc := "(I)J" } : Jvm.MethodName)) ∈ zT := zT_5 (i := 63) (by decide +kernel) rfl
theorem tw_5_65 : (Jvm.Cond.instanceMethod ({ cls := "SumNamesModel", name := "codeHere", desc := "(I)J" } : Jvm.MethodName)) ∈ zT := zT_5 (i := 65) (by decide +kernel) rfl
set_option maxRecDepth 100000 in
theorem tw_5_66 : (Jvm.Cond.code ({ cls := "SumNamesModel", name := "codeHere", desc := "(I)J" } : Jvm.MethodName) prog_9_method_11_code (5 : Nat) (Option.some Jvm.ClassFile.FieldType.long)) ∈ zT := zT_5 (i := 66) rfl rfl
theorem tw_5_67 : (Jvm.Cond.constantLong "SumNamesModel" (119 : Nat) (-1 : Int64)) ∈ zT := zT_5 (i := 67) (by decide +kernel) rfl
theorem tw_5_68 : (Jvm.Cond.constantLong "SumNamesModel" (121 : Nat) (27 : Int64)) ∈ zT := zT_5 (i := 68) (by decide +kernel) rfl
theorem tw_5_69 : (Jvm.Cond.constantLong "SumNamesModel" (123 : Nat) (96 : Int64)) ∈ zT := zT_5 (i := 69) (by decide +kernel) rfl
theorem tw_5_70 : (Jvm.Cond.methodLink "SumNamesModel" (139 : Nat) ({ cls := "SumNamesModel", name := "reads", desc := "(IIII)Z" } : Jvm.MethodName)) ∈ zT := zT_5 (i := 70) (by decide +kernel) rfl
theorem tw_5_72 : (Jvm.Cond.instanceMethod ({ cls := "SumNamesModel", name := "reads", desc := "(IIII)Z" } : Jvm.MethodName)) ∈ zT := zT_5 (i := 72) (by decide +kernel) rfl
set_option maxRecDepth 100000 in
theorem tw_5_73 : (Jvm.Cond.code ({ cls := "SumNamesModel", name := "reads", desc := "(IIII)Z" } : Jvm.MethodName) prog_9_method_10_code (7 : Nat) (Option.some Jvm.ClassFile.FieldType.boolean)) ∈ zT := zT_5 (i := 73) rfl rfl
theorem tw_5_74 : (Jvm.Cond.methodLink "SumNamesModel" (143 : Nat) ({ cls := "SumNamesModel", name := "readsSyl", desc := "()Z" } : Jvm.MethodName)) ∈ zT := zT_5 (i := 74) (by decide +kernel) rfl
theorem tw_5_76 : (Jvm.Cond.instanceMethod ({ cls := "SumNamesModel", name := "readsSyl", desc := "()Z" } : Jvm.MethodName)) ∈ zT := zT_5 (i := 76) (by decide +kernel) rfl
set_option maxRecDepth 100000 in
theorem tw_5_77 : (Jvm.Cond.code ({ cls := "SumNamesModel", name := "readsSyl", desc := "()Z" } : Jvm.MethodName) prog_9_method_13_code (5 : Nat) (Option.some Jvm.ClassFile.FieldType.boolean)) ∈ zT := zT_5 (i := 77) rfl rfl
theorem tw_5_78 : (Jvm.Cond.methodLink "SumNamesModel" (146 : Nat) ({ cls := "SumNamesModel", name := "readsWord", desc := "()Z" } : Jvm.MethodName)) ∈ zT := zT_5 (i := 78) (by decide +kernel) rfl
theorem tw_5_80 : (Jvm.Cond.instanceMethod ({ cls := "SumNamesModel", name := "readsWord", desc := "()Z" } : Jvm.MethodName)) ∈ zT := zT_5 (i := 80) (by decide +kernel) rfl
set_option maxRecDepth 100000 in
theorem tw_5_81 : (Jvm.Cond.code ({ cls := "SumNamesModel", name := "readsWord", desc := "()Z" } : Jvm.MethodName) prog_9_method_14_code (4 : Nat) (Option.some Jvm.ClassFile.FieldType.boolean)) ∈ zT := zT_5 (i := 81) rfl rfl
theorem tw_5_82 : (Jvm.Cond.methodLink "SumNamesLaw" (32 : Nat) ({ cls := "SumNamesModel", name := "told", desc := "()I" } : Jvm.MethodName)) ∈ zT := zT_5 (i := 82) (by decide +kernel) rfl
theorem tw_5_83 : (Jvm.Cond.instanceMethod ({ cls := "SumNamesModel", name := "told", desc := "()I" } : Jvm.MethodName)) ∈ zT := zT_5 (i := 83) (by decide +kernel) rfl
theorem tw_5_84 : (Jvm.Cond.selects "SumNamesModel" ({ cls := "SumNamesModel", name := "told", desc := "()I" } : Jvm.MethodName) ({ cls := "SumNamesModel", name := "told", desc := "()I" } : Jvm.MethodName)) ∈ zT := zT_5 (i := 84) (by decide +kernel) rfl
set_option maxRecDepth 100000 in
theorem tw_5_85 : (Jvm.Cond.code ({ cls := "SumNamesModel", name := "told", desc := "()I" } : Jvm.MethodName) prog_9_method_21_code (2 : Nat) (Option.some Jvm.ClassFile.FieldType.int)) ∈ zT := zT_5 (i := 85) rfl rfl
theorem tw_5_86 : (Jvm.Cond.methodLink "SumNamesModel" (171 : Nat) ({ cls := "SumNamesModel", name := "fault", desc := "()I" } : Jvm.MethodName)) ∈ zT := zT_5 (i := 86) (by decide +kernel) rfl
theorem tw_5_87 : (Jvm.Cond.methodLink "SumNamesModel" (174 : Nat) ({ cls := "SumNamesModel", name := "tell", desc := "(I)V" } : Jvm.MethodName)) ∈ zT := zT_5 (i := 87) (by decide +kernel) rfl
theorem tw_5_89 : (Jvm.Cond.instanceMethod ({ cls := "SumNamesModel", name := "tell", desc := "(I)V" } : Jvm.MethodName)) ∈ zT := zT_5 (i := 89) (by decide +kernel) rfl
set_option maxRecDepth 100000 in
theorem tw_5_90 : (Jvm.Cond.code ({ cls := "SumNamesModel", name := "tell", desc := "(I)V" } : Jvm.MethodName) prog_9_method_20_code (4 : Nat) (Option.none : Option Jvm.ClassFile.FieldType)) ∈ zT := zT_5 (i := 90) rfl rfl
theorem tw_5_91 : (Jvm.Cond.methodLink "SumNamesModel" (163 : Nat) ({ cls := "SumNamesModel", name := "bear", desc := "(IIIJ)V" } : Jvm.MethodName)) ∈ zT := zT_5 (i := 91) (by decide +kernel) rfl
theorem tw_5_93 : (Jvm.Cond.instanceMethod ({ cls := "SumNamesModel", name := "bear", desc := "(IIIJ)V" } : Jvm.MethodName)) ∈ zT := zT_5 (i := 93) (by decide +kernel) rfl
set_option maxRecDepth 100000 in
theorem tw_5_94 : (Jvm.Cond.code ({ cls := "SumNamesModel", name := "bear", desc := "(IIIJ)V" } : Jvm.MethodName) prog_9_method_18_code (7 : Nat) (Option.none : Option Jvm.ClassFile.FieldType)) ∈ zT := zT_5 (i := 94) rfl rfl
theorem tw_5_95 : (Jvm.Cond.methodLink "SumNamesModel" (167 : Nat) ({ cls := "SumNamesModel", name := "hopeFor", desc := "(II)V" } : Jvm.MethodName)) ∈ zT := zT_5 (i := 95) (by decide +kernel) rfl
theorem tw_5_97 : (Jvm.Cond.instanceMethod ({ cls := "SumNamesModel", name := "hopeFor", desc := "(II)V" } : Jvm.MethodName)) ∈ zT := zT_5 (i := 97) (by decide +kernel) rfl
set_option maxRecDepth 100000 in
theorem tw_5_98 : (Jvm.Cond.code ({ cls := "SumNamesModel", name := "hopeFor", desc := "(II)V" } : Jvm.MethodName) prog_9_method_19_code (3 : Nat) (Option.none : Option Jvm.ClassFile.FieldType)) ∈ zT := zT_5 (i := 98) rfl rfl
theorem tw_5_99 : (Jvm.Cond.methodLink "SumNamesLaw" (37 : Nat) ({ cls := "SumNamesModel", name := "letter", desc := "(I)I" } : Jvm.MethodName)) ∈ zT := zT_5 (i := 99) (by decide +kernel) rfl
theorem tw_5_100 : (Jvm.Cond.instanceMethod ({ cls := "SumNamesModel", name := "letter", desc := "(I)I" } : Jvm.MethodName)) ∈ zT := zT_5 (i := 100) (by decide +kernel) rfl
theorem tw_5_101 : (Jvm.Cond.selects "SumNamesModel" ({ cls := "SumNamesModel", name := "letter", desc := "(I)I" } : Jvm.MethodName) ({ cls := "SumNamesModel", name := "letter", desc := "(I)I" } : Jvm.MethodName)) ∈ zT := zT_5 (i := 101) (by decide +kernel) rfl
set_option maxRecDepth 100000 in
theorem tw_5_102 : (Jvm.Cond.code ({ cls := "SumNamesModel", name := "letter", desc := "(I)I" } : Jvm.MethodName) prog_9_method_22_code (2 : Nat) (Option.some Jvm.ClassFile.FieldType.int)) ∈ zT := zT_5 (i := 102) rfl rfl
theorem tw_5_103 : (Jvm.Cond.constantLong "SumNamesModel" (178 : Nat) (25 : Int64)) ∈ zT := zT_5 (i := 103) (by decide +kernel) rfl
theorem tw_5_104 : (Jvm.Cond.methodLink "SumNamesLaw" (42 : Nat) ({ cls := "SumNamesModel", name := "person", desc := "(II)I" } : Jvm.MethodName)) ∈ zT := zT_5 (i := 104) (by decide +kernel) rfl
theorem tw_5_105 : (Jvm.Cond.instanceMethod ({ cls := "SumNamesModel", name := "person", desc := "(II)I" } : Jvm.MethodName)) ∈ zT := zT_5 (i := 105) (by decide +kernel) rfl
theorem tw_5_106 : (Jvm.Cond.selects "SumNamesModel" ({ cls := "SumNamesModel", name := "person", desc := "(II)I" } : Jvm.MethodName) ({ cls := "SumNamesModel", name := "person", desc := "(II)I" } : Jvm.MethodName)) ∈ zT := zT_5 (i := 106) (by decide +kernel) rfl
set_option maxRecDepth 100000 in
theorem tw_5_107 : (Jvm.Cond.code ({ cls := "SumNamesModel", name := "person", desc := "(II)I" } : Jvm.MethodName) prog_9_method_30_code (3 : Nat) (Option.some Jvm.ClassFile.FieldType.int)) ∈ zT := zT_5 (i := 107) rfl rfl
theorem tw_5_108 : (Jvm.Cond.methodLink "SumNamesModel" (191 : Nat) ({ cls := "SumNamesModel", name := "isPerson", desc := "(I)Z" } : Jvm.MethodName)) ∈ zT := zT_5 (i := 108) (by decide +kernel) rfl
theorem tw_5_110 : (Jvm.Cond.instanceMethod ({ cls := "SumNamesModel", name := "isPerson", desc := "(I)Z" } : Jvm.MethodName)) ∈ zT := zT_5 (i := 110) (by decide +kernel) rfl
set_option maxRecDepth 100000 in
theorem tw_5_111 : (Jvm.Cond.code ({ cls := "SumNamesModel", name := "isPerson", desc := "(I)Z" } : Jvm.MethodName) prog_9_method_23_code (2 : Nat) (Option.some Jvm.ClassFile.FieldType.boolean)) ∈ zT := zT_5 (i := 111) rfl rfl
theorem tw_5_112 : (Jvm.Cond.methodLink "SumNamesModel" (194 : Nat) ({ cls := "SumNamesModel", name := "kindOf", desc := "(I)I" } : Jvm.MethodName)) ∈ zT := zT_5 (i := 112) (by decide +kernel) rfl
theorem tw_5_114 : (Jvm.Cond.instanceMethod ({ cls := "SumNamesModel", name := "kindOf", desc := "(I)I" } : Jvm.MethodName)) ∈ zT := zT_5 (i := 114) (by decide +kernel) rfl
set_option maxRecDepth 100000 in
theorem tw_5_115 : (Jvm.Cond.code ({ cls := "SumNamesModel", name := "kindOf", desc := "(I)I" } : Jvm.MethodName) prog_9_method_24_code (6 : Nat) (Option.some Jvm.ClassFile.FieldType.int)) ∈ zT := zT_5 (i := 115) rfl rfl
theorem tw_5_116 : (Jvm.Cond.methodLink "SumNamesModel" (197 : Nat) ({ cls := "SumNamesModel", name := "near", desc := "(I)I" } : Jvm.MethodName)) ∈ zT := zT_5 (i := 116) (by decide +kernel) rfl
theorem tw_5_118 : (Jvm.Cond.instanceMethod ({ cls := "SumNamesModel", name := "near", desc := "(I)I" } : Jvm.MethodName)) ∈ zT := zT_5 (i := 118) (by decide +kernel) rfl
set_option maxRecDepth 100000 in
theorem tw_5_119 : (Jvm.Cond.code ({ cls := "SumNamesModel", name := "near", desc := "(I)I" } : Jvm.MethodName) prog_9_method_28_code (2 : Nat) (Option.some Jvm.ClassFile.FieldType.int)) ∈ zT := zT_5 (i := 119) rfl rfl
theorem tw_5_120 : (Jvm.Cond.methodLink "SumNamesModel" (187 : Nat) ({ cls := "SumNamesModel", name := "within", desc := "(II)I" } : Jvm.MethodName)) ∈ zT := zT_5 (i := 120) (by decide +kernel) rfl
theorem tw_5_122 : (Jvm.Cond.instanceMethod ({ cls := "SumNamesModel", name := "within", desc := "(II)I" } : Jvm.MethodName)) ∈ zT := zT_5 (i := 122) (by decide +kernel) rfl
set_option maxRecDepth 100000 in
theorem tw_5_123 : (Jvm.Cond.code ({ cls := "SumNamesModel", name := "within", desc := "(II)I" } : Jvm.MethodName) prog_9_method_27_code (5 : Nat) (Option.some Jvm.ClassFile.FieldType.int)) ∈ zT := zT_5 (i := 123) rfl rfl
theorem tw_5_124 : (Jvm.Cond.methodLink "SumNamesModel" (184 : Nat) ({ cls := "SumNamesModel", name := "layFar", desc := "(I)V" } : Jvm.MethodName)) ∈ zT := zT_5 (i := 124) (by decide +kernel) rfl
theorem tw_5_126 : (Jvm.Cond.instanceMethod ({ cls := "SumNamesModel", name := "layFar", desc := "(I)V" } : Jvm.MethodName)) ∈ zT := zT_5 (i := 126) (by decide +kernel) rfl
set_option maxRecDepth 100000 in
theorem tw_5_127 : (Jvm.Cond.code ({ cls := "SumNamesModel", name := "layFar", desc := "(I)V" } : Jvm.MethodName) prog_9_method_26_code (6 : Nat) (Option.none : Option Jvm.ClassFile.FieldType)) ∈ zT := zT_5 (i := 127) rfl rfl
theorem tw_5_128 : (Jvm.Cond.methodLink "SumNamesModel" (180 : Nat) ({ cls := "SumNamesModel", name := "areNext", desc := "(II)Z" } : Jvm.MethodName)) ∈ zT := zT_5 (i := 128) (by decide +kernel) rfl
theorem tw_5_130 : (Jvm.Cond.instanceMethod ({ cls := "SumNamesModel", name := "areNext", desc := "(II)Z" } : Jvm.MethodName)) ∈ zT := zT_5 (i := 130) (by decide +kernel) rfl
set_option maxRecDepth 100000 in
theorem tw_5_131 : (Jvm.Cond.code ({ cls := "SumNamesModel", name := "areNext", desc := "(II)Z" } : Jvm.MethodName) prog_9_method_25_code (3 : Nat) (Option.some Jvm.ClassFile.FieldType.boolean)) ∈ zT := zT_5 (i := 131) rfl rfl
theorem tw_5_132 : (Jvm.Cond.methodLink "SumNamesLaw" (47 : Nat) ({ cls := "SumNamesModel", name := "called", desc := "(I)J" } : Jvm.MethodName)) ∈ zT := zT_5 (i := 132) (by decide +kernel) rfl
theorem tw_5_133 : (Jvm.Cond.instanceMethod ({ cls := "SumNamesModel", name := "called", desc := "(I)J" } : Jvm.MethodName)) ∈ zT := zT_5 (i := 133) (by decide +kernel) rfl
theorem tw_5_134 : (Jvm.Cond.selects "SumNamesModel" ({ cls := "SumNamesModel", name := "called", desc := "(I)J" } : Jvm.MethodName) ({ cls := "SumNamesModel", name := "called", desc := "(I)J" } : Jvm.MethodName)) ∈ zT := zT_5 (i := 134) (by decide +kernel) rfl
set_option maxRecDepth 100000 in
theorem tw_5_135 : (Jvm.Cond.code ({ cls := "SumNamesModel", name := "called", desc := "(I)J" } : Jvm.MethodName) prog_9_method_31_code (2 : Nat) (Option.some Jvm.ClassFile.FieldType.long)) ∈ zT := zT_5 (i := 135) rfl rfl
theorem tw_5_136 : (Jvm.Cond.constantLong "SumNamesModel" (200 : Nat) (-2 : Int64)) ∈ zT := zT_5 (i := 136) (by decide +kernel) rfl
theorem tw_5_137 : (Jvm.Cond.methodLink "SumNamesLaw" (51 : Nat) ({ cls := "SumNamesModel", name := "degrees", desc := "(II)I" } : Jvm.MethodName)) ∈ zT := zT_5 (i := 137) (by decide +kernel) rfl
theorem tw_5_138 : (Jvm.Cond.instanceMethod ({ cls := "SumNamesModel", name := "degrees", desc := "(II)I" } : Jvm.MethodName)) ∈ zT := zT_5 (i := 138) (by decide +kernel) rfl
theorem tw_5_139 : (Jvm.Cond.selects "SumNamesModel" ({ cls := "SumNamesModel", name := "degrees", desc := "(II)I" } : Jvm.MethodName) ({ cls := "SumNamesModel", name := "degrees", desc := "(II)I" } : Jvm.MethodName)) ∈ zT := zT_5 (i := 139) (by decide +kernel) rfl
set_option maxRecDepth 100000 in
theorem tw_5_140 : (Jvm.Cond.code ({ cls := "SumNamesModel", name := "degrees", desc := "(II)I" } : Jvm.MethodName) prog_9_method_32_code (3 : Nat) (Option.some Jvm.ClassFile.FieldType.int)) ∈ zT := zT_5 (i := 140) rfl rfl
theorem tw_5_141 : (Jvm.Cond.methodLink "SumNamesLaw" (55 : Nat) ({ cls := "SumNamesModel", name := "as", desc := "(II)I" } : Jvm.MethodName)) ∈ zT := zT_5 (i := 141) (by decide +kernel) rfl
theorem tw_5_142 : (Jvm.Cond.instanceMethod ({ cls := "SumNamesModel", name := "as", desc := "(II)I" } : Jvm.MethodName)) ∈ zT := zT_5 (i := 142) (by decide +kernel) rfl
theorem tw_5_143 : (Jvm.Cond.selects "SumNamesModel" ({ cls := "SumNamesModel", name := "as", desc := "(II)I" } : Jvm.MethodName) ({ cls := "SumNamesModel", name := "as", desc := "(II)I" } : Jvm.MethodName)) ∈ zT := zT_5 (i := 143) (by decide +kernel) rfl
set_option maxRecDepth 100000 in
theorem tw_5_144 : (Jvm.Cond.code ({ cls := "SumNamesModel", name := "as", desc := "(II)I" } : Jvm.MethodName) prog_9_method_33_code (5 : Nat) (Option.some Jvm.ClassFile.FieldType.int)) ∈ zT := zT_5 (i := 144) rfl rfl
theorem tw_5_145 : (Jvm.Cond.constantLong "SumNamesModel" (202 : Nat) (3 : Int64)) ∈ zT := zT_5 (i := 145) (by decide +kernel) rfl
theorem tw_5_146 : (Jvm.Cond.methodLink "SumNamesModel" (204 : Nat) ({ cls := "SumNamesModel", name := "bits", desc := "(I)I" } : Jvm.MethodName)) ∈ zT := zT_5 (i := 146) (by decide +kernel) rfl
theorem tw_5_147 : (Jvm.Cond.static ({ cls := "SumNamesModel", name := "bits", desc := "(I)I" } : Jvm.MethodName)) ∈ zT := zT_5 (i := 147) (by decide +kernel) rfl
set_option maxRecDepth 100000 in
theorem tw_5_148 : (Jvm.Cond.code ({ cls := "SumNamesModel", name := "bits", desc := "(I)I" } : Jvm.MethodName) prog_9_method_29_code (3 : Nat) (Option.some Jvm.ClassFile.FieldType.int)) ∈ zT := zT_5 (i := 148) rfl rfl
theorem tw_5_149 : (Jvm.Cond.methodLink "SumNamesLaw" (60 : Nat) ({ cls := "SumNamesModel", name := "sum", desc := "(J)I" } : Jvm.MethodName)) ∈ zT := zT_5 (i := 149) (by decide +kernel) rfl
theorem tw_5_150 : (Jvm.Cond.instanceMethod ({ cls := "SumNamesModel", name := "sum", desc := "(J)I" } : Jvm.MethodName)) ∈ zT := zT_5 (i := 150) (by decide +kernel) rfl
theorem tw_5_151 : (Jvm.Cond.selects "SumNamesModel" ({ cls := "SumNamesModel", name := "sum", desc := "(J)I" } : Jvm.MethodName) ({ cls := "SumNamesModel", name := "sum", desc := "(J)I" } : Jvm.MethodName)) ∈ zT := zT_5 (i := 151) (by decide +kernel) rfl
set_option maxRecDepth 100000 in
theorem tw_5_152 : (Jvm.Cond.code ({ cls := "SumNamesModel", name := "sum", desc := "(J)I" } : Jvm.MethodName) prog_9_method_42_code (3 : Nat) (Option.some Jvm.ClassFile.FieldType.int)) ∈ zT := zT_5 (i := 152) rfl rfl
theorem tw_5_153 : (Jvm.Cond.methodLink "SumNamesModel" (226 : Nat) ({ cls := "SumNamesModel", name := "isCode", desc := "(J)Z" } : Jvm.MethodName)) ∈ zT := zT_5 (i := 153) (by decide +kernel) rfl
theorem tw_5_154 : (Jvm.Cond.static ({ cls := "SumNamesModel", name := "isCode", desc := "(J)Z" } : Jvm.MethodName)) ∈ zT := zT_5 (i := 154) (by decide +kernel) rfl
set_option maxRecDepth 100000 in
theorem tw_5_155 : (Jvm.Cond.code ({ cls := "SumNamesModel", name := "isCode", desc := "(J)Z" } : Jvm.MethodName) prog_9_method_35_code (5 : Nat) (Option.some Jvm.ClassFile.FieldType.boolean)) ∈ zT := zT_5 (i := 155) rfl rfl
theorem tw_5_156 : (Jvm.Cond.methodLink "SumNamesModel" (207 : Nat) ({ cls := "SumNamesModel", name := "lettersOf", desc := "(J)I" } : Jvm.MethodName)) ∈ zT := zT_5 (i := 156) (by decide +kernel) rfl
theorem tw_5_157 : (Jvm.Cond.static ({ cls := "SumNamesModel", name := "lettersOf", desc := "(J)I" } : Jvm.MethodName)) ∈ zT := zT_5 (i := 157) (by decide +kernel) rfl
set_option maxRecDepth 100000 in
theorem tw_5_158 : (Jvm.Cond.code ({ cls := "SumNamesModel", name := "lettersOf", desc := "(J)I" } : Jvm.MethodName) prog_9_method_34_code (5 : Nat) (Option.some Jvm.ClassFile.FieldType.int)) ∈ zT := zT_5 (i := 158) rfl rfl
theorem tw_5_159 : (Jvm.Cond.methodLink "SumNamesModel" (229 : Nat) ({ cls := "SumNamesModel", name := "sumOf", desc := "(J)I" } : Jvm.MethodName)) ∈ zT := zT_5 (i := 159) (by decide +kernel) rfl
theorem tw_5_161 : (Jvm.Cond.instanceMethod ({ cls := "SumNamesModel", name := "sumOf", desc := "(J)I" } : Jvm.MethodName)) ∈ zT := zT_5 (i := 161) (by decide +kernel) rfl
set_option maxRecDepth 100000 in
theorem tw_5_162 : (Jvm.Cond.code ({ cls := "SumNamesModel", name := "sumOf", desc := "(J)I" } : Jvm.MethodName) prog_9_method_36_code (6 : Nat) (Option.some Jvm.ClassFile.FieldType.int)) ∈ zT := zT_5 (i := 162) rfl rfl
theorem tw_5_163 : (Jvm.Cond.methodLink "SumNamesLaw" (64 : Nat) ({ cls := "SumNamesModel", name := "name", desc := "(J)I" } : Jvm.MethodName)) ∈ zT := zT_5 (i := 163) (by decide +kernel) rfl
theorem tw_5_164 : (Jvm.Cond.instanceMethod ({ cls := "SumNamesModel", name := "name", desc := "(J)I" } : Jvm.MethodName)) ∈ zT := zT_5 (i := 164) (by decide +kernel) rfl
theorem tw_5_165 : (Jvm.Cond.selects "SumNamesModel" ({ cls := "SumNamesModel", name := "name", desc := "(J)I" } : Jvm.MethodName) ({ cls := "SumNamesModel", name := "name", desc := "(J)I" } : Jvm.MethodName)) ∈ zT := zT_5 (i := 165) (by decide +kernel) rfl
set_option maxRecDepth 100000 in
theorem tw_5_166 : (Jvm.Cond.code ({ cls := "SumNamesModel", name := "name", desc := "(J)I" } : Jvm.MethodName) prog_9_method_43_code (3 : Nat) (Option.some Jvm.ClassFile.FieldType.int)) ∈ zT := zT_5 (i := 166) rfl rfl
theorem tw_5_167 : (Jvm.Cond.methodLink "SumNamesModel" (232 : Nat) ({ cls := "SumNamesModel", name := "isName", desc := "(J)Z" } : Jvm.MethodName)) ∈ zT := zT_5 (i := 167) (by decide +kernel) rfl
theorem tw_5_169 : (Jvm.Cond.instanceMethod ({ cls := "SumNamesModel", name := "isName", desc := "(J)Z" } : Jvm.MethodName)) ∈ zT := zT_5 (i := 169) (by decide +kernel) rfl
set_option maxRecDepth 100000 in
theorem tw_5_170 : (Jvm.Cond.code ({ cls := "SumNamesModel", name := "isName", desc := "(J)Z" } : Jvm.MethodName) prog_9_method_41_code (10 : Nat) (Option.some Jvm.ClassFile.FieldType.boolean)) ∈ zT := zT_5 (i := 170) rfl rfl
theorem tw_5_171 : (Jvm.Cond.methodLink "SumNamesModel" (214 : Nat) ({ cls := "SumNamesModel", name := "isBare", desc := "(J)Z" } : Jvm.MethodName)) ∈ zT := zT_5 (i := 171) (by decide +kernel) rfl
theorem tw_5_173 : (Jvm.Cond.instanceMethod ({ cls := "SumNamesModel", name := "isBare", desc := "(J)Z" } : Jvm.MethodName)) ∈ zT := zT_5 (i := 173) (by decide +kernel) rfl
set_option maxRecDepth 100000 in
theorem tw_5_174 : (Jvm.Cond.code ({ cls := "SumNamesModel", name := "isBare", desc := "(J)Z" } : Jvm.MethodName) prog_9_method_37_code (6 : Nat) (Option.some Jvm.ClassFile.FieldType.boolean)) ∈ zT := zT_5 (i := 174) rfl rfl
theorem tw_5_175 : (Jvm.Cond.methodLink "SumNamesModel" (222 : Nat) ({ cls := "SumNamesModel", name := "joined", desc := "(JJ)J" } : Jvm.MethodName)) ∈ zT := zT_5 (i := 175) (by decide +kernel) rfl
theorem tw_5_176 : (Jvm.Cond.static ({ cls := "SumNamesModel", name := "joined", desc := "(JJ)J" } : Jvm.MethodName)) ∈ zT := zT_5 (i := 176) (by decide +kernel) rfl
set_option maxRecDepth 100000 in
theorem tw_5_177 : (Jvm.Cond.code ({ cls := "SumNamesModel", name := "joined", desc := "(JJ)J" } : Jvm.MethodName) prog_9_method_38_code (7 : Nat) (Option.some Jvm.ClassFile.FieldType.long)) ∈ zT := zT_5 (i := 177) rfl rfl
theorem tw_5_178 : (Jvm.Cond.methodLink "SumNamesLaw" (68 : Nat) ({ cls := "SumNamesModel", name := "judge", desc := "(I)I" } : Jvm.MethodName)) ∈ zT := zT_5 (i := 178) (by decide +kernel) rfl
theorem tw_5_179 : (Jvm.Cond.instanceMethod ({ cls := "SumNamesModel", name := "judge", desc := "(I)I" } : Jvm.MethodName)) ∈ zT := zT_5 (i := 179) (by decide +kernel) rfl
theorem tw_5_180 : (Jvm.Cond.selects "SumNamesModel" ({ cls := "SumNamesModel", name := "judge", desc := "(I)I" } : Jvm.MethodName) ({ cls := "SumNamesModel", name := "judge", desc := "(I)I" } : Jvm.MethodName)) ∈ zT := zT_5 (i := 180) (by decide +kernel) rfl
set_option maxRecDepth 100000 in
theorem tw_5_181 : (Jvm.Cond.code ({ cls := "SumNamesModel", name := "judge", desc := "(I)I" } : Jvm.MethodName) prog_9_method_45_code (2 : Nat) (Option.some Jvm.ClassFile.FieldType.int)) ∈ zT := zT_5 (i := 181) rfl rfl
theorem tw_5_182 : (Jvm.Cond.methodLink "SumNamesModel" (238 : Nat) ({ cls := "SumNamesModel", name := "takerOf", desc := "(I)I" } : Jvm.MethodName)) ∈ zT := zT_5 (i := 182) (by decide +kernel) rfl
theorem tw_5_184 : (Jvm.Cond.instanceMethod ({ cls := "SumNamesModel", name := "takerOf", desc := "(I)I" } : Jvm.MethodName)) ∈ zT := zT_5 (i := 184) (by decide +kernel) rfl
set_option maxRecDepth 100000 in
theorem tw_5_185 : (Jvm.Cond.code ({ cls := "SumNamesModel", name := "takerOf", desc := "(I)I" } : Jvm.MethodName) prog_9_method_44_code (4 : Nat) (Option.some Jvm.ClassFile.FieldType.int)) ∈ zT := zT_5 (i := 185) rfl rfl
theorem tw_5_186 : (Jvm.Cond.methodLink "SumNamesModel" (235 : Nat) ({ cls := "SumNamesModel", name := "has", desc := "(II)Z" } : Jvm.MethodName)) ∈ zT := zT_5 (i := 186) (by decide +kernel) rfl
theorem tw_5_187 : (Jvm.Cond.static ({ cls := "SumNamesModel", name := "has", desc := "(II)Z" } : Jvm.MethodName)) ∈ zT := zT_5 (i := 187) (by decide +kernel) rfl
set_option maxRecDepth 100000 in
theorem tw_5_188 : (Jvm.Cond.code ({ cls := "SumNamesModel", name := "has", desc := "(II)Z" } : Jvm.MethodName) prog_9_method_3_code (2 : Nat) (Option.some Jvm.ClassFile.FieldType.boolean)) ∈ zT := zT_5 (i := 188) rfl rfl
theorem tw_5_189 : (Jvm.Cond.methodLink "SumNamesLaw" (72 : Nat) ({ cls := "SumNamesModel", name := "taker", desc := "(I)I" } : Jvm.MethodName)) ∈ zT := zT_5 (i := 189) (by decide +kernel) rfl
theorem tw_5_190 : (Jvm.Cond.instanceMethod ({ cls := "SumNamesModel", name := "taker", desc := "(I)I" } : Jvm.MethodName)) ∈ zT := zT_5 (i := 190) (by decide +kernel) rfl
theorem tw_5_191 : (Jvm.Cond.selects "SumNamesModel" ({ cls := "SumNamesModel", name := "taker", desc := "(I)I" } : Jvm.MethodName) ({ cls := "SumNamesModel", name := "taker", desc := "(I)I" } : Jvm.MethodName)) ∈ zT := zT_5 (i := 191) (by decide +kernel) rfl
set_option maxRecDepth 100000 in
theorem tw_5_192 : (Jvm.Cond.code ({ cls := "SumNamesModel", name := "taker", desc := "(I)I" } : Jvm.MethodName) prog_9_method_46_code (2 : Nat) (Option.some Jvm.ClassFile.FieldType.int)) ∈ zT := zT_5 (i := 192) rfl rfl
theorem tw_5_193 : (Jvm.Cond.methodLink "SumNamesModel" (241 : Nat) ({ cls := "SumNamesModel", name := "judge", desc := "(I)I" } : Jvm.MethodName)) ∈ zT := zT_5 (i := 193) (by decide +kernel) rfl
theorem tw_5_194 : (Jvm.Cond.methodLink "SumNamesLaw" (76 : Nat) ({ cls := "SumNamesModel", name := "names", desc := "(II)I" } : Jvm.MethodName)) ∈ zT := zT_5 (i := 194) (by decide +kernel) rfl
theorem tw_5_195 : (Jvm.Cond.instanceMethod ({ cls := "SumNamesModel", name := "names", desc := "(II)I" } : Jvm.MethodName)) ∈ zT := zT_5 (i := 195) (by decide +kernel) rfl
theorem tw_5_196 : (Jvm.Cond.selects "SumNamesModel" ({ cls := "SumNamesModel", name := "names", desc := "(II)I" } : Jvm.MethodName) ({ cls := "SumNamesModel", name := "names", desc := "(II)I" } : Jvm.MethodName)) ∈ zT := zT_5 (i := 196) (by decide +kernel) rfl
set_option maxRecDepth 100000 in
theorem tw_5_197 : (Jvm.Cond.code ({ cls := "SumNamesModel", name := "names", desc := "(II)I" } : Jvm.MethodName) prog_9_method_48_code (5 : Nat) (Option.some Jvm.ClassFile.FieldType.int)) ∈ zT := zT_5 (i := 197) rfl rfl
theorem tw_5_198 : (Jvm.Cond.methodLink "SumNamesModel" (246 : Nat) ({ cls := "SumNamesModel", name := "isDay", desc := "(I)Z" } : Jvm.MethodName)) ∈ zT := zT_5 (i := 198) (by decide +kernel) rfl
theorem tw_5_199 : (Jvm.Cond.static ({ cls := "SumNamesModel", name := "isDay", desc := "(I)Z" } : Jvm.MethodName)) ∈ zT := zT_5 (i := 199) (by decide +kernel) rfl
set_option maxRecDepth 100000 in
theorem tw_5_200 : (Jvm.Cond.code ({ cls := "SumNamesModel", name := "isDay", desc := "(I)Z" } : Jvm.MethodName) prog_9_method_47_code (1 : Nat) (Option.some Jvm.ClassFile.FieldType.boolean)) ∈ zT := zT_5 (i := 200) rfl rfl
theorem tw_5_201 : (Jvm.Cond.constantLong "SumNamesModel" (244 : Nat) (400 : Int64)) ∈ zT := zT_5 (i := 201) (by decide +kernel) rfl
theorem tw_5_202 : (Jvm.Cond.constantLong "SumNamesModel" (249 : Nat) (9 : Int64)) ∈ zT := zT_5 (i := 202) (by decide +kernel) rfl
theorem tw_5_203 : (Jvm.Cond.methodLink "SumNamesModel" (251 : Nat) ({ cls := "SumNamesModel", name := "layNames", desc := "()V" } : Jvm.MethodName)) ∈ zT := zT_5 (i := 203) (by decide +kernel) rfl
theorem tw_5_205 : (Jvm.Cond.instanceMethod ({ cls := "SumNamesModel", name := "layNames", desc := "()V" } : Jvm.MethodName)) ∈ zT := zT_5 (i := 205) (by decide +kernel) rfl
set_option maxRecDepth 100000 in
theorem tw_5_206 : (Jvm.Cond.code ({ cls := "SumNamesModel", name := "layNames", desc := "()V" } : Jvm.MethodName) prog_9_method_40_code (9 : Nat) (Option.none : Option Jvm.ClassFile.FieldType)) ∈ zT := zT_5 (i := 206) rfl rfl
theorem tw_5_207 : (Jvm.Cond.methodLink "SumNamesModel" (218 : Nat) ({ cls := "SumNamesModel", name := "addName", desc := "(J)V" } : Jvm.MethodName)) ∈ zT := zT_5 (i := 207) (by decide +kernel) rfl
theorem tw_5_209 : (Jvm.Cond.instanceMethod ({ cls := "SumNamesModel", name := "addName", desc := "(J)V" } : Jvm.MethodName)) ∈ zT := zT_5 (i := 209) (by decide +kernel) rfl
set_option maxRecDepth 100000 in
theorem tw_5_210 : (Jvm.Cond.code ({ cls := "SumNamesModel", name := "addName", desc := "(J)V" } : Jvm.MethodName) prog_9_method_39_code (5 : Nat) (Option.none : Option Jvm.ClassFile.FieldType)) ∈ zT := zT_5 (i := 210) rfl rfl
theorem tw_5_211 : (Jvm.Cond.methodLink "SumNamesLaw" (81 : Nat) ({ cls := "SumNamesModel", name := "which", desc := "(II)J" } : Jvm.MethodName)) ∈ zT := zT_5 (i := 211) (by decide +kernel) rfl
theorem tw_5_212 : (Jvm.Cond.instanceMethod ({ cls := "SumNamesModel", name := "which", desc := "(II)J" } : Jvm.MethodName)) ∈ zT := zT_5 (i := 212) (by decide +kernel) rfl
theorem tw_5_213 : (Jvm.Cond.selects "SumNamesModel" ({ cls := "SumNamesModel", name := "which", desc := "(II)J" } : Jvm.MethodName) ({ cls := "SumNamesModel", name := "which", desc := "(II)J" } : Jvm.MethodName)) ∈ zT := zT_5 (i := 213) (by decide +kernel) rfl
set_option maxRecDepth 100000 in
theorem tw_5_214 : (Jvm.Cond.code ({ cls := "SumNamesModel", name := "which", desc := "(II)J" } : Jvm.MethodName) prog_9_method_49_code (5 : Nat) (Option.some Jvm.ClassFile.FieldType.long)) ∈ zT := zT_5 (i := 214) rfl rfl
theorem tw_5_215 : (Jvm.Cond.constantLong "SumNamesModel" (254 : Nat) (-3 : Int64)) ∈ zT := zT_5 (i := 215) (by decide +kernel) rfl
theorem tw_5_216 : (Jvm.Cond.methodLink "SumNamesLaw" (85 : Nat) ({ cls := "SumNamesModel", name := "free", desc := "(II)J" } : Jvm.MethodName)) ∈ zT := zT_5 (i := 216) (by decide +kernel) rfl
theorem tw_5_217 : (Jvm.Cond.instanceMethod ({ cls := "SumNamesModel", name := "free", desc := "(II)J" } : Jvm.MethodName)) ∈ zT := zT_5 (i := 217) (by decide +kernel) rfl
theorem tw_5_218 : (Jvm.Cond.selects "SumNamesModel" ({ cls := "SumNamesModel", name := "free", desc := "(II)J" } : Jvm.MethodName) ({ cls := "SumNamesModel", name := "free", desc := "(II)J" } : Jvm.MethodName)) ∈ zT := zT_5 (i := 218) (by decide +kernel) rfl
set_option maxRecDepth 100000 in
theorem tw_5_219 : (Jvm.Cond.code ({ cls := "SumNamesModel", name := "free", desc := "(II)J" } : Jvm.MethodName) prog_9_method_51_code (6 : Nat) (Option.some Jvm.ClassFile.FieldType.long)) ∈ zT := zT_5 (i := 219) rfl rfl
theorem tw_5_220 : (Jvm.Cond.methodLink "SumNamesModel" (256 : Nat) ({ cls := "SumNamesModel", name := "isFree", desc := "(JI)Z" } : Jvm.MethodName)) ∈ zT := zT_5 (i := 220) (by decide +kernel) rfl
theorem tw_5_222 : (Jvm.Cond.instanceMethod ({ cls := "SumNamesModel", name := "isFree", desc := "(JI)Z" } : Jvm.MethodName)) ∈ zT := zT_5 (i := 222) (by decide +kernel) rfl
set_option maxRecDepth 100000 in
theorem tw_5_223 : (Jvm.Cond.code ({ cls := "SumNamesModel", name := "isFree", desc := "(JI)Z" } : Jvm.MethodName) prog_9_method_50_code (6 : Nat) (Option.some Jvm.ClassFile.FieldType.boolean)) ∈ zT := zT_5 (i := 223) rfl rfl
theorem tw_5_224 : (Jvm.Cond.methodLink "SumNamesLaw" (90 : Nat) ({ cls := "SumNamesModel", name := "hopes", desc := "(III)J" } : Jvm.MethodName)) ∈ zT := zT_5 (i := 224) (by decide +kernel) rfl
theorem tw_5_225 : (Jvm.Cond.instanceMethod ({ cls := "SumNamesModel", name := "hopes", desc := "(III)J" } : Jvm.MethodName)) ∈ zT := zT_5 (i := 225) (by decide +kernel) rfl
theorem tw_5_226 : (Jvm.Cond.selects "SumNamesModel" ({ cls := "SumNamesModel", name := "hopes", desc := "(III)J" } : Jvm.MethodName) ({ cls := "SumNamesModel", name := "hopes", desc := "(III)J" } : Jvm.MethodName)) ∈ zT := zT_5 (i := 226) (by decide +kernel) rfl
set_option maxRecDepth 100000 in
theorem tw_5_227 : (Jvm.Cond.code ({ cls := "SumNamesModel", name := "hopes", desc := "(III)J" } : Jvm.MethodName) prog_9_method_54_code (13 : Nat) (Option.some Jvm.ClassFile.FieldType.long)) ∈ zT := zT_5 (i := 227) rfl rfl
theorem tw_5_228 : (Jvm.Cond.constantLong "SumNamesModel" (259 : Nat) (10 : Int64)) ∈ zT := zT_5 (i := 228) (by decide +kernel) rfl
theorem tw_5_229 : (Jvm.Cond.methodLink "SumNamesModel" (261 : Nat) ({ cls := "SumNamesModel", name := "allNamed", desc := "(I)Z" } : Jvm.MethodName)) ∈ zT := zT_5 (i := 229) (by decide +kernel) rfl
theorem tw_5_231 : (Jvm.Cond.instanceMethod ({ cls := "SumNamesModel", name := "allNamed", desc := "(I)Z" } : Jvm.MethodName)) ∈ zT := zT_5 (i := 231) (by decide +kernel) rfl
set_option maxRecDepth 100000 in
theorem tw_5_232 : (Jvm.Cond.code ({ cls := "SumNamesModel", name := "allNamed", desc := "(I)Z" } : Jvm.MethodName) prog_9_method_53_code (6 : Nat) (Option.some Jvm.ClassFile.FieldType.boolean)) ∈ zT := zT_5 (i := 232) rfl rfl
theorem tw_5_233 : (Jvm.Cond.methodLink "SumNamesModel" (264 : Nat) ({ cls := "SumNamesModel", name := "divisor", desc := "(JJ)J" } : Jvm.MethodName)) ∈ zT := zT_5 (i := 233) (by decide +kernel) rfl
theorem tw_5_234 : (Jvm.Cond.static ({ cls := "SumNamesModel", name := "divisor", desc := "(JJ)J" } : Jvm.MethodName)) ∈ zT := zT_5 (i := 234) (by decide +kernel) rfl
set_option maxRecDepth 100000 in
theorem tw_5_235 : (Jvm.Cond.code ({ cls := "SumNamesModel", name := "divisor", desc := "(JJ)J" } : Jvm.MethodName) prog_9_method_52_code (10 : Nat) (Option.some Jvm.ClassFile.FieldType.long)) ∈ zT := zT_5 (i := 235) rfl rfl
theorem tw_5_236 : (Jvm.Cond.methodLink "SumNamesLaw" (95 : Nat) ({ cls := "SumNamesModel", name := "without", desc := "(III)I" } : Jvm.MethodName)) ∈ zT := zT_5 (i := 236) (by decide +kernel) rfl
theorem tw_5_237 : (Jvm.Cond.instanceMethod ({ cls := "SumNamesModel", name := "without", desc := "(III)I" } : Jvm.MethodName)) ∈ zT := zT_5 (i := 237) (by decide +kernel) rfl
theorem tw_5_238 : (Jvm.Cond.selects "SumNamesModel" ({ cls := "SumNamesModel", name := "without", desc := "(III)I" } : Jvm.MethodName) ({ cls := "SumNamesModel", name := "without", desc := "(III)I" } : Jvm.MethodName)) ∈ zT := zT_5 (i := 238) (by decide +kernel) rfl
set_option maxRecDepth 100000 in
theorem tw_5_239 : (Jvm.Cond.code ({ cls := "SumNamesModel", name := "without", desc := "(III)I" } : Jvm.MethodName) prog_9_method_60_code (4 : Nat) (Option.some Jvm.ClassFile.FieldType.int)) ∈ zT := zT_5 (i := 239) rfl rfl
theorem tw_6_0 : (Jvm.Cond.methodLink "SumNamesModel" (276 : Nat) ({ cls := "SumNamesModel", name := "areDays", desc := "(II)Z" } : Jvm.MethodName)) ∈ zT := zT_6 (i := 0) (by decide +kernel) rfl
theorem tw_6_1 : (Jvm.Cond.static ({ cls := "SumNamesModel", name := "areDays", desc := "(II)Z" } : Jvm.MethodName)) ∈ zT := zT_6 (i := 1) (by decide +kernel) rfl
set_option maxRecDepth 100000 in
theorem tw_6_2 : (Jvm.Cond.code ({ cls := "SumNamesModel", name := "areDays", desc := "(II)Z" } : Jvm.MethodName) prog_9_method_59_code (2 : Nat) (Option.some Jvm.ClassFile.FieldType.boolean)) ∈ zT := zT_6 (i := 2) rfl rfl
theorem tw_6_3 : (Jvm.Cond.methodLink "SumNamesModel" (279 : Nat) ({ cls := "SumNamesModel", name := "laySums", desc := "()V" } : Jvm.MethodName)) ∈ zT := zT_6 (i := 3) (by decide +kernel) rfl
theorem tw_6_5 : (Jvm.Cond.instanceMethod ({ cls := "SumNamesModel", name := "laySums", desc := "()V" } : Jvm.MethodName)) ∈ zT := zT_6 (i := 5) (by decide +kernel) rfl
set_option maxRecDepth 100000 in
theorem tw_6_6 : (Jvm.Cond.code ({ cls := "SumNamesModel", name := "laySums", desc := "()V" } : Jvm.MethodName) prog_9_method_57_code (2 : Nat) (Option.none : Option Jvm.ClassFile.FieldType)) ∈ zT := zT_6 (i := 6) rfl rfl
theorem tw_6_7 : (Jvm.Cond.methodLink "SumNamesModel" (273 : Nat) ({ cls := "SumNamesModel", name := "layNamed", desc := "()V" } : Jvm.MethodName)) ∈ zT := zT_6 (i := 7) (by decide +kernel) rfl
theorem tw_6_9 : (Jvm.Cond.instanceMethod ({ cls := "SumNamesModel", name := "layNamed", desc := "()V" } : Jvm.MethodName)) ∈ zT := zT_6 (i := 9) (by decide +kernel) rfl
set_option maxRecDepth 100000 in
theorem tw_6_10 : (Jvm.Cond.code ({ cls := "SumNamesModel", name := "layNamed", desc := "()V" } : Jvm.MethodName) prog_9_method_56_code (4 : Nat) (Option.none : Option Jvm.ClassFile.FieldType)) ∈ zT := zT_6 (i := 10) rfl rfl
theorem tw_6_11 : (Jvm.Cond.methodLink "SumNamesModel" (270 : Nat) ({ cls := "SumNamesModel", name := "mark", desc := "(I)V" } : Jvm.MethodName)) ∈ zT := zT_6 (i := 11) (by decide +kernel) rfl
theorem tw_6_13 : (Jvm.Cond.instanceMethod ({ cls := "SumNamesModel", name := "mark", desc := "(I)V" } : Jvm.MethodName)) ∈ zT := zT_6 (i := 13) (by decide +kernel) rfl
set_option maxRecDepth 100000 in
theorem tw_6_14 : (Jvm.Cond.code ({ cls := "SumNamesModel", name := "mark", desc := "(I)V" } : Jvm.MethodName) prog_9_method_55_code (2 : Nat) (Option.none : Option Jvm.ClassFile.FieldType)) ∈ zT := zT_6 (i := 14) rfl rfl
theorem tw_6_15 : (Jvm.Cond.methodLink "SumNamesModel" (282 : Nat) ({ cls := "SumNamesModel", name := "bare", desc := "(IIZ)I" } : Jvm.MethodName)) ∈ zT := zT_6 (i := 15) (by decide +kernel) rfl
theorem tw_6_17 : (Jvm.Cond.instanceMethod ({ cls := "SumNamesModel", name := "bare", desc := "(IIZ)I" } : Jvm.MethodName)) ∈ zT := zT_6 (i := 17) (by decide +kernel) rfl
set_option maxRecDepth 100000 in
theorem tw_6_18 : (Jvm.Cond.code ({ cls := "SumNamesModel", name := "bare", desc := "(IIZ)I" } : Jvm.MethodName) prog_9_method_58_code (6 : Nat) (Option.some Jvm.ClassFile.FieldType.int)) ∈ zT := zT_6 (i := 18) rfl rfl
theorem tw_6_19 : (Jvm.Cond.methodLink "SumNamesLaw" (99 : Nat) ({ cls := "SumNamesModel", name := "mend", desc := "(II)J" } : Jvm.MethodName)) ∈ zT := zT_6 (i := 19) (by decide +kernel) rfl
theorem tw_6_20 : (Jvm.Cond.instanceMethod ({ cls := "SumNamesModel", name := "mend", desc := "(II)J" } : Jvm.MethodName)) ∈ zT := zT_6 (i := 20) (by decide +kernel) rfl
theorem tw_6_21 : (Jvm.Cond.selects "SumNamesModel" ({ cls := "SumNamesModel", name := "mend", desc := "(II)J" } : Jvm.MethodName) ({ cls := "SumNamesModel", name := "mend", desc := "(II)J" } : Jvm.MethodName)) ∈ zT := zT_6 (i := 21) (by decide +kernel) rfl
set_option maxRecDepth 100000 in
theorem tw_6_22 : (Jvm.Cond.code ({ cls := "SumNamesModel", name := "mend", desc := "(II)J" } : Jvm.MethodName) prog_9_method_62_code (6 : Nat) (Option.some Jvm.ClassFile.FieldType.long)) ∈ zT := zT_6 (i := 22) rfl rfl
theorem tw_6_23 : (Jvm.Cond.constantLong "SumNamesModel" (286 : Nat) (-4 : Int64)) ∈ zT := zT_6 (i := 23) (by decide +kernel) rfl
theorem tw_6_24 : (Jvm.Cond.constantLong "SumNamesModel" (288 : Nat) (729 : Int64)) ∈ zT := zT_6 (i := 24) (by decide +kernel) rfl
theorem tw_6_25 : (Jvm.Cond.methodLink "SumNamesModel" (290 : Nat) ({ cls := "SumNamesModel", name := "isSyl", desc := "(J)Z" } : Jvm.MethodName)) ∈ zT := zT_6 (i := 25) (by decide +kernel) rfl
theorem tw_6_27 : (Jvm.Cond.instanceMethod ({ cls := "SumNamesModel", name := "isSyl", desc := "(J)Z" } : Jvm.MethodName)) ∈ zT := zT_6 (i := 27) (by decide +kernel) rfl
set_option maxRecDepth 100000 in
theorem tw_6_28 : (Jvm.Cond.code ({ cls := "SumNamesModel", name := "isSyl", desc := "(J)Z" } : Jvm.MethodName) prog_9_method_61_code (5 : Nat) (Option.some Jvm.ClassFile.FieldType.boolean)) ∈ zT := zT_6 (i := 28) rfl rfl
theorem tw_6_29 : (Jvm.Cond.methodLink "SumNamesLaw" (103 : Nat) ({ cls := "SumNamesModel", name := "old", desc := "(II)I" } : Jvm.MethodName)) ∈ zT := zT_6 (i := 29) (by decide +kernel) rfl
theorem tw_6_30 : (Jvm.Cond.instanceMethod ({ cls := "SumNamesModel", name := "old", desc := "(II)I" } : Jvm.MethodName)) ∈ zT := zT_6 (i := 30) (by decide +kernel) rfl
theorem tw_6_31 : (Jvm.Cond.selects "SumNamesModel" ({ cls := "SumNamesModel", name := "old", desc := "(II)I" } : Jvm.MethodName) ({ cls := "SumNamesModel", name := "old", desc := "(II)I" } : Jvm.MethodName)) ∈ zT := zT_6 (i := 31) (by decide +kernel) rfl
set_option maxRecDepth 100000 in
theorem tw_6_32 : (Jvm.Cond.code ({ cls := "SumNamesModel", name := "old", desc := "(II)I" } : Jvm.MethodName) prog_9_method_66_code (9 : Nat) (Option.some Jvm.ClassFile.FieldType.int)) ∈ zT := zT_6 (i := 32) rfl rfl
theorem tw_6_33 : (Jvm.Cond.methodLink "SumNamesModel" (296 : Nat) ({ cls := "SumNamesModel", name := "layUsed", desc := "()Z" } : Jvm.MethodName)) ∈ zT := zT_6 (i := 33) (by decide +kernel) rfl
theorem tw_6_35 : (Jvm.Cond.instanceMethod ({ cls := "SumNamesModel", name := "layUsed", desc := "()Z" } : Jvm.MethodName)) ∈ zT := zT_6 (i := 35) (by decide +kernel) rfl
set_option maxRecDepth 100000 in
theorem tw_6_36 : (Jvm.Cond.code ({ cls := "SumNamesModel", name := "layUsed", desc := "()Z" } : Jvm.MethodName) prog_9_method_63_code (5 : Nat) (Option.some Jvm.ClassFile.FieldType.boolean)) ∈ zT := zT_6 (i := 36) rfl rfl
theorem tw_6_37 : (Jvm.Cond.methodLink "SumNamesModel" (299 : Nat) ({ cls := "SumNamesModel", name := "figure", desc := "(III)I" } : Jvm.MethodName)) ∈ zT := zT_6 (i := 37) (by decide +kernel) rfl
theorem tw_6_39 : (Jvm.Cond.instanceMethod ({ cls := "SumNamesModel", name := "figure", desc := "(III)I" } : Jvm.MethodName)) ∈ zT := zT_6 (i := 39) (by decide +kernel) rfl
set_option maxRecDepth 100000 in
theorem tw_6_40 : (Jvm.Cond.code ({ cls := "SumNamesModel", name := "figure", desc := "(III)I" } : Jvm.MethodName) prog_9_method_65_code (6 : Nat) (Option.some Jvm.ClassFile.FieldType.int)) ∈ zT := zT_6 (i := 40) rfl rfl
theorem tw_6_41 : (Jvm.Cond.methodLink "SumNamesModel" (303 : Nat) ({ cls := "SumNamesModel", name := "allAdd", desc := "()Z" } : Jvm.MethodName)) ∈ zT := zT_6 (i := 41) (by decide +kernel) rfl
theorem tw_6_43 : (Jvm.Cond.instanceMethod ({ cls := "SumNamesModel", name := "allAdd", desc := "()Z" } : Jvm.MethodName)) ∈ zT := zT_6 (i := 43) (by decide +kernel) rfl
set_option maxRecDepth 100000 in
theorem tw_6_44 : (Jvm.Cond.code ({ cls := "SumNamesModel", name := "allAdd", desc := "()Z" } : Jvm.MethodName) prog_9_method_64_code (6 : Nat) (Option.some Jvm.ClassFile.FieldType.boolean)) ∈ zT := zT_6 (i := 44) rfl rfl
theorem tw_6_45 : (Jvm.Cond.methodLink "SumNamesLaw" (107 : Nat) ({ cls := "SumNamesModel", name := "reform", desc := "(II)I" } : Jvm.MethodName)) ∈ zT := zT_6 (i := 45) (by decide +kernel) rfl
theorem tw_6_46 : (Jvm.Cond.instanceMethod ({ cls := "SumNamesModel", name := "reform", desc := "(II)I" } : Jvm.MethodName)) ∈ zT := zT_6 (i := 46) (by decide +kernel) rfl
theorem tw_6_47 : (Jvm.Cond.selects "SumNamesModel" ({ cls := "SumNamesModel", name := "reform", desc := "(II)I" } : Jvm.MethodName) ({ cls := "SumNamesModel", name := "reform", desc := "(II)I" } : Jvm.MethodName)) ∈ zT := zT_6 (i := 47) (by decide +kernel) rfl
set_option maxRecDepth 100000 in
theorem tw_6_48 : (Jvm.Cond.code ({ cls := "SumNamesModel", name := "reform", desc := "(II)I" } : Jvm.MethodName) prog_9_method_69_code (10 : Nat) (Option.some Jvm.ClassFile.FieldType.int)) ∈ zT := zT_6 (i := 48) rfl rfl
theorem tw_6_49 : (Jvm.Cond.constantLong "SumNamesModel" (310 : Nat) (2 : Int64)) ∈ zT := zT_6 (i := 49) (by decide +kernel) rfl
theorem tw_6_50 : (Jvm.Cond.methodLink "SumNamesModel" (306 : Nat) ({ cls := "SumNamesModel", name := "timesIn", desc := "(JI)I" } : Jvm.MethodName)) ∈ zT := zT_6 (i := 50) (by decide +kernel) rfl
theorem tw_6_51 : (Jvm.Cond.static ({ cls := "SumNamesModel", name := "timesIn", desc := "(JI)I" } : Jvm.MethodName)) ∈ zT := zT_6 (i := 51) (by decide +kernel) rfl
set_option maxRecDepth 100000 in
theorem tw_6_52 : (Jvm.Cond.code ({ cls := "SumNamesModel", name := "timesIn", desc := "(JI)I" } : Jvm.MethodName) prog_9_method_67_code (6 : Nat) (Option.some Jvm.ClassFile.FieldType.int)) ∈ zT := zT_6 (i := 52) rfl rfl
theorem tw_6_53 : (Jvm.Cond.methodLink "SumNamesModel" (312 : Nat) ({ cls := "SumNamesModel", name := "anew", desc := "(III)I" } : Jvm.MethodName)) ∈ zT := zT_6 (i := 53) (by decide +kernel) rfl
theorem tw_6_55 : (Jvm.Cond.instanceMethod ({ cls := "SumNamesModel", name := "anew", desc := "(III)I" } : Jvm.MethodName)) ∈ zT := zT_6 (i := 55) (by decide +kernel) rfl
set_option maxRecDepth 100000 in
theorem tw_6_56 : (Jvm.Cond.code ({ cls := "SumNamesModel", name := "anew", desc := "(III)I" } : Jvm.MethodName) prog_9_method_68_code (7 : Nat) (Option.some Jvm.ClassFile.FieldType.int)) ∈ zT := zT_6 (i := 56) rfl rfl
theorem tw_6_57 : (Jvm.Cond.methodLink "SumNamesLaw" (111 : Nat) ({ cls := "SumNamesModel", name := "nicknames", desc := "(II)J" } : Jvm.MethodName)) ∈ zT := zT_6 (i := 57) (by decide +kernel) rfl
theorem tw_6_58 : (Jvm.Cond.instanceMethod ({ cls := "SumNamesModel", name := "nicknames", desc := "(II)J" } : Jvm.MethodName)) ∈ zT := zT_6 (i := 58) (by decide +kernel) rfl
theorem tw_6_59 : (Jvm.Cond.selects "SumNamesModel" ({ cls := "SumNamesModel", name := "nicknames", desc := "(II)J" } : Jvm.MethodName) ({ cls := "SumNamesModel", name := "nicknames", desc := "(II)J" } : Jvm.MethodName)) ∈ zT := zT_6 (i := 59) (by decide +kernel) rfl
set_option maxRecDepth 100000 in
theorem tw_6_60 : (Jvm.Cond.code ({ cls := "SumNamesModel", name := "nicknames", desc := "(II)J" } : Jvm.MethodName) prog_9_method_70_code (16 : Nat) (Option.some Jvm.ClassFile.FieldType.long)) ∈ zT := zT_6 (i := 60) rfl rfl
theorem tw_6_61 : (Jvm.Cond.methodLink "SumNamesLaw" (115 : Nat) ({ cls := "SumNamesModel", name := "page", desc := "(III)I" } : Jvm.MethodName)) ∈ zT := zT_6 (i := 61) (by decide +kernel) rfl
theorem tw_6_62 : (Jvm.Cond.instanceMethod ({ cls := "SumNamesModel", name := "page", desc := "(III)I" } : Jvm.MethodName)) ∈ zT := zT_6 (i := 62) (by decide +kernel) rfl
theorem tw_6_63 : (Jvm.Cond.selects "SumNamesModel" ({ cls := "SumNamesModel", name := "page", desc := "(III)I" } : Jvm.MethodName) ({ cls := "SumNamesModel", name := "page", desc := "(III)I" } : Jvm.MethodName)) ∈ zT := zT_6 (i := 63) (by decide +kernel) rfl
set_option maxRecDepth 100000 in
theorem tw_6_64 : (Jvm.Cond.code ({ cls := "SumNamesModel", name := "page", desc := "(III)I" } : Jvm.MethodName) prog_9_method_71_code (13 : Nat) (Option.some Jvm.ClassFile.FieldType.int)) ∈ zT := zT_6 (i := 64) rfl rfl
theorem tw_6_65 : (Jvm.Cond.constantLong "SumNamesModel" (315 : Nat) (9999 : Int64)) ∈ zT := zT_6 (i := 65) (by decide +kernel) rfl
theorem tw_6_66 : (Jvm.Cond.methodLink "SumNamesLaw" (119 : Nat) ({ cls := "SumNamesModel", name := "sheet", desc := "(III)I" } : Jvm.MethodName)) ∈ zT := zT_6 (i := 66) (by decide +kernel) rfl
theorem tw_6_67 : (Jvm.Cond.instanceMethod ({ cls := "SumNamesModel", name := "sheet", desc := "(III)I" } : Jvm.MethodName)) ∈ zT := zT_6 (i := 67) (by decide +kernel) rfl
theorem tw_6_68 : (Jvm.Cond.selects "SumNamesModel" ({ cls := "SumNamesModel", name := "sheet", desc := "(III)I" } : Jvm.MethodName) ({ cls := "SumNamesModel", name := "sheet", desc := "(III)I" } : Jvm.MethodName)) ∈ zT := zT_6 (i := 68) (by decide +kernel) rfl
set_option maxRecDepth 100000 in
theorem tw_6_69 : (Jvm.Cond.code ({ cls := "SumNamesModel", name := "sheet", desc := "(III)I" } : Jvm.MethodName) prog_9_method_73_code (5 : Nat) (Option.some Jvm.ClassFile.FieldType.int)) ∈ zT := zT_6 (i := 69) rfl rfl
theorem tw_6_70 : (Jvm.Cond.methodLink "SumNamesModel" (317 : Nat) ({ cls := "SumNamesModel", name := "isSheet", desc := "(I)Z" } : Jvm.MethodName)) ∈ zT := zT_6 (i := 70) (by decide +kernel) rfl
theorem tw_6_71 : (Jvm.Cond.static ({ cls := "SumNamesModel", name := "isSheet", desc := "(I)Z" } : Jvm.MethodName)) ∈ zT := zT_6 (i := 71) (by decide +kernel) rfl
set_option maxRecDepth 100000 in
theorem tw_6_72 : (Jvm.Cond.code ({ cls := "SumNamesModel", name := "isSheet", desc := "(I)Z" } : Jvm.MethodName) prog_9_method_72_code (1 : Nat) (Option.some Jvm.ClassFile.FieldType.boolean)) ∈ zT := zT_6 (i := 72) rfl rfl
theorem tw_6_73 : (Jvm.Cond.methodLink "SumNamesLaw" (123 : Nat) ({ cls := "SumNamesModel", name := "tear", desc := "(I)I" } : Jvm.MethodName)) ∈ zT := zT_6 (i := 73) (by decide +kernel) rfl
theorem tw_6_74 : (Jvm.Cond.instanceMethod ({ cls := "SumNamesModel", name := "tear", desc := "(I)I" } : Jvm.MethodName)) ∈ zT := zT_6 (i := 74) (by decide +kernel) rfl
theorem tw_6_75 : (Jvm.Cond.selects "SumNamesModel" ({ cls := "SumNamesModel", name := "tear", desc := "(I)I" } : Jvm.MethodName) ({ cls := "SumNamesModel", name := "tear", desc := "(I)I" } : Jvm.MethodName)) ∈ zT := zT_6 (i := 75) (by decide +kernel) rfl
set_option maxRecDepth 100000 in
theorem tw_6_76 : (Jvm.Cond.code ({ cls := "SumNamesModel", name := "tear", desc := "(I)I" } : Jvm.MethodName) prog_9_method_74_code (2 : Nat) (Option.some Jvm.ClassFile.FieldType.int)) ∈ zT := zT_6 (i := 76) rfl rfl
theorem tw_6_77 : (Jvm.Cond.methodLink "SumNamesLaw" (127 : Nat) ({ cls := "SumNamesModel", name := "lay", desc := "(III)I" } : Jvm.MethodName)) ∈ zT := zT_6 (i := 77) (by decide +kernel) rfl
theorem tw_6_78 : (Jvm.Cond.instanceMethod ({ cls := "SumNamesModel", name := "lay", desc := "(III)I" } : Jvm.MethodName)) ∈ zT := zT_6 (i := 78) (by decide +kernel) rfl
theorem tw_6_79 : (Jvm.Cond.selects "SumNamesModel" ({ cls := "SumNamesModel", name := "lay", desc := "(III)I" } : Jvm.MethodName) ({ cls := "SumNamesModel", name := "lay", desc := "(III)I" } : Jvm.MethodName)) ∈ zT := zT_6 (i := 79) (by decide +kernel) rfl
set_option maxRecDepth 100000 in
theorem tw_6_80 : (Jvm.Cond.code ({ cls := "SumNamesModel", name := "lay", desc := "(III)I" } : Jvm.MethodName) prog_9_method_75_code (4 : Nat) (Option.some Jvm.ClassFile.FieldType.int)) ∈ zT := zT_6 (i := 80) rfl rfl
theorem tw_6_81 : (Jvm.Cond.methodLink "SumNamesLaw" (132 : Nat) ({ cls := "SumNamesModel", name := "copy", desc := "(IIIII)I" } : Jvm.MethodName)) ∈ zT := zT_6 (i := 81) (by decide +kernel) rfl
theorem tw_6_82 : (Jvm.Cond.instanceMethod ({ cls := "SumNamesModel", name := "copy", desc := "(IIIII)I" } : Jvm.MethodName)) ∈ zT := zT_6 (i := 82) (by decide +kernel) rfl
theorem tw_6_83 : (Jvm.Cond.selects "SumNamesModel" ({ cls := "SumNamesModel", name := "copy", desc := "(IIIII)I" } : Jvm.MethodName) ({ cls := "SumNamesModel", name := "copy", desc := "(IIIII)I" } : Jvm.MethodName)) ∈ zT := zT_6 (i := 83) (by decide +kernel) rfl
set_option maxRecDepth 100000 in
theorem tw_6_84 : (Jvm.Cond.code ({ cls := "SumNamesModel", name := "copy", desc := "(IIIII)I" } : Jvm.MethodName) prog_9_method_76_code (8 : Nat) (Option.some Jvm.ClassFile.FieldType.int)) ∈ zT := zT_6 (i := 84) rfl rfl
theorem tw_6_85 : (Jvm.Cond.methodLink "SumNamesLaw" (136 : Nat) ({ cls := "SumNamesModel", name := "hope", desc := "(IIIII)I" } : Jvm.MethodName)) ∈ zT := zT_6 (i := 85) (by decide +kernel) rfl
theorem tw_6_86 : (Jvm.Cond.instanceMethod ({ cls := "SumNamesModel", name := "hope", desc := "(IIIII)I" } : Jvm.MethodName)) ∈ zT := zT_6 (i := 86) (by decide +kernel) rfl
theorem tw_6_87 : (Jvm.Cond.selects "SumNamesModel" ({ cls := "SumNamesModel", name := "hope", desc := "(IIIII)I" } : Jvm.MethodName) ({ cls := "SumNamesModel", name := "hope", desc := "(IIIII)I" } : Jvm.MethodName)) ∈ zT := zT_6 (i := 87) (by decide +kernel) rfl
set_option maxRecDepth 100000 in
theorem tw_6_88 : (Jvm.Cond.code ({ cls := "SumNamesModel", name := "hope", desc := "(IIIII)I" } : Jvm.MethodName) prog_9_method_77_code (8 : Nat) (Option.some Jvm.ClassFile.FieldType.int)) ∈ zT := zT_6 (i := 88) rfl rfl
theorem tw_6_89 : (Jvm.Cond.constantLong "SumNamesModel" (320 : Nat) (6 : Int64)) ∈ zT := zT_6 (i := 89) (by decide +kernel) rfl
theorem tw_6_90 : (Jvm.Cond.methodLink "SumNamesLaw" (140 : Nat) ({ cls := "SumNamesModel", name := "keep", desc := "(I)I" } : Jvm.MethodName)) ∈ zT := zT_6 (i := 90) (by decide +kernel) rfl
theorem tw_6_91 : (Jvm.Cond.instanceMethod ({ cls := "SumNamesModel", name := "keep", desc := "(I)I" } : Jvm.MethodName)) ∈ zT := zT_6 (i := 91) (by decide +kernel) rfl
theorem tw_6_92 : (Jvm.Cond.selects "SumNamesModel" ({ cls := "SumNamesModel", name := "keep", desc := "(I)I" } : Jvm.MethodName) ({ cls := "SumNamesModel", name := "keep", desc := "(I)I" } : Jvm.MethodName)) ∈ zT := zT_6 (i := 92) (by decide +kernel) rfl
set_option maxRecDepth 100000 in
theorem tw_6_93 : (Jvm.Cond.code ({ cls := "SumNamesModel", name := "keep", desc := "(I)I" } : Jvm.MethodName) prog_9_method_79_code (2 : Nat) (Option.some Jvm.ClassFile.FieldType.int)) ∈ zT := zT_6 (i := 93) rfl rfl
theorem tw_6_94 : (Jvm.Cond.methodLink "SumNamesModel" (322 : Nat) ({ cls := "SumNamesModel", name := "move", desc := "(II)V" } : Jvm.MethodName)) ∈ zT := zT_6 (i := 94) (by decide +kernel) rfl
theorem tw_6_96 : (Jvm.Cond.instanceMethod ({ cls := "SumNamesModel", name := "move", desc := "(II)V" } : Jvm.MethodName)) ∈ zT := zT_6 (i := 96) (by decide +kernel) rfl
set_option maxRecDepth 100000 in
theorem tw_6_97 : (Jvm.Cond.code ({ cls := "SumNamesModel", name := "move", desc := "(II)V" } : Jvm.MethodName) prog_9_method_78_code (4 : Nat) (Option.none : Option Jvm.ClassFile.FieldType)) ∈ zT := zT_6 (i := 97) rfl rfl
theorem tw_6_98 : (Jvm.Cond.methodLink "SumNamesLaw" (144 : Nat) ({ cls := "SumNamesModel", name := "back", desc := "(I)I" } : Jvm.MethodName)) ∈ zT := zT_6 (i := 98) (by decide +kernel) rfl
theorem tw_6_99 : (Jvm.Cond.instanceMethod ({ cls := "SumNamesModel", name := "back", desc := "(I)I" } : Jvm.MethodName)) ∈ zT := zT_6 (i := 99) (by decide +kernel) rfl
theorem tw_6_100 : (Jvm.Cond.selects "SumNamesModel" ({ cls := "SumNamesModel", name := "back", desc := "(I)I" } : Jvm.MethodName) ({ cls := "SumNamesModel", name := "back", desc := "(I)I" } : Jvm.MethodName)) ∈ zT := zT_6 (i := 100) (by decide +kernel) rfl
set_option maxRecDepth 100000 in
theorem tw_6_101 : (Jvm.Cond.code ({ cls := "SumNamesModel", name := "back", desc := "(I)I" } : Jvm.MethodName) prog_9_method_80_code (2 : Nat) (Option.some Jvm.ClassFile.FieldType.int)) ∈ zT := zT_6 (i := 101) rfl rfl
theorem tw_6_102 : (Jvm.Cond.methodLink "SumNamesLaw" (148 : Nat) ({ cls := "SumNamesModel", name := "count", desc := "(I)I" } : Jvm.MethodName)) ∈ zT := zT_6 (i := 102) (by decide +kernel) rfl
theorem tw_6_103 : (Jvm.Cond.instanceMethod ({ cls := "SumNamesModel", name := "count", desc := "(I)I" } : Jvm.MethodName)) ∈ zT := zT_6 (i := 103) (by decide +kernel) rfl
theorem tw_6_104 : (Jvm.Cond.selects "SumNamesModel" ({ cls := "SumNamesModel", name := "count", desc := "(I)I" } : Jvm.MethodName) ({ cls := "SumNamesModel", name := "count", desc := "(I)I" } : Jvm.MethodName)) ∈ zT := zT_6 (i := 104) (by decide +kernel) rfl
set_option maxRecDepth 100000 in
theorem tw_6_105 : (Jvm.Cond.code ({ cls := "SumNamesModel", name := "count", desc := "(I)I" } : Jvm.MethodName) prog_9_method_81_code (2 : Nat) (Option.some Jvm.ClassFile.FieldType.int)) ∈ zT := zT_6 (i := 105) rfl rfl
theorem tw_6_106 : (Jvm.Cond.constantLong "SumNamesLaw" (13 : Nat) (4294967295 : Int64)) ∈ zT := zT_6 (i := 106) (by decide +kernel) rfl
theorem tw_6_107 : (Jvm.Cond.fieldLink "java/lang/String" (9 : Nat) "java/lang/String" "value" "[B") ∈ zT := zT_6 (i := 107) (by decide +kernel) rfl
theorem tw_6_108 : (Jvm.Cond.fieldLink "java/lang/String" (15 : Nat) "java/lang/String" "coder" "B") ∈ zT := zT_6 (i := 108) (by decide +kernel) rfl
theorem ts_X3_readLine : Cond.selects RX3 yX3_readLine yX3_readLine ∈ zT := zT_s1 (q := (yX3_readLine, 11)) (i := 0) (by decide +kernel)
theorem ts_X3_readToken : Cond.selects RX3 yX3_readToken yX3_readToken ∈ zT := zT_s1 (q := (yX3_readToken, 11)) (i := 1) (by decide +kernel)
theorem ts_X3_kindAt : Cond.selects RX3 yX3_kindAt yX3_kindAt ∈ zT := zT_s1 (q := (yX3_kindAt, 11)) (i := 2) (by decide +kernel)
theorem ts_X3_valueWith : Cond.selects RX3 yX3_valueWith yX3_valueWith ∈ zT := zT_s1 (q := (yX3_valueWith, 11)) (i := 3) (by decide +kernel)
theorem ts_X3_says : Cond.selects RX3 yX3_says yX3_says ∈ zT := zT_s1 (q := (yX3_says, 11)) (i := 4) (by decide +kernel)
theorem ts_X3_readLetter : Cond.selects RX3 yX3_readLetter yX3_readLetter ∈ zT := zT_s1 (q := (yX3_readLetter, 11)) (i := 5) (by decide +kernel)
theorem ts_X3_readWord : Cond.selects RX3 yX3_readWord yX3_readWord ∈ zT := zT_s1 (q := (yX3_readWord, 11)) (i := 6) (by decide +kernel)
theorem ts_X3_readNumber : Cond.selects RX3 yX3_readNumber yX3_readNumber ∈ zT := zT_s1 (q := (yX3_readNumber, 11)) (i := 7) (by decide +kernel)
theorem ts_X3_readNoParents : Cond.selects RX3 yX3_readNoParents yX3_readNoParents ∈ zT := zT_s1 (q := (yX3_readNoParents, 11)) (i := 8) (by decide +kernel)
theorem ts_X3_readBirth : Cond.selects RX3 yX3_readBirth yX3_readBirth ∈ zT := zT_s1 (q := (yX3_readBirth, 11)) (i := 9) (by decide +kernel)
theorem ts_X3_readWordOrNothing : Cond.selects RX3 yX3_readWordOrNothing yX3_readWordOrNothing ∈ zT := zT_s1 (q := (yX3_readWordOrNothing, 11)) (i := 10) (by decide +kernel)
theorem ts_X5_kindOf : Cond.selects RX5 yX5_kindOf yX5_kindOf ∈ zT := zT_s1 (q := (yX5_kindOf, 13)) (i := 11) (by decide +kernel)
theorem ts_X3_readParents : Cond.selects RX3 yX3_readParents yX3_readParents ∈ zT := zT_s1 (q := (yX3_readParents, 11)) (i := 12) (by decide +kernel)
theorem ts_X3_readPerson : Cond.selects RX3 yX3_readPerson yX3_readPerson ∈ zT := zT_s1 (q := (yX3_readPerson, 11)) (i := 13) (by decide +kernel)
theorem ts_X3_readCall : Cond.selects RX3 yX3_readCall yX3_readCall ∈ zT := zT_s1 (q := (yX3_readCall, 11)) (i := 14) (by decide +kernel)
theorem ts_X3_readHope : Cond.selects RX3 yX3_readHope yX3_readHope ∈ zT := zT_s1 (q := (yX3_readHope, 11)) (i := 15) (by decide +kernel)
theorem ts_X3_readDegrees : Cond.selects RX3 yX3_readDegrees yX3_readDegrees ∈ zT := zT_s2 (q := (yX3_readDegrees, 11)) (i := 0) (by decide +kernel)
theorem ts_X3_readForget : Cond.selects RX3 yX3_readForget yX3_readForget ∈ zT := zT_s2 (q := (yX3_readForget, 11)) (i := 1) (by decide +kernel)
theorem ts_X5_within : Cond.selects RX5 yX5_within yX5_within ∈ zT := zT_s2 (q := (yX5_within, 13)) (i := 2) (by decide +kernel)
theorem ts_X5_oneStepMore : Cond.selects RX5 yX5_oneStepMore yX5_oneStepMore ∈ zT := zT_s2 (q := (yX5_oneStepMore, 13)) (i := 3) (by decide +kernel)
theorem ts_X5_isParted : Cond.selects RX5 yX5_isParted yX5_isParted ∈ zT := zT_s2 (q := (yX5_isParted, 13)) (i := 4) (by decide +kernel)
theorem ts_X0_findParts : Cond.selects RX0 yX0_findParts yX0_findParts ∈ zT := zT_s2 (q := (yX0_findParts, 8)) (i := 5) (by decide +kernel)
theorem ts_X0_join : Cond.selects RX0 yX0_join yX0_join ∈ zT := zT_s2 (q := (yX0_join, 8)) (i := 6) (by decide +kernel)
theorem ts_X0_addIfWanted : Cond.selects RX0 yX0_addIfWanted yX0_addIfWanted ∈ zT := zT_s2 (q := (yX0_addIfWanted, 8)) (i := 7) (by decide +kernel)
theorem ts_X0_sort : Cond.selects RX0 yX0_sort yX0_sort ∈ zT := zT_s2 (q := (yX0_sort, 8)) (i := 8) (by decide +kernel)
theorem ts_X0_dropLike : Cond.selects RX0 yX0_dropLike yX0_dropLike ∈ zT := zT_s2 (q := (yX0_dropLike, 8)) (i := 9) (by decide +kernel)
theorem ts_X6_findRooms : Cond.selects RX6 yX6_findRooms yX6_findRooms ∈ zT := zT_s2 (q := (yX6_findRooms, 8)) (i := 10) (by decide +kernel)
theorem ts_X6_waysWithNames : Cond.selects RX6 yX6_waysWithNames yX6_waysWithNames ∈ zT := zT_s2 (q := (yX6_waysWithNames, 8)) (i := 11) (by decide +kernel)
theorem ts_X6_allHaveNames : Cond.selects RX6 yX6_allHaveNames yX6_allHaveNames ∈ zT := zT_s2 (q := (yX6_allHaveNames, 8)) (i := 12) (by decide +kernel)
theorem ts_X6_comingWith : Cond.selects RX6 yX6_comingWith yX6_comingWith ∈ zT := zT_s2 (q := (yX6_comingWith, 8)) (i := 13) (by decide +kernel)
theorem ts_X6_waysOfComing : Cond.selects RX6 yX6_waysOfComing yX6_waysOfComing ∈ zT := zT_s2 (q := (yX6_waysOfComing, 8)) (i := 14) (by decide +kernel)
theorem ts_X2_addPart : Cond.selects RX2 yX2_addPart yX2_addPart ∈ zT := zT_s2 (q := (yX2_addPart, 2)) (i := 15) (by decide +kernel)
theorem ts_X2_mendsAll : Cond.selects RX2 yX2_mendsAll yX2_mendsAll ∈ zT := zT_s3 (q := (yX2_mendsAll, 2)) (i := 0) (by decide +kernel)
theorem ts_X2_hasNameWith : Cond.selects RX2 yX2_hasNameWith yX2_hasNameWith ∈ zT := zT_s3 (q := (yX2_hasNameWith, 2)) (i := 1) (by decide +kernel)
theorem ts_X1_findLetters : Cond.selects RX1 yX1_findLetters yX1_findLetters ∈ zT := zT_s3 (q := (yX1_findLetters, 10)) (i := 2) (by decide +kernel)
theorem ts_X1_addWord : Cond.selects RX1 yX1_addWord yX1_addWord ∈ zT := zT_s3 (q := (yX1_addWord, 10)) (i := 3) (by decide +kernel)
theorem ts_X1_give : Cond.selects RX1 yX1_give yX1_give ∈ zT := zT_s3 (q := (yX1_give, 10)) (i := 4) (by decide +kernel)
theorem ts_X1_addWay : Cond.selects RX1 yX1_addWay yX1_addWay ∈ zT := zT_s3 (q := (yX1_addWay, 10)) (i := 5) (by decide +kernel)
theorem ts_X1_greatestFor : Cond.selects RX1 yX1_greatestFor yX1_greatestFor ∈ zT := zT_s3 (q := (yX1_greatestFor, 10)) (i := 6) (by decide +kernel)
theorem ts_X1_leastFor : Cond.selects RX1 yX1_leastFor yX1_leastFor ∈ zT := zT_s3 (q := (yX1_leastFor, 10)) (i := 7) (by decide +kernel)
theorem ts_X1_take : Cond.selects RX1 yX1_take yX1_take ∈ zT := zT_s3 (q := (yX1_take, 10)) (i := 8) (by decide +kernel)
theorem ts_X6_bestReformedLetter : Cond.selects RX6 yX6_bestReformedLetter yX6_bestReformedLetter ∈ zT := zT_s3 (q := (yX6_bestReformedLetter, 8)) (i := 9) (by decide +kernel)
theorem ts_X6_reformedNumber : Cond.selects RX6 yX6_reformedNumber yX6_reformedNumber ∈ zT := zT_s3 (q := (yX6_reformedNumber, 8)) (i := 10) (by decide +kernel)
theorem ts_X6_calledAnew : Cond.selects RX6 yX6_calledAnew yX6_calledAnew ∈ zT := zT_s3 (q := (yX6_calledAnew, 8)) (i := 11) (by decide +kernel)
theorem ts_X5_othersOfNumber : Cond.selects RX5 yX5_othersOfNumber yX5_othersOfNumber ∈ zT := zT_s3 (q := (yX5_othersOfNumber, 13)) (i := 12) (by decide +kernel)
theorem ts_X7_token : Cond.selects RX7 yX7_token yX7_token ∈ zT := zT_s3 (q := (yX7_token, 29)) (i := 13) (by decide +kernel)
theorem ts_X7_readsLine : Cond.selects RX7 yX7_readsLine yX7_readsLine ∈ zT := zT_s3 (q := (yX7_readsLine, 29)) (i := 14) (by decide +kernel)
theorem ts_X7_wordOf : Cond.selects RX7 yX7_wordOf yX7_wordOf ∈ zT := zT_s3 (q := (yX7_wordOf, 29)) (i := 15) (by decide +kernel)
theorem ts_X7_isWord : Cond.selects RX7 yX7_isWord yX7_isWord ∈ zT := zT_s4 (q := (yX7_isWord, 29)) (i := 0) (by decide +kernel)
theorem ts_X7_readsRest : Cond.selects RX7 yX7_readsRest yX7_readsRest ∈ zT := zT_s4 (q := (yX7_readsRest, 29)) (i := 1) (by decide +kernel)
theorem ts_X7_readsLetter : Cond.selects RX7 yX7_readsLetter yX7_readsLetter ∈ zT := zT_s4 (q := (yX7_readsLetter, 29)) (i := 2) (by decide +kernel)
theorem ts_X7_codeHere : Cond.selects RX7 yX7_codeHere yX7_codeHere ∈ zT := zT_s4 (q := (yX7_codeHere, 29)) (i := 3) (by decide +kernel)
theorem ts_X7_reads : Cond.selects RX7 yX7_reads yX7_reads ∈ zT := zT_s4 (q := (yX7_reads, 29)) (i := 4) (by decide +kernel)
theorem ts_X7_readsSyl : Cond.selects RX7 yX7_readsSyl yX7_readsSyl ∈ zT := zT_s4 (q := (yX7_readsSyl, 29)) (i := 5) (by decide +kernel)
theorem ts_X7_readsWord : Cond.selects RX7 yX7_readsWord yX7_readsWord ∈ zT := zT_s4 (q := (yX7_readsWord, 29)) (i := 6) (by decide +kernel)
theorem ts_X7_tell : Cond.selects RX7 yX7_tell yX7_tell ∈ zT := zT_s4 (q := (yX7_tell, 29)) (i := 7) (by decide +kernel)
theorem ts_X7_bear : Cond.selects RX7 yX7_bear yX7_bear ∈ zT := zT_s4 (q := (yX7_bear, 29)) (i := 8) (by decide +kernel)
theorem ts_X7_hopeFor : Cond.selects RX7 yX7_hopeFor yX7_hopeFor ∈ zT := zT_s4 (q := (yX7_hopeFor, 29)) (i := 9) (by decide +kernel)
theorem ts_X7_isPerson : Cond.selects RX7 yX7_isPerson yX7_isPerson ∈ zT := zT_s4 (q := (yX7_isPerson, 29)) (i := 10) (by decide +kernel)
theorem ts_X7_kindOf : Cond.selects RX7 yX7_kindOf yX7_kindOf ∈ zT := zT_s4 (q := (yX7_kindOf, 29)) (i := 11) (by decide +kernel)
theorem ts_X7_near : Cond.selects RX7 yX7_near yX7_near ∈ zT := zT_s4 (q := (yX7_near, 29)) (i := 12) (by decide +kernel)
theorem ts_X7_within : Cond.selects RX7 yX7_within yX7_within ∈ zT := zT_s4 (q := (yX7_within, 29)) (i := 13) (by decide +kernel)
theorem ts_X7_layFar : Cond.selects RX7 yX7_layFar yX7_layFar ∈ zT := zT_s4 (q := (yX7_layFar, 29)) (i := 14) (by decide +kernel)
theorem ts_X7_areNext : Cond.selects RX7 yX7_areNext yX7_areNext ∈ zT := zT_s4 (q := (yX7_areNext, 29)) (i := 15) (by decide +kernel)
theorem ts_X7_sumOf : Cond.selects RX7 yX7_sumOf yX7_sumOf ∈ zT := zT_s5 (q := (yX7_sumOf, 29)) (i := 0) (by decide +kernel)
theorem ts_X7_isName : Cond.selects RX7 yX7_isName yX7_isName ∈ zT := zT_s5 (q := (yX7_isName, 29)) (i := 1) (by decide +kernel)
theorem ts_X7_isBare : Cond.selects RX7 yX7_isBare yX7_isBare ∈ zT := zT_s5 (q := (yX7_isBare, 29)) (i := 2) (by decide +kernel)
theorem ts_X7_takerOf : Cond.selects RX7 yX7_takerOf yX7_takerOf ∈ zT := zT_s5 (q := (yX7_takerOf, 29)) (i := 3) (by decide +kernel)
theorem ts_X7_layNames : Cond.selects RX7 yX7_layNames yX7_layNames ∈ zT := zT_s5 (q := (yX7_layNames, 29)) (i := 4) (by decide +kernel)
theorem ts_X7_addName : Cond.selects RX7 yX7_addName yX7_addName ∈ zT := zT_s5 (q := (yX7_addName, 29)) (i := 5) (by decide +kernel)
theorem ts_X7_isFree : Cond.selects RX7 yX7_isFree yX7_isFree ∈ zT := zT_s5 (q := (yX7_isFree, 29)) (i := 6) (by decide +kernel)
theorem ts_X7_allNamed : Cond.selects RX7 yX7_allNamed yX7_allNamed ∈ zT := zT_s5 (q := (yX7_allNamed, 29)) (i := 7) (by decide +kernel)
theorem ts_X7_laySums : Cond.selects RX7 yX7_laySums yX7_laySums ∈ zT := zT_s5 (q := (yX7_laySums, 29)) (i := 8) (by decide +kernel)
theorem ts_X7_layNamed : Cond.selects RX7 yX7_layNamed yX7_layNamed ∈ zT := zT_s5 (q := (yX7_layNamed, 29)) (i := 9) (by decide +kernel)
theorem ts_X7_mark : Cond.selects RX7 yX7_mark yX7_mark ∈ zT := zT_s5 (q := (yX7_mark, 29)) (i := 10) (by decide +kernel)
theorem ts_X7_bare : Cond.selects RX7 yX7_bare yX7_bare ∈ zT := zT_s5 (q := (yX7_bare, 29)) (i := 11) (by decide +kernel)
theorem ts_X7_isSyl : Cond.selects RX7 yX7_isSyl yX7_isSyl ∈ zT := zT_s5 (q := (yX7_isSyl, 29)) (i := 12) (by decide +kernel)
theorem ts_X7_layUsed : Cond.selects RX7 yX7_layUsed yX7_layUsed ∈ zT := zT_s5 (q := (yX7_layUsed, 29)) (i := 13) (by decide +kernel)
theorem ts_X7_figure : Cond.selects RX7 yX7_figure yX7_figure ∈ zT := zT_s5 (q := (yX7_figure, 29)) (i := 14) (by decide +kernel)
theorem ts_X7_allAdd : Cond.selects RX7 yX7_allAdd yX7_allAdd ∈ zT := zT_s5 (q := (yX7_allAdd, 29)) (i := 15) (by decide +kernel)
theorem ts_X7_anew : Cond.selects RX7 yX7_anew yX7_anew ∈ zT := zT_s6 (q := (yX7_anew, 29)) (i := 0) (by decide +kernel)
theorem ts_X7_move : Cond.selects RX7 yX7_move yX7_move ∈ zT := zT_s6 (q := (yX7_move, 29)) (i := 1) (by decide +kernel)
theorem uv_X0 : ∀ w ∈ u_ws RX0 TX0 8, w ∈ tables_1 := by decide +kernel
theorem uw_X0 : ∀ w ∈ u_ws RX0 TX0 8, w ∈ zT := fun w h => zT_in (uv_X0 w h) (List.all_eq_true.mp (by decide +kernel : (u_ws RX0 TX0 8).all goodWord = true) w h)
theorem uv_X1 : ∀ w ∈ u_ws RX1 TX1 10, w ∈ tables_1 := by decide +kernel
theorem uw_X1 : ∀ w ∈ u_ws RX1 TX1 10, w ∈ zT := fun w h => zT_in (uv_X1 w h) (List.all_eq_true.mp (by decide +kernel : (u_ws RX1 TX1 10).all goodWord = true) w h)
theorem uv_X2 : ∀ w ∈ u_ws RX2 TX2 2, w ∈ tables_1 := by decide +kernel
theorem uw_X2 : ∀ w ∈ u_ws RX2 TX2 2, w ∈ zT := fun w h => zT_in (uv_X2 w h) (List.all_eq_true.mp (by decide +kernel : (u_ws RX2 TX2 2).all goodWord = true) w h)
theorem uv_X3 : ∀ w ∈ u_ws RX3 TX3 11, w ∈ tables_1 := by decide +kernel
theorem uw_X3 : ∀ w ∈ u_ws RX3 TX3 11, w ∈ zT := fun w h => zT_in (uv_X3 w h) (List.all_eq_true.mp (by decide +kernel : (u_ws RX3 TX3 11).all goodWord = true) w h)
theorem uv_X4 : ∀ w ∈ u_ws RX4 TX4 3, w ∈ tables_1 := by decide +kernel
theorem uw_X4 : ∀ w ∈ u_ws RX4 TX4 3, w ∈ zT := fun w h => zT_in (uv_X4 w h) (List.all_eq_true.mp (by decide +kernel : (u_ws RX4 TX4 3).all goodWord = true) w h)
theorem uv_X5 : ∀ w ∈ u_ws RX5 TX5 13, w ∈ tables_1 := by decide +kernel
theorem uw_X5 : ∀ w ∈ u_ws RX5 TX5 13, w ∈ zT := fun w h => zT_in (uv_X5 w h) (List.all_eq_true.mp (by decide +kernel : (u_ws RX5 TX5 13).all goodWord = true) w h)
theorem uv_X6 : ∀ w ∈ u_ws RX6 TX6 8, w ∈ tables_1 := by decide +kernel
theorem uw_X6 : ∀ w ∈ u_ws RX6 TX6 8, w ∈ zT := fun w h => zT_in (uv_X6 w h) (List.all_eq_true.mp (by decide +kernel : (u_ws RX6 TX6 8).all goodWord = true) w h)
theorem uv_X7 : ∀ w ∈ u_ws RX7 TX7 29, w ∈ tables_1 := by decide +kernel
theorem uw_X7 : ∀ w ∈ u_ws RX7 TX7 29, w ∈ zT := fun w h => zT_in (uv_X7 w h) (List.all_eq_true.mp (by decide +kernel : (u_ws RX7 TX7 29).all goodWord = true) w h)
def zNl : List (String × Nat × MethodName × String) := [(RX6, 22, yX3_init, RX6), (RX6, 29, yX0_init, RX6), (RX6, 36, yX2_init, RX6), (RX6, 43, yX1_init, RX6), (RX6, 58, yX4_init, RX6), (RX3, 121, yX6_lastLetter, RX6), (RX3, 125, yX6_isLetter, RX6), (RX5, 67, yX6_lastLetter, RX6), (RX5, 71, yX6_isLetter, RX6), (RX1, 73, yX6_timesIn, RX6), (RX0, 82, yX6_isLeftOf, RX6), (RX4, 22, yX6_isDay, RX6)]
theorem tn_X6_22 : (RX6, 22, yX3_init, RX6) ∈ zNl := List.mem_of_getElem? (i := 0) rfl
theorem tn_X6_29 : (RX6, 29, yX0_init, RX6) ∈ zNl := List.mem_of_getElem? (i := 1) rfl
theorem tn_X6_36 : (RX6, 36, yX2_init, RX6) ∈ zNl := List.mem_of_getElem? (i := 2) rfl
theorem tn_X6_43 : (RX6, 43, yX1_init, RX6) ∈ zNl := List.mem_of_getElem? (i := 3) rfl
theorem tn_X6_58 : (RX6, 58, yX4_init, RX6) ∈ zNl := List.mem_of_getElem? (i := 4) rfl
theorem tn_X3_121 : (RX3, 121, yX6_lastLetter, RX6) ∈ zNl := List.mem_of_getElem? (i := 5) rfl
theorem tn_X3_125 : (RX3, 125, yX6_isLetter, RX6) ∈ zNl := List.mem_of_getElem? (i := 6) rfl
theorem tn_X5_67 : (RX5, 67, yX6_lastLetter, RX6) ∈ zNl := List.mem_of_getElem? (i := 7) rfl
theorem tn_X5_71 : (RX5, 71, yX6_isLetter, RX6) ∈ zNl := List.mem_of_getElem? (i := 8) rfl
theorem tn_X1_73 : (RX1, 73, yX6_timesIn, RX6) ∈ zNl := List.mem_of_getElem? (i := 9) rfl
theorem tn_X0_82 : (RX0, 82, yX6_isLeftOf, RX6) ∈ zNl := List.mem_of_getElem? (i := 10) rfl
theorem tn_X4_22 : (RX4, 22, yX6_isDay, RX6) ∈ zNl := List.mem_of_getElem? (i := 11) rfl
theorem zNl_in : ∀ q ∈ zNl, Cond.methodLinkNest q.1 q.2.1 q.2.2.1 q.2.2.2 ∈ tables_1 := by decide +kernel
