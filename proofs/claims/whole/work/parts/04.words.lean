-- the words that keep over calls, each by its place in the tables
def qm_ws : List Cond := lw_tbl.filter goodWord
theorem qm_mem {w : Cond} (h : w ∈ tables_1) (hg : goodWord w = true) : w ∈ qm_ws := List.mem_filter.mpr ⟨List.mem_append_right _ h, hg⟩
theorem qm_mem1 {i : Nat} {w : Cond} (h : tables_1_1[i]? = some w) (hg : goodWord w = true) : w ∈ qm_ws := qm_mem (List.mem_append_left _ (List.mem_of_getElem? h)) hg
theorem qm_mem2 {i : Nat} {w : Cond} (h : tables_1_2[i]? = some w) (hg : goodWord w = true) : w ∈ qm_ws := qm_mem (List.mem_append_right _ (List.mem_append_left _ (List.mem_of_getElem? h))) hg
theorem qm_mem3 {i : Nat} {w : Cond} (h : tables_1_3[i]? = some w) (hg : goodWord w = true) : w ∈ qm_ws := qm_mem (List.mem_append_right _ (List.mem_append_right _ (List.mem_append_left _ (List.mem_of_getElem? h)))) hg
theorem qm_mem4 {i : Nat} {w : Cond} (h : tables_1_4[i]? = some w) (hg : goodWord w = true) : w ∈ qm_ws := qm_mem (List.mem_append_right _ (List.mem_append_right _ (List.mem_append_right _ (List.mem_append_left _ (List.mem_of_getElem? h))))) hg
theorem qm_mem5 {i : Nat} {w : Cond} (h : tables_1_5[i]? = some w) (hg : goodWord w = true) : w ∈ qm_ws := qm_mem (List.mem_append_right _ (List.mem_append_right _ (List.mem_append_right _ (List.mem_append_right _ (List.mem_of_getElem? h))))) hg
theorem qm_memS {i : Nat} {q : MethodName × Nat} (h : lw_privs[i]? = some q) : Cond.selects q.1.cls q.1 q.1 ∈ qm_ws := List.mem_filter.mpr ⟨List.mem_append_left _ (List.mem_map.mpr ⟨q, List.mem_of_getElem? h, rfl⟩), rfl⟩
theorem qm_good : GoodIn qm_ws qm_ws := fun w hw => ⟨hw, good_of_word (List.mem_filter.mp hw).2⟩
theorem qw_0 : Jvm.Cond.initialized "HungStreamsLaw" ∈ qm_ws := qm_mem1 (i := 0) rfl rfl
theorem qw_1 : Jvm.Cond.initialized "HungStreams" ∈ qm_ws := qm_mem1 (i := 1) rfl rfl
theorem qw_2 : Jvm.Cond.initialized "HungStreams$Tree" ∈ qm_ws := qm_mem1 (i := 2) rfl rfl
theorem qw_3 : Jvm.Cond.initialized "HungStreams$Stream" ∈ qm_ws := qm_mem1 (i := 3) rfl rfl
theorem qw_4 : Jvm.Cond.initialized "HungStreams$TypedText" ∈ qm_ws := qm_mem1 (i := 4) rfl rfl
theorem qw_5 : Jvm.Cond.initialized "HungStreams$TreeWriter" ∈ qm_ws := qm_mem1 (i := 5) rfl rfl
theorem qw_6 : Jvm.Cond.initialized "HungStreamsModel" ∈ qm_ws := qm_mem1 (i := 6) rfl rfl
theorem qw_7 : Jvm.Cond.initialized "java/lang/Math" ∈ qm_ws := qm_mem1 (i := 7) rfl rfl
theorem qw_8 : Jvm.Cond.initialized "java/lang/Integer" ∈ qm_ws := qm_mem1 (i := 8) rfl rfl
theorem qw_9 : Jvm.Cond.initialized "HungStreams$Frames" ∈ qm_ws := qm_mem1 (i := 9) rfl rfl
theorem qw_10 : Jvm.Cond.initialized "HungStreams$Shares" ∈ qm_ws := qm_mem1 (i := 10) rfl rfl
theorem qw_11 : Jvm.Cond.classLink "HungStreamsLaw" (7 : Nat) "HungStreams" ∈ qm_ws := qm_mem1 (i := 11) rfl rfl
theorem qw_12 : Jvm.Cond.instantiable "HungStreams" (9 : Nat) ∈ qm_ws := qm_mem1 (i := 12) rfl rfl
theorem qw_13 : Jvm.Cond.methodLink "HungStreamsLaw" (9 : Nat) ({ cls := "HungStreams", name := "<init>", desc := "()V" } : Jvm.MethodName) ∈ qm_ws := qm_mem1 (i := 13) rfl rfl
theorem qw_14 : Jvm.Cond.instanceMethod ({ cls := "HungStreams", name := "<init>", desc := "()V" } : Jvm.MethodName) ∈ qm_ws := qm_mem1 (i := 14) rfl rfl
theorem qw_15 : Jvm.Cond.code ({ cls := "HungStreams", name := "<init>", desc := "()V" } : Jvm.MethodName) prog_1_method_1_code (2 : Nat) (Option.none : Option Jvm.ClassFile.FieldType) ∈ qm_ws := qm_mem1 (i := 15) rfl rfl
theorem qw_16 : Jvm.Cond.methodLink "HungStreams" (1 : Nat) ({ cls := "java/lang/Object", name := "<init>", desc := "()V" } : Jvm.MethodName) ∈ qm_ws := qm_mem1 (i := 16) rfl rfl
theorem qw_17 : Jvm.Cond.instanceMethod ({ cls := "java/lang/Object", name := "<init>", desc := "()V" } : Jvm.MethodName) ∈ qm_ws := qm_mem1 (i := 17) rfl rfl
theorem qw_18 : Jvm.Cond.code ({ cls := "java/lang/Object", name := "<init>", desc := "()V" } : Jvm.MethodName) object_method_1_code (1 : Nat) (Option.none : Option Jvm.ClassFile.FieldType) ∈ qm_ws := qm_mem1 (i := 18) rfl rfl
theorem qw_19 : Jvm.Cond.classLink "HungStreams" (7 : Nat) "HungStreams$Tree" ∈ qm_ws := qm_mem1 (i := 19) rfl rfl
theorem qw_20 : Jvm.Cond.instantiable "HungStreams$Tree" (10 : Nat) ∈ qm_ws := qm_mem1 (i := 20) rfl rfl
theorem qw_21 : Jvm.Cond.methodLink "HungStreams" (9 : Nat) ({ cls := "HungStreams$Tree", name := "<init>", desc := "()V" } : Jvm.MethodName) ∈ qm_ws := qm_mem1 (i := 21) rfl rfl
theorem qw_22 : Jvm.Cond.instanceMethod ({ cls := "HungStreams$Tree", name := "<init>", desc := "()V" } : Jvm.MethodName) ∈ qm_ws := qm_mem1 (i := 22) rfl rfl
theorem qw_23 : Jvm.Cond.code ({ cls := "HungStreams$Tree", name := "<init>", desc := "()V" } : Jvm.MethodName) prog_5_method_1_code (2 : Nat) (Option.none : Option Jvm.ClassFile.FieldType) ∈ qm_ws := qm_mem1 (i := 23) rfl rfl
theorem qw_24 : Jvm.Cond.methodLink "HungStreams$Tree" (3 : Nat) ({ cls := "java/lang/Object", name := "<init>", desc := "()V" } : Jvm.MethodName) ∈ qm_ws := qm_mem1 (i := 24) rfl rfl
theorem qw_25 : Jvm.Cond.classLink "HungStreams$Tree" (9 : Nat) "HungStreams$Stream" ∈ qm_ws := qm_mem1 (i := 25) rfl rfl
theorem qw_27 : Jvm.Cond.instantiable "HungStreams$Stream" (14 : Nat) ∈ qm_ws := qm_mem1 (i := 27) rfl rfl
theorem qw_29 : Jvm.Cond.instanceMethod ({ cls := "HungStreams$Stream", name := "<init>", desc := "()V" } : Jvm.MethodName) ∈ qm_ws := qm_mem1 (i := 29) rfl rfl
theorem qw_30 : Jvm.Cond.code ({ cls := "HungStreams$Stream", name := "<init>", desc := "()V" } : Jvm.MethodName) prog_4_method_1_code (1 : Nat) (Option.none : Option Jvm.ClassFile.FieldType) ∈ qm_ws := qm_mem1 (i := 30) rfl rfl
theorem qw_31 : Jvm.Cond.methodLink "HungStreams$Stream" (3 : Nat) ({ cls := "java/lang/Object", name := "<init>", desc := "()V" } : Jvm.MethodName) ∈ qm_ws := qm_mem1 (i := 31) rfl rfl
theorem qw_32 : Jvm.Cond.fieldLink "HungStreams$Stream" (9 : Nat) "HungStreams$Stream" "parent" "I" ∈ qm_ws := qm_mem1 (i := 32) rfl rfl
theorem qw_33 : Jvm.Cond.fieldLink "HungStreams$Shares" (36 : Nat) "HungStreams$Stream" "parent" "I" ∈ qm_ws := qm_mem1 (i := 33) rfl rfl
theorem qw_34 : Jvm.Cond.fieldLink "HungStreams" (71 : Nat) "HungStreams$Stream" "parent" "I" ∈ qm_ws := qm_mem1 (i := 34) rfl rfl
theorem qw_35 : Jvm.Cond.fieldLink "HungStreams$Frames" (65 : Nat) "HungStreams$Stream" "parent" "I" ∈ qm_ws := qm_mem1 (i := 35) rfl rfl
theorem qw_36 : Jvm.Cond.fieldLink "HungStreams$Tree" (62 : Nat) "HungStreams$Stream" "parent" "I" ∈ qm_ws := qm_mem1 (i := 36) rfl rfl
theorem qw_37 : Jvm.Cond.fieldLink "HungStreams$Stream" (15 : Nat) "HungStreams$Stream" "weight" "I" ∈ qm_ws := qm_mem1 (i := 37) rfl rfl
theorem qw_38 : Jvm.Cond.fieldLink "HungStreams$Shares" (30 : Nat) "HungStreams$Stream" "weight" "I" ∈ qm_ws := qm_mem1 (i := 38) rfl rfl
theorem qw_39 : Jvm.Cond.fieldLink "HungStreams$TreeWriter" (40 : Nat) "HungStreams$Stream" "weight" "I" ∈ qm_ws := qm_mem1 (i := 39) rfl rfl
theorem qw_40 : Jvm.Cond.fieldLink "HungStreams" (80 : Nat) "HungStreams$Stream" "weight" "I" ∈ qm_ws := qm_mem1 (i := 40) rfl rfl
theorem qw_41 : Jvm.Cond.fieldLink "HungStreams$Tree" (68 : Nat) "HungStreams$Stream" "weight" "I" ∈ qm_ws := qm_mem1 (i := 41) rfl rfl
theorem qw_42 : Jvm.Cond.fieldLink "HungStreams$Frames" (136 : Nat) "HungStreams$Stream" "weight" "I" ∈ qm_ws := qm_mem1 (i := 42) rfl rfl
theorem qw_43 : Jvm.Cond.fieldLink "HungStreams$Stream" (18 : Nat) "HungStreams$Stream" "ready" "I" ∈ qm_ws := qm_mem1 (i := 43) rfl rfl
theorem qw_44 : Jvm.Cond.fieldLink "HungStreams" (98 : Nat) "HungStreams$Stream" "ready" "I" ∈ qm_ws := qm_mem1 (i := 44) rfl rfl
theorem qw_45 : Jvm.Cond.fieldLink "HungStreams$Frames" (113 : Nat) "HungStreams$Stream" "ready" "I" ∈ qm_ws := qm_mem1 (i := 45) rfl rfl
theorem qw_46 : Jvm.Cond.fieldLink "HungStreams$Stream" (21 : Nat) "HungStreams$Stream" "window" "I" ∈ qm_ws := qm_mem1 (i := 46) rfl rfl
theorem qw_47 : Jvm.Cond.fieldLink "HungStreams$Frames" (116 : Nat) "HungStreams$Stream" "window" "I" ∈ qm_ws := qm_mem1 (i := 47) rfl rfl
theorem qw_48 : Jvm.Cond.fieldLink "HungStreams" (145 : Nat) "HungStreams$Stream" "window" "I" ∈ qm_ws := qm_mem1 (i := 48) rfl rfl
theorem qw_49 : Jvm.Cond.fieldLink "HungStreams$Stream" (24 : Nat) "HungStreams$Stream" "urgency" "I" ∈ qm_ws := qm_mem1 (i := 49) rfl rfl
theorem qw_50 : Jvm.Cond.fieldLink "HungStreams$Frames" (97 : Nat) "HungStreams$Stream" "urgency" "I" ∈ qm_ws := qm_mem1 (i := 50) rfl rfl
theorem qw_51 : Jvm.Cond.fieldLink "HungStreams$Stream" (27 : Nat) "HungStreams$Stream" "stepwise" "I" ∈ qm_ws := qm_mem1 (i := 51) rfl rfl
theorem qw_52 : Jvm.Cond.fieldLink "HungStreams$Frames" (100 : Nat) "HungStreams$Stream" "stepwise" "I" ∈ qm_ws := qm_mem1 (i := 52) rfl rfl
theorem qw_53 : Jvm.Cond.fieldLink "HungStreams$Stream" (30 : Nat) "HungStreams$Stream" "open" "Z" ∈ qm_ws := qm_mem1 (i := 53) rfl rfl
theorem qw_54 : Jvm.Cond.fieldLink "HungStreams" (94 : Nat) "HungStreams$Stream" "open" "Z" ∈ qm_ws := qm_mem1 (i := 54) rfl rfl
theorem qw_55 : Jvm.Cond.fieldLink "HungStreams$Frames" (151 : Nat) "HungStreams$Stream" "open" "Z" ∈ qm_ws := qm_mem1 (i := 55) rfl rfl
theorem qw_56 : Jvm.Cond.fieldLink "HungStreams$Tree" (115 : Nat) "HungStreams$Stream" "open" "Z" ∈ qm_ws := qm_mem1 (i := 56) rfl rfl
theorem qw_57 : Jvm.Cond.fieldLink "HungStreams$Stream" (34 : Nat) "HungStreams$Stream" "age" "I" ∈ qm_ws := qm_mem1 (i := 57) rfl rfl
theorem qw_58 : Jvm.Cond.fieldLink "HungStreams$Frames" (155 : Nat) "HungStreams$Stream" "age" "I" ∈ qm_ws := qm_mem1 (i := 58) rfl rfl
theorem qw_59 : Jvm.Cond.fieldLink "HungStreams$Tree" (119 : Nat) "HungStreams$Stream" "age" "I" ∈ qm_ws := qm_mem1 (i := 59) rfl rfl
theorem qw_60 : Jvm.Cond.fieldLink "HungStreams$Stream" (37 : Nat) "HungStreams$Stream" "sent" "I" ∈ qm_ws := qm_mem1 (i := 60) rfl rfl
theorem qw_61 : Jvm.Cond.fieldLink "HungStreams$Frames" (119 : Nat) "HungStreams$Stream" "sent" "I" ∈ qm_ws := qm_mem1 (i := 61) rfl rfl
theorem qw_62 : Jvm.Cond.fieldLink "HungStreams$Tree" (82 : Nat) "HungStreams$Stream" "sent" "I" ∈ qm_ws := qm_mem1 (i := 62) rfl rfl
theorem qw_63 : Jvm.Cond.fieldLink "HungStreams$Stream" (40 : Nat) "HungStreams$Stream" "waited" "I" ∈ qm_ws := qm_mem1 (i := 63) rfl rfl
theorem qw_64 : Jvm.Cond.fieldLink "HungStreams$Frames" (145 : Nat) "HungStreams$Stream" "waited" "I" ∈ qm_ws := qm_mem1 (i := 64) rfl rfl
theorem qw_65 : Jvm.Cond.fieldLink "HungStreams$Stream" (43 : Nat) "HungStreams$Stream" "longest" "I" ∈ qm_ws := qm_mem1 (i := 65) rfl rfl
theorem qw_66 : Jvm.Cond.fieldLink "HungStreams$Tree" (85 : Nat) "HungStreams$Stream" "longest" "I" ∈ qm_ws := qm_mem1 (i := 66) rfl rfl
theorem qw_67 : Jvm.Cond.fieldLink "HungStreams$Stream" (46 : Nat) "HungStreams$Stream" "last" "I" ∈ qm_ws := qm_mem1 (i := 67) rfl rfl
theorem qw_68 : Jvm.Cond.fieldLink "HungStreams$Frames" (103 : Nat) "HungStreams$Stream" "last" "I" ∈ qm_ws := qm_mem1 (i := 68) rfl rfl
theorem qw_69 : Jvm.Cond.fieldLink "HungStreams$Stream" (49 : Nat) "HungStreams$Stream" "turn" "J" ∈ qm_ws := qm_mem1 (i := 69) rfl rfl
theorem qw_70 : Jvm.Cond.fieldLink "HungStreams$Frames" (55 : Nat) "HungStreams$Stream" "turn" "J" ∈ qm_ws := qm_mem1 (i := 70) rfl rfl
theorem qw_71 : Jvm.Cond.fieldLink "HungStreams" (132 : Nat) "HungStreams$Stream" "turn" "J" ∈ qm_ws := qm_mem1 (i := 71) rfl rfl
theorem qw_72 : Jvm.Cond.fieldLink "HungStreams$Tree" (102 : Nat) "HungStreams$Stream" "turn" "J" ∈ qm_ws := qm_mem1 (i := 72) rfl rfl
theorem qw_73 : Jvm.Cond.fieldLink "HungStreams$Stream" (53 : Nat) "HungStreams$Stream" "floor" "J" ∈ qm_ws := qm_mem1 (i := 73) rfl rfl
theorem qw_74 : Jvm.Cond.fieldLink "HungStreams$Frames" (68 : Nat) "HungStreams$Stream" "floor" "J" ∈ qm_ws := qm_mem1 (i := 74) rfl rfl
theorem qw_75 : Jvm.Cond.fieldLink "HungStreams" (136 : Nat) "HungStreams$Stream" "floor" "J" ∈ qm_ws := qm_mem1 (i := 75) rfl rfl
theorem qw_76 : Jvm.Cond.fieldLink "HungStreams$Tree" (98 : Nat) "HungStreams$Stream" "floor" "J" ∈ qm_ws := qm_mem1 (i := 76) rfl rfl
theorem qw_77 : Jvm.Cond.lays "HungStreams$Stream" "HungStreams$Stream" "parent" "I" ∈ qm_ws := qm_mem1 (i := 77) rfl rfl
theorem qw_79 : Jvm.Cond.lays "HungStreams$Stream" "HungStreams$Stream" "weight" "I" ∈ qm_ws := qm_mem1 (i := 79) rfl rfl
theorem qw_81 : Jvm.Cond.lays "HungStreams$Stream" "HungStreams$Stream" "ready" "I" ∈ qm_ws := qm_mem1 (i := 81) rfl rfl
theorem qw_83 : Jvm.Cond.lays "HungStreams$Stream" "HungStreams$Stream" "window" "I" ∈ qm_ws := qm_mem1 (i := 83) rfl rfl
theorem qw_85 : Jvm.Cond.lays "HungStreams$Stream" "HungStreams$Stream" "urgency" "I" ∈ qm_ws := qm_mem1 (i := 85) rfl rfl
theorem qw_87 : Jvm.Cond.lays "HungStreams$Stream" "HungStreams$Stream" "stepwise" "I" ∈ qm_ws := qm_mem1 (i := 87) rfl rfl
theorem qw_89 : Jvm.Cond.lays "HungStreams$Stream" "HungStreams$Stream" "open" "Z" ∈ qm_ws := qm_mem1 (i := 89) rfl rfl
theorem qw_91 : Jvm.Cond.lays "HungStreams$Stream" "HungStreams$Stream" "age" "I" ∈ qm_ws := qm_mem1 (i := 91) rfl rfl
theorem qw_93 : Jvm.Cond.lays "HungStreams$Stream" "HungStreams$Stream" "sent" "I" ∈ qm_ws := qm_mem1 (i := 93) rfl rfl
theorem qw_95 : Jvm.Cond.lays "HungStreams$Stream" "HungStreams$Stream" "waited" "I" ∈ qm_ws := qm_mem1 (i := 95) rfl rfl
theorem qw_97 : Jvm.Cond.lays "HungStreams$Stream" "HungStreams$Stream" "longest" "I" ∈ qm_ws := qm_mem1 (i := 97) rfl rfl
theorem qw_99 : Jvm.Cond.lays "HungStreams$Stream" "HungStreams$Stream" "last" "I" ∈ qm_ws := qm_mem1 (i := 99) rfl rfl
theorem qw_101 : Jvm.Cond.lays "HungStreams$Stream" "HungStreams$Stream" "turn" "J" ∈ qm_ws := qm_mem1 (i := 101) rfl rfl
theorem qw_103 : Jvm.Cond.lays "HungStreams$Stream" "HungStreams$Stream" "floor" "J" ∈ qm_ws := qm_mem1 (i := 103) rfl rfl
theorem qw_106 : Jvm.Cond.fieldLink "HungStreams$Tree" (11 : Nat) "HungStreams$Tree" "streams" "[LHungStreams$Stream;" ∈ qm_ws := qm_mem1 (i := 106) rfl rfl
theorem qw_107 : Jvm.Cond.fieldLink "HungStreams$Shares" (26 : Nat) "HungStreams$Tree" "streams" "[LHungStreams$Stream;" ∈ qm_ws := qm_mem1 (i := 107) rfl rfl
theorem qw_108 : Jvm.Cond.fieldLink "HungStreams$Frames" (47 : Nat) "HungStreams$Tree" "streams" "[LHungStreams$Stream;" ∈ qm_ws := qm_mem1 (i := 108) rfl rfl
theorem qw_109 : Jvm.Cond.fieldLink "HungStreams$TreeWriter" (36 : Nat) "HungStreams$Tree" "streams" "[LHungStreams$Stream;" ∈ qm_ws := qm_mem1 (i := 109) rfl rfl
theorem qw_110 : Jvm.Cond.fieldLink "HungStreams" (67 : Nat) "HungStreams$Tree" "streams" "[LHungStreams$Stream;" ∈ qm_ws := qm_mem1 (i := 110) rfl rfl
theorem qw_111 : Jvm.Cond.fieldLink "HungStreams$Tree" (35 : Nat) "HungStreams$Tree" "there" "I" ∈ qm_ws := qm_mem1 (i := 111) rfl rfl
theorem qw_112 : Jvm.Cond.fieldLink "HungStreams" (104 : Nat) "HungStreams$Tree" "there" "I" ∈ qm_ws := qm_mem1 (i := 112) rfl rfl
theorem qw_113 : Jvm.Cond.fieldLink "HungStreams$Frames" (148 : Nat) "HungStreams$Tree" "there" "I" ∈ qm_ws := qm_mem1 (i := 113) rfl rfl
theorem qw_114 : Jvm.Cond.fieldLink "HungStreams$Tree" (38 : Nat) "HungStreams$Tree" "lived" "I" ∈ qm_ws := qm_mem1 (i := 114) rfl rfl
theorem qw_115 : Jvm.Cond.fieldLink "HungStreams$Frames" (61 : Nat) "HungStreams$Tree" "lived" "I" ∈ qm_ws := qm_mem1 (i := 115) rfl rfl
theorem qw_116 : Jvm.Cond.fieldLink "HungStreams$Tree" (18 : Nat) "HungStreams$Tree" "pool" "I" ∈ qm_ws := qm_mem1 (i := 116) rfl rfl
theorem qw_117 : Jvm.Cond.fieldLink "HungStreams$Frames" (77 : Nat) "HungStreams$Tree" "pool" "I" ∈ qm_ws := qm_mem1 (i := 117) rfl rfl
theorem qw_118 : Jvm.Cond.fieldLink "HungStreams" (236 : Nat) "HungStreams$Tree" "pool" "I" ∈ qm_ws := qm_mem1 (i := 118) rfl rfl
theorem qw_119 : Jvm.Cond.fieldLink "HungStreams$Tree" (22 : Nat) "HungStreams$Tree" "size" "I" ∈ qm_ws := qm_mem1 (i := 119) rfl rfl
theorem qw_120 : Jvm.Cond.fieldLink "HungStreams$Frames" (106 : Nat) "HungStreams$Tree" "size" "I" ∈ qm_ws := qm_mem1 (i := 120) rfl rfl
theorem qw_121 : Jvm.Cond.fieldLink "HungStreams" (239 : Nat) "HungStreams$Tree" "size" "I" ∈ qm_ws := qm_mem1 (i := 121) rfl rfl
theorem qw_122 : Jvm.Cond.fieldLink "HungStreams$Tree" (25 : Nat) "HungStreams$Tree" "keep" "I" ∈ qm_ws := qm_mem1 (i := 122) rfl rfl
theorem qw_123 : Jvm.Cond.fieldLink "HungStreams" (242 : Nat) "HungStreams$Tree" "keep" "I" ∈ qm_ws := qm_mem1 (i := 123) rfl rfl
theorem qw_124 : Jvm.Cond.fieldLink "HungStreams$Tree" (41 : Nat) "HungStreams$Tree" "scheme" "I" ∈ qm_ws := qm_mem1 (i := 124) rfl rfl
theorem qw_125 : Jvm.Cond.fieldLink "HungStreams$Frames" (80 : Nat) "HungStreams$Tree" "scheme" "I" ∈ qm_ws := qm_mem1 (i := 125) rfl rfl
theorem qw_126 : Jvm.Cond.fieldLink "HungStreams" (245 : Nat) "HungStreams$Tree" "scheme" "I" ∈ qm_ws := qm_mem1 (i := 126) rfl rfl
theorem qw_127 : Jvm.Cond.fieldLink "HungStreams$Tree" (44 : Nat) "HungStreams$Tree" "frames" "I" ∈ qm_ws := qm_mem1 (i := 127) rfl rfl
theorem qw_128 : Jvm.Cond.fieldLink "HungStreams$Frames" (125 : Nat) "HungStreams$Tree" "frames" "I" ∈ qm_ws := qm_mem1 (i := 128) rfl rfl
theorem qw_129 : Jvm.Cond.fieldLink "HungStreams" (248 : Nat) "HungStreams$Tree" "frames" "I" ∈ qm_ws := qm_mem1 (i := 129) rfl rfl
theorem qw_130 : Jvm.Cond.fieldLink "HungStreams$Tree" (47 : Nat) "HungStreams$Tree" "lastBytes" "I" ∈ qm_ws := qm_mem1 (i := 130) rfl rfl
theorem qw_131 : Jvm.Cond.fieldLink "HungStreams$Frames" (128 : Nat) "HungStreams$Tree" "lastBytes" "I" ∈ qm_ws := qm_mem1 (i := 131) rfl rfl
theorem qw_132 : Jvm.Cond.fieldLink "HungStreams" (179 : Nat) "HungStreams$Tree" "lastBytes" "I" ∈ qm_ws := qm_mem1 (i := 132) rfl rfl
theorem qw_133 : Jvm.Cond.fieldLink "HungStreams$Tree" (28 : Nat) "HungStreams$Tree" "lastStream" "I" ∈ qm_ws := qm_mem1 (i := 133) rfl rfl
theorem qw_134 : Jvm.Cond.fieldLink "HungStreams$Frames" (131 : Nat) "HungStreams$Tree" "lastStream" "I" ∈ qm_ws := qm_mem1 (i := 134) rfl rfl
theorem qw_135 : Jvm.Cond.fieldLink "HungStreams" (182 : Nat) "HungStreams$Tree" "lastStream" "I" ∈ qm_ws := qm_mem1 (i := 135) rfl rfl
theorem qw_136 : Jvm.Cond.laysFinal "HungStreams$Tree" "HungStreams$Tree" "streams" "[LHungStreams$Stream;" ∈ qm_ws := qm_mem1 (i := 136) rfl rfl
theorem qw_138 : Jvm.Cond.lays "HungStreams$Tree" "HungStreams$Tree" "there" "I" ∈ qm_ws := qm_mem1 (i := 138) rfl rfl
theorem qw_140 : Jvm.Cond.lays "HungStreams$Tree" "HungStreams$Tree" "lived" "I" ∈ qm_ws := qm_mem1 (i := 140) rfl rfl
theorem qw_142 : Jvm.Cond.lays "HungStreams$Tree" "HungStreams$Tree" "pool" "I" ∈ qm_ws := qm_mem1 (i := 142) rfl rfl
theorem qw_144 : Jvm.Cond.lays "HungStreams$Tree" "HungStreams$Tree" "size" "I" ∈ qm_ws := qm_mem1 (i := 144) rfl rfl
theorem qw_146 : Jvm.Cond.lays "HungStreams$Tree" "HungStreams$Tree" "keep" "I" ∈ qm_ws := qm_mem1 (i := 146) rfl rfl
theorem qw_148 : Jvm.Cond.lays "HungStreams$Tree" "HungStreams$Tree" "scheme" "I" ∈ qm_ws := qm_mem1 (i := 148) rfl rfl
theorem qw_150 : Jvm.Cond.lays "HungStreams$Tree" "HungStreams$Tree" "frames" "I" ∈ qm_ws := qm_mem1 (i := 150) rfl rfl
theorem qw_152 : Jvm.Cond.lays "HungStreams$Tree" "HungStreams$Tree" "lastBytes" "I" ∈ qm_ws := qm_mem1 (i := 152) rfl rfl
theorem qw_154 : Jvm.Cond.lays "HungStreams$Tree" "HungStreams$Tree" "lastStream" "I" ∈ qm_ws := qm_mem1 (i := 154) rfl rfl
theorem qw_158 : Jvm.Cond.classLink "HungStreams" (20 : Nat) "HungStreams$TypedText" ∈ qm_ws := qm_mem1 (i := 158) rfl rfl
theorem qw_159 : Jvm.Cond.instantiable "HungStreams$TypedText" (10 : Nat) ∈ qm_ws := qm_mem1 (i := 159) rfl rfl
theorem qw_160 : Jvm.Cond.methodLink "HungStreams" (22 : Nat) ({ cls := "HungStreams$TypedText", name := "<init>", desc := "()V" } : Jvm.MethodName) ∈ qm_ws := qm_mem1 (i := 160) rfl rfl
theorem qw_161 : Jvm.Cond.instanceMethod ({ cls := "HungStreams$TypedText", name := "<init>", desc := "()V" } : Jvm.MethodName) ∈ qm_ws := qm_mem1 (i := 161) rfl rfl
theorem qw_162 : Jvm.Cond.code ({ cls := "HungStreams$TypedText", name := "<init>", desc := "()V" } : Jvm.MethodName) prog_7_method_1_code (1 : Nat) (Option.none : Option Jvm.ClassFile.FieldType) ∈ qm_ws := qm_mem1 (i := 162) rfl rfl
theorem qw_163 : Jvm.Cond.methodLink "HungStreams$TypedText" (3 : Nat) ({ cls := "java/lang/Object", name := "<init>", desc := "()V" } : Jvm.MethodName) ∈ qm_ws := qm_mem1 (i := 163) rfl rfl
theorem qw_164 : Jvm.Cond.fieldLink "HungStreams$TypedText" (9 : Nat) "HungStreams$TypedText" "bytes" "[I" ∈ qm_ws := qm_mem1 (i := 164) rfl rfl
theorem qw_165 : Jvm.Cond.fieldLink "HungStreams$TypedText" (27 : Nat) "HungStreams$TypedText" "length" "I" ∈ qm_ws := qm_mem1 (i := 165) rfl rfl
theorem qw_166 : Jvm.Cond.fieldLink "HungStreams" (185 : Nat) "HungStreams$TypedText" "length" "I" ∈ qm_ws := qm_mem1 (i := 166) rfl rfl
theorem qw_167 : Jvm.Cond.fieldLink "HungStreams$TypedText" (15 : Nat) "HungStreams$TypedText" "numbers" "[I" ∈ qm_ws := qm_mem1 (i := 167) rfl rfl
theorem qw_168 : Jvm.Cond.fieldLink "HungStreams" (201 : Nat) "HungStreams$TypedText" "numbers" "[I" ∈ qm_ws := qm_mem1 (i := 168) rfl rfl
theorem qw_169 : Jvm.Cond.fieldLink "HungStreams$TypedText" (18 : Nat) "HungStreams$TypedText" "weights" "[I" ∈ qm_ws := qm_mem1 (i := 169) rfl rfl
theorem qw_170 : Jvm.Cond.fieldLink "HungStreams" (204 : Nat) "HungStreams$TypedText" "weights" "[I" ∈ qm_ws := qm_mem1 (i := 170) rfl rfl
theorem qw_171 : Jvm.Cond.fieldLink "HungStreams$TypedText" (21 : Nat) "HungStreams$TypedText" "parents" "[I" ∈ qm_ws := qm_mem1 (i := 171) rfl rfl
theorem qw_172 : Jvm.Cond.fieldLink "HungStreams" (207 : Nat) "HungStreams$TypedText" "parents" "[I" ∈ qm_ws := qm_mem1 (i := 172) rfl rfl
theorem qw_173 : Jvm.Cond.fieldLink "HungStreams$TypedText" (31 : Nat) "HungStreams$TypedText" "count" "I" ∈ qm_ws := qm_mem1 (i := 173) rfl rfl
theorem qw_174 : Jvm.Cond.fieldLink "HungStreams" (198 : Nat) "HungStreams$TypedText" "count" "I" ∈ qm_ws := qm_mem1 (i := 174) rfl rfl
theorem qw_175 : Jvm.Cond.fieldLink "HungStreams$TypedText" (24 : Nat) "HungStreams$TypedText" "standsIn" "[I" ∈ qm_ws := qm_mem1 (i := 175) rfl rfl
theorem qw_176 : Jvm.Cond.fieldLink "HungStreams$TypedText" (34 : Nat) "HungStreams$TypedText" "toldBits" "I" ∈ qm_ws := qm_mem1 (i := 176) rfl rfl
theorem qw_177 : Jvm.Cond.fieldLink "HungStreams$TypedText" (37 : Nat) "HungStreams$TypedText" "place" "I" ∈ qm_ws := qm_mem1 (i := 177) rfl rfl
theorem qw_178 : Jvm.Cond.fieldLink "HungStreams$TypedText" (40 : Nat) "HungStreams$TypedText" "fault" "I" ∈ qm_ws := qm_mem1 (i := 178) rfl rfl
theorem qw_179 : Jvm.Cond.laysFinal "HungStreams$TypedText" "HungStreams$TypedText" "bytes" "[I" ∈ qm_ws := qm_mem1 (i := 179) rfl rfl
theorem qw_181 : Jvm.Cond.lays "HungStreams$TypedText" "HungStreams$TypedText" "length" "I" ∈ qm_ws := qm_mem1 (i := 181) rfl rfl
theorem qw_183 : Jvm.Cond.laysFinal "HungStreams$TypedText" "HungStreams$TypedText" "numbers" "[I" ∈ qm_ws := qm_mem1 (i := 183) rfl rfl
theorem qw_185 : Jvm.Cond.laysFinal "HungStreams$TypedText" "HungStreams$TypedText" "weights" "[I" ∈ qm_ws := qm_mem1 (i := 185) rfl rfl
theorem qw_187 : Jvm.Cond.laysFinal "HungStreams$TypedText" "HungStreams$TypedText" "parents" "[I" ∈ qm_ws := qm_mem1 (i := 187) rfl rfl
theorem qw_189 : Jvm.Cond.lays "HungStreams$TypedText" "HungStreams$TypedText" "count" "I" ∈ qm_ws := qm_mem1 (i := 189) rfl rfl
theorem qw_191 : Jvm.Cond.laysFinal "HungStreams$TypedText" "HungStreams$TypedText" "standsIn" "[I" ∈ qm_ws := qm_mem1 (i := 191) rfl rfl
theorem qw_193 : Jvm.Cond.lays "HungStreams$TypedText" "HungStreams$TypedText" "toldBits" "I" ∈ qm_ws := qm_mem1 (i := 193) rfl rfl
theorem qw_195 : Jvm.Cond.lays "HungStreams$TypedText" "HungStreams$TypedText" "place" "I" ∈ qm_ws := qm_mem1 (i := 195) rfl rfl
theorem qw_197 : Jvm.Cond.lays "HungStreams$TypedText" "HungStreams$TypedText" "fault" "I" ∈ qm_ws := qm_mem1 (i := 197) rfl rfl
theorem qw_200 : Jvm.Cond.arrayClass Jvm.ClassFile.FieldType.int ∈ qm_ws := qm_mem1 (i := 200) rfl rfl
theorem qw_201 : Jvm.Cond.classLink "HungStreams" (27 : Nat) "HungStreams$TreeWriter" ∈ qm_ws := qm_mem1 (i := 201) rfl rfl
theorem qw_202 : Jvm.Cond.instantiable "HungStreams$TreeWriter" (2 : Nat) ∈ qm_ws := qm_mem1 (i := 202) rfl rfl
theorem qw_203 : Jvm.Cond.methodLink "HungStreams" (29 : Nat) ({ cls := "HungStreams$TreeWriter", name := "<init>", desc := "()V" } : Jvm.MethodName) ∈ qm_ws := qm_mem1 (i := 203) rfl rfl
theorem qw_204 : Jvm.Cond.instanceMethod ({ cls := "HungStreams$TreeWriter", name := "<init>", desc := "()V" } : Jvm.MethodName) ∈ qm_ws := qm_mem1 (i := 204) rfl rfl
theorem qw_205 : Jvm.Cond.code ({ cls := "HungStreams$TreeWriter", name := "<init>", desc := "()V" } : Jvm.MethodName) prog_6_method_1_code (1 : Nat) (Option.none : Option Jvm.ClassFile.FieldType) ∈ qm_ws := qm_mem1 (i := 205) rfl rfl
theorem qw_206 : Jvm.Cond.methodLink "HungStreams$TreeWriter" (3 : Nat) ({ cls := "java/lang/Object", name := "<init>", desc := "()V" } : Jvm.MethodName) ∈ qm_ws := qm_mem1 (i := 206) rfl rfl
theorem qw_207 : Jvm.Cond.fieldLink "HungStreams$TreeWriter" (9 : Nat) "HungStreams$TreeWriter" "bytes" "[I" ∈ qm_ws := qm_mem1 (i := 207) rfl rfl
theorem qw_208 : Jvm.Cond.fieldLink "HungStreams" (215 : Nat) "HungStreams$TreeWriter" "bytes" "[I" ∈ qm_ws := qm_mem1 (i := 208) rfl rfl
theorem qw_209 : Jvm.Cond.fieldLink "HungStreams$TreeWriter" (15 : Nat) "HungStreams$TreeWriter" "length" "I" ∈ qm_ws := qm_mem1 (i := 209) rfl rfl
theorem qw_210 : Jvm.Cond.fieldLink "HungStreams" (214 : Nat) "HungStreams$TreeWriter" "length" "I" ∈ qm_ws := qm_mem1 (i := 210) rfl rfl
theorem qw_211 : Jvm.Cond.laysFinal "HungStreams$TreeWriter" "HungStreams$TreeWriter" "bytes" "[I" ∈ qm_ws := qm_mem1 (i := 211) rfl rfl
theorem qw_213 : Jvm.Cond.lays "HungStreams$TreeWriter" "HungStreams$TreeWriter" "length" "I" ∈ qm_ws := qm_mem1 (i := 213) rfl rfl
theorem qw_216 : Jvm.Cond.fieldLink "HungStreams" (10 : Nat) "HungStreams" "tree" "LHungStreams$Tree;" ∈ qm_ws := qm_mem1 (i := 216) rfl rfl
theorem qw_217 : Jvm.Cond.fieldLink "HungStreams" (16 : Nat) "HungStreams" "states" "[LHungStreams$Tree;" ∈ qm_ws := qm_mem1 (i := 217) rfl rfl
theorem qw_218 : Jvm.Cond.fieldLink "HungStreams" (221 : Nat) "HungStreams" "oldestState" "I" ∈ qm_ws := qm_mem1 (i := 218) rfl rfl
theorem qw_219 : Jvm.Cond.fieldLink "HungStreams" (218 : Nat) "HungStreams" "stateCount" "I" ∈ qm_ws := qm_mem1 (i := 219) rfl rfl
theorem qw_220 : Jvm.Cond.fieldLink "HungStreams" (23 : Nat) "HungStreams" "text" "LHungStreams$TypedText;" ∈ qm_ws := qm_mem1 (i := 220) rfl rfl
theorem qw_221 : Jvm.Cond.fieldLink "HungStreams" (30 : Nat) "HungStreams" "writer" "LHungStreams$TreeWriter;" ∈ qm_ws := qm_mem1 (i := 221) rfl rfl
theorem qw_222 : Jvm.Cond.fieldLink "HungStreams" (227 : Nat) "HungStreams" "badTimes" "I" ∈ qm_ws := qm_mem1 (i := 222) rfl rfl
theorem qw_223 : Jvm.Cond.fieldLink "HungStreams" (230 : Nat) "HungStreams" "noTimes" "I" ∈ qm_ws := qm_mem1 (i := 223) rfl rfl
theorem qw_224 : Jvm.Cond.fieldLink "HungStreams" (233 : Nat) "HungStreams" "fullTimes" "I" ∈ qm_ws := qm_mem1 (i := 224) rfl rfl
theorem qw_225 : Jvm.Cond.laysFinal "HungStreams" "HungStreams" "tree" "LHungStreams$Tree;" ∈ qm_ws := qm_mem1 (i := 225) rfl rfl
theorem qw_227 : Jvm.Cond.laysFinal "HungStreams" "HungStreams" "states" "[LHungStreams$Tree;" ∈ qm_ws := qm_mem1 (i := 227) rfl rfl
theorem qw_229 : Jvm.Cond.lays "HungStreams" "HungStreams" "oldestState" "I" ∈ qm_ws := qm_mem1 (i := 229) rfl rfl
theorem qw_231 : Jvm.Cond.lays "HungStreams" "HungStreams" "stateCount" "I" ∈ qm_ws := qm_mem1 (i := 231) rfl rfl
theorem qw_233 : Jvm.Cond.laysFinal "HungStreams" "HungStreams" "text" "LHungStreams$TypedText;" ∈ qm_ws := qm_mem1 (i := 233) rfl rfl
theorem qw_235 : Jvm.Cond.laysFinal "HungStreams" "HungStreams" "writer" "LHungStreams$TreeWriter;" ∈ qm_ws := qm_mem1 (i := 235) rfl rfl
theorem qw_237 : Jvm.Cond.lays "HungStreams" "HungStreams" "badTimes" "I" ∈ qm_ws := qm_mem1 (i := 237) rfl rfl
theorem qw_239 : Jvm.Cond.lays "HungStreams" "HungStreams" "noTimes" "I" ∈ qm_ws := qm_mem1 (i := 239) rfl rfl
theorem qw_241 : Jvm.Cond.lays "HungStreams" "HungStreams" "fullTimes" "I" ∈ qm_ws := qm_mem2 (i := 1) rfl rfl
theorem qw_244 : Jvm.Cond.methodLink "HungStreamsLaw" (13 : Nat) ({ cls := "HungStreams", name := "comes", desc := "(IIII)I" } : Jvm.MethodName) ∈ qm_ws := qm_mem2 (i := 4) rfl rfl
theorem qw_245 : Jvm.Cond.instanceMethod ({ cls := "HungStreams", name := "comes", desc := "(IIII)I" } : Jvm.MethodName) ∈ qm_ws := qm_mem2 (i := 5) rfl rfl
theorem qw_246 : Jvm.Cond.selects "HungStreams" ({ cls := "HungStreams", name := "comes", desc := "(IIII)I" } : Jvm.MethodName) ({ cls := "HungStreams", name := "comes", desc := "(IIII)I" } : Jvm.MethodName) ∈ qm_ws := qm_mem2 (i := 6) rfl rfl
theorem qw_247 : Jvm.Cond.code ({ cls := "HungStreams", name := "comes", desc := "(IIII)I" } : Jvm.MethodName) prog_1_method_2_code (5 : Nat) (Option.some Jvm.ClassFile.FieldType.int) ∈ qm_ws := qm_mem2 (i := 7) rfl rfl
theorem qw_248 : Jvm.Cond.methodLink "HungStreams" (34 : Nat) ({ cls := "HungStreams", name := "within", desc := "(III)Z" } : Jvm.MethodName) ∈ qm_ws := qm_mem2 (i := 8) rfl rfl
theorem qw_249 : Jvm.Cond.static ({ cls := "HungStreams", name := "within", desc := "(III)Z" } : Jvm.MethodName) ∈ qm_ws := qm_mem2 (i := 9) rfl rfl
theorem qw_250 : Jvm.Cond.code ({ cls := "HungStreams", name := "within", desc := "(III)Z" } : Jvm.MethodName) prog_1_method_27_code (3 : Nat) (Option.some Jvm.ClassFile.FieldType.boolean) ∈ qm_ws := qm_mem2 (i := 10) rfl rfl
theorem qw_251 : Jvm.Cond.methodLink "HungStreams" (38 : Nat) ({ cls := "HungStreams$Tree", name := "isNode", desc := "(I)Z" } : Jvm.MethodName) ∈ qm_ws := qm_mem2 (i := 11) rfl rfl
theorem qw_252 : Jvm.Cond.instanceMethod ({ cls := "HungStreams$Tree", name := "isNode", desc := "(I)Z" } : Jvm.MethodName) ∈ qm_ws := qm_mem2 (i := 12) rfl rfl
theorem qw_253 : Jvm.Cond.selects "HungStreams$Tree" ({ cls := "HungStreams$Tree", name := "isNode", desc := "(I)Z" } : Jvm.MethodName) ({ cls := "HungStreams$Tree", name := "isNode", desc := "(I)Z" } : Jvm.MethodName) ∈ qm_ws := qm_mem2 (i := 13) rfl rfl
theorem qw_254 : Jvm.Cond.code ({ cls := "HungStreams$Tree", name := "isNode", desc := "(I)Z" } : Jvm.MethodName) prog_5_method_4_code (2 : Nat) (Option.some Jvm.ClassFile.FieldType.boolean) ∈ qm_ws := qm_mem2 (i := 14) rfl rfl
theorem qw_255 : Jvm.Cond.methodLink "HungStreams$Tree" (58 : Nat) ({ cls := "HungStreams$Tree", name := "isThere", desc := "(I)Z" } : Jvm.MethodName) ∈ qm_ws := qm_mem2 (i := 15) rfl rfl
theorem qw_256 : Jvm.Cond.instanceMethod ({ cls := "HungStreams$Tree", name := "isThere", desc := "(I)Z" } : Jvm.MethodName) ∈ qm_ws := qm_mem2 (i := 16) rfl rfl
theorem qw_257 : Jvm.Cond.selects "HungStreams$Tree" ({ cls := "HungStreams$Tree", name := "isThere", desc := "(I)Z" } : Jvm.MethodName) ({ cls := "HungStreams$Tree", name := "isThere", desc := "(I)Z" } : Jvm.MethodName) ∈ qm_ws := qm_mem2 (i := 17) rfl rfl
theorem qw_258 : Jvm.Cond.code ({ cls := "HungStreams$Tree", name := "isThere", desc := "(I)Z" } : Jvm.MethodName) prog_5_method_3_code (2 : Nat) (Option.some Jvm.ClassFile.FieldType.boolean) ∈ qm_ws := qm_mem2 (i := 18) rfl rfl
theorem qw_261 : Jvm.Cond.static ({ cls := "HungStreams", name := "has", desc := "(II)Z" } : Jvm.MethodName) ∈ qm_ws := qm_mem2 (i := 21) rfl rfl
theorem qw_262 : Jvm.Cond.code ({ cls := "HungStreams", name := "has", desc := "(II)Z" } : Jvm.MethodName) prog_1_method_28_code (2 : Nat) (Option.some Jvm.ClassFile.FieldType.boolean) ∈ qm_ws := qm_mem2 (i := 22) rfl rfl
theorem qw_263 : Jvm.Cond.methodLink "HungStreams" (42 : Nat) ({ cls := "HungStreams", name := "refuse", desc := "(I)I" } : Jvm.MethodName) ∈ qm_ws := qm_mem2 (i := 23) rfl rfl
theorem qw_265 : Jvm.Cond.instanceMethod ({ cls := "HungStreams", name := "refuse", desc := "(I)I" } : Jvm.MethodName) ∈ qm_ws := qm_mem2 (i := 25) rfl rfl
theorem qw_266 : Jvm.Cond.code ({ cls := "HungStreams", name := "refuse", desc := "(I)I" } : Jvm.MethodName) prog_1_method_25_code (2 : Nat) (Option.some Jvm.ClassFile.FieldType.int) ∈ qm_ws := qm_mem2 (i := 26) rfl rfl
theorem qw_267 : Jvm.Cond.methodLink "HungStreams" (46 : Nat) ({ cls := "HungStreams$Tree", name := "isThere", desc := "(I)Z" } : Jvm.MethodName) ∈ qm_ws := qm_mem2 (i := 27) rfl rfl
theorem qw_268 : Jvm.Cond.methodLink "HungStreams" (49 : Nat) ({ cls := "HungStreams", name := "leaveState", desc := "()V" } : Jvm.MethodName) ∈ qm_ws := qm_mem2 (i := 28) rfl rfl
theorem qw_270 : Jvm.Cond.instanceMethod ({ cls := "HungStreams", name := "leaveState", desc := "()V" } : Jvm.MethodName) ∈ qm_ws := qm_mem2 (i := 30) rfl rfl
theorem qw_271 : Jvm.Cond.code ({ cls := "HungStreams", name := "leaveState", desc := "()V" } : Jvm.MethodName) prog_1_method_26_code (1 : Nat) (Option.none : Option Jvm.ClassFile.FieldType) ∈ qm_ws := qm_mem2 (i := 31) rfl rfl
theorem qw_272 : Jvm.Cond.methodLink "HungStreams" (224 : Nat) ({ cls := "HungStreams$Tree", name := "copyFrom", desc := "(LHungStreams$Tree;)V" } : Jvm.MethodName) ∈ qm_ws := qm_mem2 (i := 32) rfl rfl
theorem qw_273 : Jvm.Cond.instanceMethod ({ cls := "HungStreams$Tree", name := "copyFrom", desc := "(LHungStreams$Tree;)V" } : Jvm.MethodName) ∈ qm_ws := qm_mem2 (i := 33) rfl rfl
theorem qw_274 : Jvm.Cond.selects "HungStreams$Tree" ({ cls := "HungStreams$Tree", name := "copyFrom", desc := "(LHungStreams$Tree;)V" } : Jvm.MethodName) ({ cls := "HungStreams$Tree", name := "copyFrom", desc := "(LHungStreams$Tree;)V" } : Jvm.MethodName) ∈ qm_ws := qm_mem2 (i := 34) rfl rfl
theorem qw_275 : Jvm.Cond.code ({ cls := "HungStreams$Tree", name := "copyFrom", desc := "(LHungStreams$Tree;)V" } : Jvm.MethodName) prog_5_method_2_code (3 : Nat) (Option.none : Option Jvm.ClassFile.FieldType) ∈ qm_ws := qm_mem2 (i := 35) rfl rfl
theorem qw_276 : Jvm.Cond.methodLink "HungStreams$Tree" (31 : Nat) ({ cls := "HungStreams$Stream", name := "copyFrom", desc := "(LHungStreams$Stream;)V" } : Jvm.MethodName) ∈ qm_ws := qm_mem2 (i := 36) rfl rfl
theorem qw_277 : Jvm.Cond.instanceMethod ({ cls := "HungStreams$Stream", name := "copyFrom", desc := "(LHungStreams$Stream;)V" } : Jvm.MethodName) ∈ qm_ws := qm_mem2 (i := 37) rfl rfl
theorem qw_278 : Jvm.Cond.selects "HungStreams$Stream" ({ cls := "HungStreams$Stream", name := "copyFrom", desc := "(LHungStreams$Stream;)V" } : Jvm.MethodName) ({ cls := "HungStreams$Stream", name := "copyFrom", desc := "(LHungStreams$Stream;)V" } : Jvm.MethodName) ∈ qm_ws := qm_mem2 (i := 38) rfl rfl
theorem qw_279 : Jvm.Cond.code ({ cls := "HungStreams$Stream", name := "copyFrom", desc := "(LHungStreams$Stream;)V" } : Jvm.MethodName) prog_4_method_3_code (2 : Nat) (Option.none : Option Jvm.ClassFile.FieldType) ∈ qm_ws := qm_mem2 (i := 39) rfl rfl
theorem qw_280 : Jvm.Cond.methodLink "HungStreams" (52 : Nat) ({ cls := "HungStreams$Tree", name := "enter", desc := "(II)V" } : Jvm.MethodName) ∈ qm_ws := qm_mem2 (i := 40) rfl rfl
theorem qw_281 : Jvm.Cond.instanceMethod ({ cls := "HungStreams$Tree", name := "enter", desc := "(II)V" } : Jvm.MethodName) ∈ qm_ws := qm_mem2 (i := 41) rfl rfl
theorem qw_282 : Jvm.Cond.selects "HungStreams$Tree" ({ cls := "HungStreams$Tree", name := "enter", desc := "(II)V" } : Jvm.MethodName) ({ cls := "HungStreams$Tree", name := "enter", desc := "(II)V" } : Jvm.MethodName) ∈ qm_ws := qm_mem2 (i := 42) rfl rfl
theorem qw_283 : Jvm.Cond.code ({ cls := "HungStreams$Tree", name := "enter", desc := "(II)V" } : Jvm.MethodName) prog_5_method_17_code (3 : Nat) (Option.none : Option Jvm.ClassFile.FieldType) ∈ qm_ws := qm_mem2 (i := 43) rfl rfl
theorem qw_284 : Jvm.Cond.methodLink "HungStreams$Tree" (94 : Nat) ({ cls := "HungStreams$Stream", name := "begin", desc := "(I)V" } : Jvm.MethodName) ∈ qm_ws := qm_mem2 (i := 44) rfl rfl
theorem qw_285 : Jvm.Cond.instanceMethod ({ cls := "HungStreams$Stream", name := "begin", desc := "(I)V" } : Jvm.MethodName) ∈ qm_ws := qm_mem2 (i := 45) rfl rfl
theorem qw_286 : Jvm.Cond.selects "HungStreams$Stream" ({ cls := "HungStreams$Stream", name := "begin", desc := "(I)V" } : Jvm.MethodName) ({ cls := "HungStreams$Stream", name := "begin", desc := "(I)V" } : Jvm.MethodName) ∈ qm_ws := qm_mem2 (i := 46) rfl rfl
theorem qw_287 : Jvm.Cond.code ({ cls := "HungStreams$Stream", name := "begin", desc := "(I)V" } : Jvm.MethodName) prog_4_method_2_code (2 : Nat) (Option.none : Option Jvm.ClassFile.FieldType) ∈ qm_ws := qm_mem2 (i := 47) rfl rfl
theorem qw_288 : Jvm.Cond.methodLink "HungStreams" (56 : Nat) ({ cls := "HungStreams$Tree", name := "attach", desc := "(IIZ)V" } : Jvm.MethodName) ∈ qm_ws := qm_mem2 (i := 48) rfl rfl
theorem qw_289 : Jvm.Cond.instanceMethod ({ cls := "HungStreams$Tree", name := "attach", desc := "(IIZ)V" } : Jvm.MethodName) ∈ qm_ws := qm_mem2 (i := 49) rfl rfl
theorem qw_290 : Jvm.Cond.selects "HungStreams$Tree" ({ cls := "HungStreams$Tree", name := "attach", desc := "(IIZ)V" } : Jvm.MethodName) ({ cls := "HungStreams$Tree", name := "attach", desc := "(IIZ)V" } : Jvm.MethodName) ∈ qm_ws := qm_mem2 (i := 50) rfl rfl
theorem qw_291 : Jvm.Cond.code ({ cls := "HungStreams$Tree", name := "attach", desc := "(IIZ)V" } : Jvm.MethodName) prog_5_method_19_code (4 : Nat) (Option.none : Option Jvm.ClassFile.FieldType) ∈ qm_ws := qm_mem2 (i := 51) rfl rfl
theorem qw_292 : Jvm.Cond.methodLink "HungStreams$Tree" (105 : Nat) ({ cls := "HungStreams$Tree", name := "hangChildren", desc := "(II)V" } : Jvm.MethodName) ∈ qm_ws := qm_mem2 (i := 52) rfl rfl
theorem qw_293 : Jvm.Cond.instanceMethod ({ cls := "HungStreams$Tree", name := "hangChildren", desc := "(II)V" } : Jvm.MethodName) ∈ qm_ws := qm_mem2 (i := 53) rfl rfl
theorem qw_294 : Jvm.Cond.selects "HungStreams$Tree" ({ cls := "HungStreams$Tree", name := "hangChildren", desc := "(II)V" } : Jvm.MethodName) ({ cls := "HungStreams$Tree", name := "hangChildren", desc := "(II)V" } : Jvm.MethodName) ∈ qm_ws := qm_mem2 (i := 54) rfl rfl
theorem qw_295 : Jvm.Cond.code ({ cls := "HungStreams$Tree", name := "hangChildren", desc := "(II)V" } : Jvm.MethodName) prog_5_method_20_code (4 : Nat) (Option.none : Option Jvm.ClassFile.FieldType) ∈ qm_ws := qm_mem2 (i := 55) rfl rfl
theorem qw_296 : Jvm.Cond.methodLink "HungStreams$Tree" (65 : Nat) ({ cls := "HungStreams$Tree", name := "isChild", desc := "(II)Z" } : Jvm.MethodName) ∈ qm_ws := qm_mem2 (i := 56) rfl rfl
theorem qw_297 : Jvm.Cond.instanceMethod ({ cls := "HungStreams$Tree", name := "isChild", desc := "(II)Z" } : Jvm.MethodName) ∈ qm_ws := qm_mem2 (i := 57) rfl rfl
theorem qw_298 : Jvm.Cond.selects "HungStreams$Tree" ({ cls := "HungStreams$Tree", name := "isChild", desc := "(II)Z" } : Jvm.MethodName) ({ cls := "HungStreams$Tree", name := "isChild", desc := "(II)Z" } : Jvm.MethodName) ∈ qm_ws := qm_mem2 (i := 58) rfl rfl
theorem qw_299 : Jvm.Cond.code ({ cls := "HungStreams$Tree", name := "isChild", desc := "(II)Z" } : Jvm.MethodName) prog_5_method_5_code (3 : Nat) (Option.some Jvm.ClassFile.FieldType.boolean) ∈ qm_ws := qm_mem2 (i := 59) rfl rfl
theorem qw_300 : Jvm.Cond.methodLink "HungStreams$Tree" (109 : Nat) ({ cls := "HungStreams$Tree", name := "hang", desc := "(II)V" } : Jvm.MethodName) ∈ qm_ws := qm_mem2 (i := 60) rfl rfl
theorem qw_301 : Jvm.Cond.instanceMethod ({ cls := "HungStreams$Tree", name := "hang", desc := "(II)V" } : Jvm.MethodName) ∈ qm_ws := qm_mem2 (i := 61) rfl rfl
theorem qw_302 : Jvm.Cond.selects "HungStreams$Tree" ({ cls := "HungStreams$Tree", name := "hang", desc := "(II)V" } : Jvm.MethodName) ({ cls := "HungStreams$Tree", name := "hang", desc := "(II)V" } : Jvm.MethodName) ∈ qm_ws := qm_mem2 (i := 62) rfl rfl
theorem qw_303 : Jvm.Cond.code ({ cls := "HungStreams$Tree", name := "hang", desc := "(II)V" } : Jvm.MethodName) prog_5_method_18_code (3 : Nat) (Option.none : Option Jvm.ClassFile.FieldType) ∈ qm_ws := qm_mem2 (i := 63) rfl rfl
theorem qw_304 : Jvm.Cond.methodLink "HungStreams" (60 : Nat) ({ cls := "HungStreams$Tree", name := "childCount", desc := "(I)I" } : Jvm.MethodName) ∈ qm_ws := qm_mem2 (i := 64) rfl rfl
theorem qw_305 : Jvm.Cond.instanceMethod ({ cls := "HungStreams$Tree", name := "childCount", desc := "(I)I" } : Jvm.MethodName) ∈ qm_ws := qm_mem2 (i := 65) rfl rfl
theorem qw_306 : Jvm.Cond.selects "HungStreams$Tree" ({ cls := "HungStreams$Tree", name := "childCount", desc := "(I)I" } : Jvm.MethodName) ({ cls := "HungStreams$Tree", name := "childCount", desc := "(I)I" } : Jvm.MethodName) ∈ qm_ws := qm_mem2 (i := 66) rfl rfl
theorem qw_307 : Jvm.Cond.code ({ cls := "HungStreams$Tree", name := "childCount", desc := "(I)I" } : Jvm.MethodName) prog_5_method_6_code (4 : Nat) (Option.some Jvm.ClassFile.FieldType.int) ∈ qm_ws := qm_mem2 (i := 67) rfl rfl
theorem qw_308 : Jvm.Cond.methodLink "HungStreamsLaw" (18 : Nat) ({ cls := "HungStreams", name := "moves", desc := "(IIII)I" } : Jvm.MethodName) ∈ qm_ws := qm_mem2 (i := 68) rfl rfl
theorem qw_309 : Jvm.Cond.instanceMethod ({ cls := "HungStreams", name := "moves", desc := "(IIII)I" } : Jvm.MethodName) ∈ qm_ws := qm_mem2 (i := 69) rfl rfl
theorem qw_310 : Jvm.Cond.selects "HungStreams" ({ cls := "HungStreams", name := "moves", desc := "(IIII)I" } : Jvm.MethodName) ({ cls := "HungStreams", name := "moves", desc := "(IIII)I" } : Jvm.MethodName) ∈ qm_ws := qm_mem2 (i := 70) rfl rfl
theorem qw_311 : Jvm.Cond.code ({ cls := "HungStreams", name := "moves", desc := "(IIII)I" } : Jvm.MethodName) prog_1_method_3_code (5 : Nat) (Option.some Jvm.ClassFile.FieldType.int) ∈ qm_ws := qm_mem2 (i := 71) rfl rfl
theorem qw_312 : Jvm.Cond.methodLink "HungStreams" (63 : Nat) ({ cls := "HungStreams$Tree", name := "isBelow", desc := "(II)Z" } : Jvm.MethodName) ∈ qm_ws := qm_mem2 (i := 72) rfl rfl
theorem qw_313 : Jvm.Cond.instanceMethod ({ cls := "HungStreams$Tree", name := "isBelow", desc := "(II)Z" } : Jvm.MethodName) ∈ qm_ws := qm_mem2 (i := 73) rfl rfl
theorem qw_314 : Jvm.Cond.selects "HungStreams$Tree" ({ cls := "HungStreams$Tree", name := "isBelow", desc := "(II)Z" } : Jvm.MethodName) ({ cls := "HungStreams$Tree", name := "isBelow", desc := "(II)Z" } : Jvm.MethodName) ∈ qm_ws := qm_mem2 (i := 74) rfl rfl
theorem qw_315 : Jvm.Cond.code ({ cls := "HungStreams$Tree", name := "isBelow", desc := "(II)Z" } : Jvm.MethodName) prog_5_method_10_code (3 : Nat) (Option.some Jvm.ClassFile.FieldType.boolean) ∈ qm_ws := qm_mem2 (i := 75) rfl rfl
theorem qw_316 : Jvm.Cond.methodLink "HungStreams$Tree" (71 : Nat) ({ cls := "HungStreams$Tree", name := "lineBits", desc := "(I)I" } : Jvm.MethodName) ∈ qm_ws := qm_mem2 (i := 76) rfl rfl
theorem qw_317 : Jvm.Cond.instanceMethod ({ cls := "HungStreams$Tree", name := "lineBits", desc := "(I)I" } : Jvm.MethodName) ∈ qm_ws := qm_mem2 (i := 77) rfl rfl
theorem qw_318 : Jvm.Cond.selects "HungStreams$Tree" ({ cls := "HungStreams$Tree", name := "lineBits", desc := "(I)I" } : Jvm.MethodName) ({ cls := "HungStreams$Tree", name := "lineBits", desc := "(I)I" } : Jvm.MethodName) ∈ qm_ws := qm_mem2 (i := 78) rfl rfl
theorem qw_319 : Jvm.Cond.code ({ cls := "HungStreams$Tree", name := "lineBits", desc := "(I)I" } : Jvm.MethodName) prog_5_method_9_code (5 : Nat) (Option.some Jvm.ClassFile.FieldType.int) ∈ qm_ws := qm_mem2 (i := 79) rfl rfl
theorem qw_320 : Jvm.Cond.methodLink "HungStreams" (77 : Nat) ({ cls := "HungStreams$Tree", name := "hang", desc := "(II)V" } : Jvm.MethodName) ∈ qm_ws := qm_mem2 (i := 80) rfl rfl
theorem qw_321 : Jvm.Cond.methodLink "HungStreamsLaw" (22 : Nat) ({ cls := "HungStreams", name := "sets", desc := "(III)I" } : Jvm.MethodName) ∈ qm_ws := qm_mem2 (i := 81) rfl rfl
theorem qw_322 : Jvm.Cond.instanceMethod ({ cls := "HungStreams", name := "sets", desc := "(III)I" } : Jvm.MethodName) ∈ qm_ws := qm_mem2 (i := 82) rfl rfl
theorem qw_323 : Jvm.Cond.selects "HungStreams" ({ cls := "HungStreams", name := "sets", desc := "(III)I" } : Jvm.MethodName) ({ cls := "HungStreams", name := "sets", desc := "(III)I" } : Jvm.MethodName) ∈ qm_ws := qm_mem2 (i := 83) rfl rfl
theorem qw_324 : Jvm.Cond.code ({ cls := "HungStreams", name := "sets", desc := "(III)I" } : Jvm.MethodName) prog_1_method_4_code (4 : Nat) (Option.some Jvm.ClassFile.FieldType.int) ∈ qm_ws := qm_mem2 (i := 84) rfl rfl
theorem qw_325 : Jvm.Cond.fieldLink "HungStreams" (83 : Nat) "HungStreams" "LEAST_SET" "[I" ∈ qm_ws := qm_mem2 (i := 85) rfl rfl
theorem qw_327 : Jvm.Cond.fieldLink "HungStreams" (87 : Nat) "HungStreams" "MOST_SET" "[I" ∈ qm_ws := qm_mem2 (i := 87) rfl rfl
theorem qw_329 : Jvm.Cond.methodLink "HungStreams" (90 : Nat) ({ cls := "HungStreams$Stream", name := "change", desc := "(II)I" } : Jvm.MethodName) ∈ qm_ws := qm_mem2 (i := 89) rfl rfl
theorem qw_330 : Jvm.Cond.instanceMethod ({ cls := "HungStreams$Stream", name := "change", desc := "(II)I" } : Jvm.MethodName) ∈ qm_ws := qm_mem2 (i := 90) rfl rfl
theorem qw_331 : Jvm.Cond.selects "HungStreams$Stream" ({ cls := "HungStreams$Stream", name := "change", desc := "(II)I" } : Jvm.MethodName) ({ cls := "HungStreams$Stream", name := "change", desc := "(II)I" } : Jvm.MethodName) ∈ qm_ws := qm_mem2 (i := 91) rfl rfl
theorem qw_332 : Jvm.Cond.code ({ cls := "HungStreams$Stream", name := "change", desc := "(II)I" } : Jvm.MethodName) prog_4_method_6_code (4 : Nat) (Option.some Jvm.ClassFile.FieldType.int) ∈ qm_ws := qm_mem2 (i := 92) rfl rfl
theorem qw_333 : Jvm.Cond.methodLink "HungStreamsLaw" (27 : Nat) ({ cls := "HungStreams", name := "closes", desc := "(I)I" } : Jvm.MethodName) ∈ qm_ws := qm_mem2 (i := 93) rfl rfl
theorem qw_334 : Jvm.Cond.instanceMethod ({ cls := "HungStreams", name := "closes", desc := "(I)I" } : Jvm.MethodName) ∈ qm_ws := qm_mem2 (i := 94) rfl rfl
theorem qw_335 : Jvm.Cond.selects "HungStreams" ({ cls := "HungStreams", name := "closes", desc := "(I)I" } : Jvm.MethodName) ({ cls := "HungStreams", name := "closes", desc := "(I)I" } : Jvm.MethodName) ∈ qm_ws := qm_mem2 (i := 95) rfl rfl
theorem qw_336 : Jvm.Cond.code ({ cls := "HungStreams", name := "closes", desc := "(I)I" } : Jvm.MethodName) prog_1_method_5_code (2 : Nat) (Option.some Jvm.ClassFile.FieldType.int) ∈ qm_ws := qm_mem2 (i := 96) rfl rfl
theorem qw_337 : Jvm.Cond.methodLink "HungStreams" (101 : Nat) ({ cls := "HungStreams$Tree", name := "letGo", desc := "()V" } : Jvm.MethodName) ∈ qm_ws := qm_mem2 (i := 97) rfl rfl
theorem qw_338 : Jvm.Cond.instanceMethod ({ cls := "HungStreams$Tree", name := "letGo", desc := "()V" } : Jvm.MethodName) ∈ qm_ws := qm_mem2 (i := 98) rfl rfl
theorem qw_339 : Jvm.Cond.selects "HungStreams$Tree" ({ cls := "HungStreams$Tree", name := "letGo", desc := "()V" } : Jvm.MethodName) ({ cls := "HungStreams$Tree", name := "letGo", desc := "()V" } : Jvm.MethodName) ∈ qm_ws := qm_mem2 (i := 99) rfl rfl
theorem qw_340 : Jvm.Cond.code ({ cls := "HungStreams$Tree", name := "letGo", desc := "()V" } : Jvm.MethodName) prog_5_method_22_code (2 : Nat) (Option.none : Option Jvm.ClassFile.FieldType) ∈ qm_ws := qm_mem2 (i := 100) rfl rfl
theorem qw_341 : Jvm.Cond.methodLink "HungStreams$Tree" (122 : Nat) ({ cls := "HungStreams$Tree", name := "leave", desc := "(I)V" } : Jvm.MethodName) ∈ qm_ws := qm_mem2 (i := 101) rfl rfl
theorem qw_342 : Jvm.Cond.instanceMethod ({ cls := "HungStreams$Tree", name := "leave", desc := "(I)V" } : Jvm.MethodName) ∈ qm_ws := qm_mem2 (i := 102) rfl rfl
theorem qw_343 : Jvm.Cond.selects "HungStreams$Tree" ({ cls := "HungStreams$Tree", name := "leave", desc := "(I)V" } : Jvm.MethodName) ({ cls := "HungStreams$Tree", name := "leave", desc := "(I)V" } : Jvm.MethodName) ∈ qm_ws := qm_mem2 (i := 103) rfl rfl
theorem qw_344 : Jvm.Cond.code ({ cls := "HungStreams$Tree", name := "leave", desc := "(I)V" } : Jvm.MethodName) prog_5_method_23_code (5 : Nat) (Option.none : Option Jvm.ClassFile.FieldType) ∈ qm_ws := qm_mem2 (i := 104) rfl rfl
theorem qw_345 : Jvm.Cond.methodLink "HungStreams$Tree" (125 : Nat) ({ cls := "HungStreams$Tree", name := "childWeights", desc := "(II)I" } : Jvm.MethodName) ∈ qm_ws := qm_mem2 (i := 105) rfl rfl
theorem qw_346 : Jvm.Cond.instanceMethod ({ cls := "HungStreams$Tree", name := "childWeights", desc := "(II)I" } : Jvm.MethodName) ∈ qm_ws := qm_mem2 (i := 106) rfl rfl
theorem qw_347 : Jvm.Cond.selects "HungStreams$Tree" ({ cls := "HungStreams$Tree", name := "childWeights", desc := "(II)I" } : Jvm.MethodName) ({ cls := "HungStreams$Tree", name := "childWeights", desc := "(II)I" } : Jvm.MethodName) ∈ qm_ws := qm_mem2 (i := 107) rfl rfl
theorem qw_348 : Jvm.Cond.code ({ cls := "HungStreams$Tree", name := "childWeights", desc := "(II)I" } : Jvm.MethodName) prog_5_method_8_code (5 : Nat) (Option.some Jvm.ClassFile.FieldType.int) ∈ qm_ws := qm_mem2 (i := 108) rfl rfl
theorem qw_350 : Jvm.Cond.static ({ cls := "HungStreams", name := "cut", desc := "(JJ)J" } : Jvm.MethodName) ∈ qm_ws := qm_mem2 (i := 110) rfl rfl
theorem qw_351 : Jvm.Cond.code ({ cls := "HungStreams", name := "cut", desc := "(JJ)J" } : Jvm.MethodName) prog_1_method_29_code (4 : Nat) (Option.some Jvm.ClassFile.FieldType.long) ∈ qm_ws := qm_mem2 (i := 111) rfl rfl
theorem qw_352 : Jvm.Cond.methodLink "HungStreams$Tree" (132 : Nat) ({ cls := "java/lang/Math", name := "max", desc := "(JJ)J" } : Jvm.MethodName) ∈ qm_ws := qm_mem2 (i := 112) rfl rfl
theorem qw_353 : Jvm.Cond.static ({ cls := "java/lang/Math", name := "max", desc := "(JJ)J" } : Jvm.MethodName) ∈ qm_ws := qm_mem2 (i := 113) rfl rfl
theorem qw_354 : Jvm.Cond.code ({ cls := "java/lang/Math", name := "max", desc := "(JJ)J" } : Jvm.MethodName) prog_11_method_66_code (4 : Nat) (Option.some Jvm.ClassFile.FieldType.long) ∈ qm_ws := qm_mem2 (i := 114) rfl rfl
theorem qw_355 : Jvm.Cond.methodLink "HungStreams" (107 : Nat) ({ cls := "java/lang/Integer", name := "bitCount", desc := "(I)I" } : Jvm.MethodName) ∈ qm_ws := qm_mem2 (i := 115) rfl rfl
theorem qw_356 : Jvm.Cond.static ({ cls := "java/lang/Integer", name := "bitCount", desc := "(I)I" } : Jvm.MethodName) ∈ qm_ws := qm_mem2 (i := 116) rfl rfl
theorem qw_357 : Jvm.Cond.code ({ cls := "java/lang/Integer", name := "bitCount", desc := "(I)I" } : Jvm.MethodName) prog_10_method_49_code (1 : Nat) (Option.some Jvm.ClassFile.FieldType.int) ∈ qm_ws := qm_mem2 (i := 117) rfl rfl
theorem qw_358 : Jvm.Cond.constant "java/lang/Integer" (265 : Nat) (1431655765 : Int32) ∈ qm_ws := qm_mem2 (i := 118) rfl rfl
theorem qw_359 : Jvm.Cond.constant "java/lang/Integer" (266 : Nat) (858993459 : Int32) ∈ qm_ws := qm_mem2 (i := 119) rfl rfl
theorem qw_360 : Jvm.Cond.constant "java/lang/Integer" (267 : Nat) (252645135 : Int32) ∈ qm_ws := qm_mem2 (i := 120) rfl rfl
theorem qw_361 : Jvm.Cond.methodLink "HungStreamsLaw" (32 : Nat) ({ cls := "HungStreams", name := "of", desc := "(II)I" } : Jvm.MethodName) ∈ qm_ws := qm_mem2 (i := 121) rfl rfl
theorem qw_362 : Jvm.Cond.instanceMethod ({ cls := "HungStreams", name := "of", desc := "(II)I" } : Jvm.MethodName) ∈ qm_ws := qm_mem2 (i := 122) rfl rfl
theorem qw_363 : Jvm.Cond.selects "HungStreams" ({ cls := "HungStreams", name := "of", desc := "(II)I" } : Jvm.MethodName) ({ cls := "HungStreams", name := "of", desc := "(II)I" } : Jvm.MethodName) ∈ qm_ws := qm_mem2 (i := 123) rfl rfl
theorem qw_364 : Jvm.Cond.code ({ cls := "HungStreams", name := "of", desc := "(II)I" } : Jvm.MethodName) prog_1_method_6_code (3 : Nat) (Option.some Jvm.ClassFile.FieldType.int) ∈ qm_ws := qm_mem2 (i := 124) rfl rfl
theorem qw_365 : Jvm.Cond.methodLink "HungStreams" (112 : Nat) ({ cls := "HungStreams$Tree", name := "belowCount", desc := "(I)I" } : Jvm.MethodName) ∈ qm_ws := qm_mem2 (i := 125) rfl rfl
theorem qw_366 : Jvm.Cond.instanceMethod ({ cls := "HungStreams$Tree", name := "belowCount", desc := "(I)I" } : Jvm.MethodName) ∈ qm_ws := qm_mem2 (i := 126) rfl rfl
theorem qw_367 : Jvm.Cond.selects "HungStreams$Tree" ({ cls := "HungStreams$Tree", name := "belowCount", desc := "(I)I" } : Jvm.MethodName) ({ cls := "HungStreams$Tree", name := "belowCount", desc := "(I)I" } : Jvm.MethodName) ∈ qm_ws := qm_mem2 (i := 127) rfl rfl
theorem qw_368 : Jvm.Cond.code ({ cls := "HungStreams$Tree", name := "belowCount", desc := "(I)I" } : Jvm.MethodName) prog_5_method_11_code (4 : Nat) (Option.some Jvm.ClassFile.FieldType.int) ∈ qm_ws := qm_mem2 (i := 128) rfl rfl
theorem qw_369 : Jvm.Cond.methodLink "HungStreams$Tree" (75 : Nat) ({ cls := "HungStreams$Tree", name := "isBelow", desc := "(II)Z" } : Jvm.MethodName) ∈ qm_ws := qm_mem2 (i := 129) rfl rfl
theorem qw_370 : Jvm.Cond.methodLink "HungStreams" (115 : Nat) ({ cls := "HungStreams$Stream", name := "can", desc := "()Z" } : Jvm.MethodName) ∈ qm_ws := qm_mem2 (i := 130) rfl rfl
theorem qw_371 : Jvm.Cond.instanceMethod ({ cls := "HungStreams$Stream", name := "can", desc := "()Z" } : Jvm.MethodName) ∈ qm_ws := qm_mem2 (i := 131) rfl rfl
theorem qw_372 : Jvm.Cond.selects "HungStreams$Stream" ({ cls := "HungStreams$Stream", name := "can", desc := "()Z" } : Jvm.MethodName) ({ cls := "HungStreams$Stream", name := "can", desc := "()Z" } : Jvm.MethodName) ∈ qm_ws := qm_mem2 (i := 132) rfl rfl
theorem qw_373 : Jvm.Cond.code ({ cls := "HungStreams$Stream", name := "can", desc := "()Z" } : Jvm.MethodName) prog_4_method_4_code (1 : Nat) (Option.some Jvm.ClassFile.FieldType.boolean) ∈ qm_ws := qm_mem2 (i := 133) rfl rfl
theorem qw_374 : Jvm.Cond.methodLink "HungStreams" (119 : Nat) ({ cls := "HungStreams$Tree", name := "canBits", desc := "()I" } : Jvm.MethodName) ∈ qm_ws := qm_mem2 (i := 134) rfl rfl
theorem qw_375 : Jvm.Cond.instanceMethod ({ cls := "HungStreams$Tree", name := "canBits", desc := "()I" } : Jvm.MethodName) ∈ qm_ws := qm_mem2 (i := 135) rfl rfl
theorem qw_376 : Jvm.Cond.selects "HungStreams$Tree" ({ cls := "HungStreams$Tree", name := "canBits", desc := "()I" } : Jvm.MethodName) ({ cls := "HungStreams$Tree", name := "canBits", desc := "()I" } : Jvm.MethodName) ∈ qm_ws := qm_mem2 (i := 136) rfl rfl
theorem qw_377 : Jvm.Cond.code ({ cls := "HungStreams$Tree", name := "canBits", desc := "()I" } : Jvm.MethodName) prog_5_method_13_code (3 : Nat) (Option.some Jvm.ClassFile.FieldType.int) ∈ qm_ws := qm_mem2 (i := 137) rfl rfl
theorem qw_378 : Jvm.Cond.methodLink "HungStreams$Tree" (78 : Nat) ({ cls := "HungStreams$Stream", name := "can", desc := "()Z" } : Jvm.MethodName) ∈ qm_ws := qm_mem2 (i := 138) rfl rfl
theorem qw_379 : Jvm.Cond.methodLink "HungStreams" (123 : Nat) ({ cls := "HungStreams$Tree", name := "liveBits", desc := "(I)I" } : Jvm.MethodName) ∈ qm_ws := qm_mem2 (i := 139) rfl rfl
theorem qw_380 : Jvm.Cond.instanceMethod ({ cls := "HungStreams$Tree", name := "liveBits", desc := "(I)I" } : Jvm.MethodName) ∈ qm_ws := qm_mem2 (i := 140) rfl rfl
theorem qw_381 : Jvm.Cond.selects "HungStreams$Tree" ({ cls := "HungStreams$Tree", name := "liveBits", desc := "(I)I" } : Jvm.MethodName) ({ cls := "HungStreams$Tree", name := "liveBits", desc := "(I)I" } : Jvm.MethodName) ∈ qm_ws := qm_mem2 (i := 141) rfl rfl
theorem qw_382 : Jvm.Cond.code ({ cls := "HungStreams$Tree", name := "liveBits", desc := "(I)I" } : Jvm.MethodName) prog_5_method_14_code (4 : Nat) (Option.some Jvm.ClassFile.FieldType.int) ∈ qm_ws := qm_mem2 (i := 142) rfl rfl
theorem qw_383 : Jvm.Cond.methodLink "HungStreams" (126 : Nat) ({ cls := "HungStreams", name := "has", desc := "(II)Z" } : Jvm.MethodName) ∈ qm_ws := qm_mem2 (i := 143) rfl rfl
theorem qw_384 : Jvm.Cond.methodLink "HungStreams" (129 : Nat) ({ cls := "HungStreams$Stream", name := "held", desc := "(I)I" } : Jvm.MethodName) ∈ qm_ws := qm_mem2 (i := 144) rfl rfl
theorem qw_385 : Jvm.Cond.instanceMethod ({ cls := "HungStreams$Stream", name := "held", desc := "(I)I" } : Jvm.MethodName) ∈ qm_ws := qm_mem2 (i := 145) rfl rfl
theorem qw_386 : Jvm.Cond.selects "HungStreams$Stream" ({ cls := "HungStreams$Stream", name := "held", desc := "(I)I" } : Jvm.MethodName) ({ cls := "HungStreams$Stream", name := "held", desc := "(I)I" } : Jvm.MethodName) ∈ qm_ws := qm_mem2 (i := 146) rfl rfl
theorem qw_387 : Jvm.Cond.code ({ cls := "HungStreams$Stream", name := "held", desc := "(I)I" } : Jvm.MethodName) prog_4_method_5_code (2 : Nat) (Option.some Jvm.ClassFile.FieldType.int) ∈ qm_ws := qm_mem2 (i := 147) rfl rfl
theorem qw_388 : Jvm.Cond.methodLink "HungStreamsLaw" (37 : Nat) ({ cls := "HungStreams", name := "turn", desc := "(II)J" } : Jvm.MethodName) ∈ qm_ws := qm_mem2 (i := 148) rfl rfl
theorem qw_389 : Jvm.Cond.instanceMethod ({ cls := "HungStreams", name := "turn", desc := "(II)J" } : Jvm.MethodName) ∈ qm_ws := qm_mem2 (i := 149) rfl rfl
theorem qw_390 : Jvm.Cond.selects "HungStreams" ({ cls := "HungStreams", name := "turn", desc := "(II)J" } : Jvm.MethodName) ({ cls := "HungStreams", name := "turn", desc := "(II)J" } : Jvm.MethodName) ∈ qm_ws := qm_mem2 (i := 150) rfl rfl
theorem qw_391 : Jvm.Cond.code ({ cls := "HungStreams", name := "turn", desc := "(II)J" } : Jvm.MethodName) prog_1_method_7_code (3 : Nat) (Option.some Jvm.ClassFile.FieldType.long) ∈ qm_ws := qm_mem2 (i := 151) rfl rfl
theorem qw_392 : Jvm.Cond.methodLink "HungStreamsLaw" (42 : Nat) ({ cls := "HungStreams", name := "child", desc := "(II)I" } : Jvm.MethodName) ∈ qm_ws := qm_mem2 (i := 152) rfl rfl
theorem qw_393 : Jvm.Cond.instanceMethod ({ cls := "HungStreams", name := "child", desc := "(II)I" } : Jvm.MethodName) ∈ qm_ws := qm_mem2 (i := 153) rfl rfl
theorem qw_394 : Jvm.Cond.selects "HungStreams" ({ cls := "HungStreams", name := "child", desc := "(II)I" } : Jvm.MethodName) ({ cls := "HungStreams", name := "child", desc := "(II)I" } : Jvm.MethodName) ∈ qm_ws := qm_mem2 (i := 154) rfl rfl
theorem qw_395 : Jvm.Cond.code ({ cls := "HungStreams", name := "child", desc := "(II)I" } : Jvm.MethodName) prog_1_method_8_code (3 : Nat) (Option.some Jvm.ClassFile.FieldType.int) ∈ qm_ws := qm_mem2 (i := 155) rfl rfl
theorem qw_396 : Jvm.Cond.methodLink "HungStreams" (139 : Nat) ({ cls := "HungStreams$Tree", name := "childAt", desc := "(II)I" } : Jvm.MethodName) ∈ qm_ws := qm_mem2 (i := 156) rfl rfl
theorem qw_397 : Jvm.Cond.instanceMethod ({ cls := "HungStreams$Tree", name := "childAt", desc := "(II)I" } : Jvm.MethodName) ∈ qm_ws := qm_mem2 (i := 157) rfl rfl
theorem qw_398 : Jvm.Cond.selects "HungStreams$Tree" ({ cls := "HungStreams$Tree", name := "childAt", desc := "(II)I" } : Jvm.MethodName) ({ cls := "HungStreams$Tree", name := "childAt", desc := "(II)I" } : Jvm.MethodName) ∈ qm_ws := qm_mem2 (i := 158) rfl rfl
theorem qw_399 : Jvm.Cond.code ({ cls := "HungStreams$Tree", name := "childAt", desc := "(II)I" } : Jvm.MethodName) prog_5_method_7_code (5 : Nat) (Option.some Jvm.ClassFile.FieldType.int) ∈ qm_ws := qm_mem2 (i := 159) rfl rfl
theorem qw_400 : Jvm.Cond.methodLink "HungStreamsLaw" (46 : Nat) ({ cls := "HungStreams", name := "common", desc := "(II)I" } : Jvm.MethodName) ∈ qm_ws := qm_mem2 (i := 160) rfl rfl
theorem qw_401 : Jvm.Cond.instanceMethod ({ cls := "HungStreams", name := "common", desc := "(II)I" } : Jvm.MethodName) ∈ qm_ws := qm_mem2 (i := 161) rfl rfl
theorem qw_402 : Jvm.Cond.selects "HungStreams" ({ cls := "HungStreams", name := "common", desc := "(II)I" } : Jvm.MethodName) ({ cls := "HungStreams", name := "common", desc := "(II)I" } : Jvm.MethodName) ∈ qm_ws := qm_mem2 (i := 162) rfl rfl
theorem qw_403 : Jvm.Cond.code ({ cls := "HungStreams", name := "common", desc := "(II)I" } : Jvm.MethodName) prog_1_method_9_code (3 : Nat) (Option.some Jvm.ClassFile.FieldType.int) ∈ qm_ws := qm_mem2 (i := 163) rfl rfl
theorem qw_404 : Jvm.Cond.methodLink "HungStreams" (142 : Nat) ({ cls := "HungStreams$Tree", name := "deepestShared", desc := "(II)I" } : Jvm.MethodName) ∈ qm_ws := qm_mem2 (i := 164) rfl rfl
theorem qw_405 : Jvm.Cond.instanceMethod ({ cls := "HungStreams$Tree", name := "deepestShared", desc := "(II)I" } : Jvm.MethodName) ∈ qm_ws := qm_mem2 (i := 165) rfl rfl
theorem qw_406 : Jvm.Cond.selects "HungStreams$Tree" ({ cls := "HungStreams$Tree", name := "deepestShared", desc := "(II)I" } : Jvm.MethodName) ({ cls := "HungStreams$Tree", name := "deepestShared", desc := "(II)I" } : Jvm.MethodName) ∈ qm_ws := qm_mem2 (i := 166) rfl rfl
theorem qw_407 : Jvm.Cond.code ({ cls := "HungStreams$Tree", name := "deepestShared", desc := "(II)I" } : Jvm.MethodName) prog_5_method_12_code (6 : Nat) (Option.some Jvm.ClassFile.FieldType.int) ∈ qm_ws := qm_mem2 (i := 167) rfl rfl
theorem qw_408 : Jvm.Cond.methodLink "HungStreamsLaw" (50 : Nat) ({ cls := "HungStreams", name := "readies", desc := "(II)I" } : Jvm.MethodName) ∈ qm_ws := qm_mem2 (i := 168) rfl rfl
theorem qw_409 : Jvm.Cond.instanceMethod ({ cls := "HungStreams", name := "readies", desc := "(II)I" } : Jvm.MethodName) ∈ qm_ws := qm_mem2 (i := 169) rfl rfl
theorem qw_410 : Jvm.Cond.selects "HungStreams" ({ cls := "HungStreams", name := "readies", desc := "(II)I" } : Jvm.MethodName) ({ cls := "HungStreams", name := "readies", desc := "(II)I" } : Jvm.MethodName) ∈ qm_ws := qm_mem2 (i := 170) rfl rfl
theorem qw_411 : Jvm.Cond.code ({ cls := "HungStreams", name := "readies", desc := "(II)I" } : Jvm.MethodName) prog_1_method_10_code (4 : Nat) (Option.some Jvm.ClassFile.FieldType.int) ∈ qm_ws := qm_mem2 (i := 171) rfl rfl
theorem qw_412 : Jvm.Cond.methodLink "HungStreamsLaw" (54 : Nat) ({ cls := "HungStreams", name := "window", desc := "(II)I" } : Jvm.MethodName) ∈ qm_ws := qm_mem2 (i := 172) rfl rfl
theorem qw_413 : Jvm.Cond.instanceMethod ({ cls := "HungStreams", name := "window", desc := "(II)I" } : Jvm.MethodName) ∈ qm_ws := qm_mem2 (i := 173) rfl rfl
theorem qw_414 : Jvm.Cond.selects "HungStreams" ({ cls := "HungStreams", name := "window", desc := "(II)I" } : Jvm.MethodName) ({ cls := "HungStreams", name := "window", desc := "(II)I" } : Jvm.MethodName) ∈ qm_ws := qm_mem2 (i := 174) rfl rfl
theorem qw_415 : Jvm.Cond.code ({ cls := "HungStreams", name := "window", desc := "(II)I" } : Jvm.MethodName) prog_1_method_11_code (4 : Nat) (Option.some Jvm.ClassFile.FieldType.int) ∈ qm_ws := qm_mem2 (i := 175) rfl rfl
theorem qw_416 : Jvm.Cond.methodLink "HungStreamsLaw" (58 : Nat) ({ cls := "HungStreams", name := "settings", desc := "(II)I" } : Jvm.MethodName) ∈ qm_ws := qm_mem2 (i := 176) rfl rfl
theorem qw_417 : Jvm.Cond.instanceMethod ({ cls := "HungStreams", name := "settings", desc := "(II)I" } : Jvm.MethodName) ∈ qm_ws := qm_mem2 (i := 177) rfl rfl
theorem qw_418 : Jvm.Cond.selects "HungStreams" ({ cls := "HungStreams", name := "settings", desc := "(II)I" } : Jvm.MethodName) ({ cls := "HungStreams", name := "settings", desc := "(II)I" } : Jvm.MethodName) ∈ qm_ws := qm_mem2 (i := 178) rfl rfl
theorem qw_419 : Jvm.Cond.code ({ cls := "HungStreams", name := "settings", desc := "(II)I" } : Jvm.MethodName) prog_1_method_12_code (3 : Nat) (Option.some Jvm.ClassFile.FieldType.int) ∈ qm_ws := qm_mem2 (i := 179) rfl rfl
theorem qw_420 : Jvm.Cond.fieldLink "HungStreams" (148 : Nat) "HungStreams" "LEAST_SETTING" "[I" ∈ qm_ws := qm_mem2 (i := 180) rfl rfl
theorem qw_422 : Jvm.Cond.fieldLink "HungStreams" (151 : Nat) "HungStreams" "MOST_SETTING" "[I" ∈ qm_ws := qm_mem2 (i := 182) rfl rfl
theorem qw_424 : Jvm.Cond.methodLink "HungStreams" (154 : Nat) ({ cls := "HungStreams$Tree", name := "changeSetting", desc := "(II)I" } : Jvm.MethodName) ∈ qm_ws := qm_mem2 (i := 184) rfl rfl
theorem qw_425 : Jvm.Cond.instanceMethod ({ cls := "HungStreams$Tree", name := "changeSetting", desc := "(II)I" } : Jvm.MethodName) ∈ qm_ws := qm_mem2 (i := 185) rfl rfl
theorem qw_426 : Jvm.Cond.selects "HungStreams$Tree" ({ cls := "HungStreams$Tree", name := "changeSetting", desc := "(II)I" } : Jvm.MethodName) ({ cls := "HungStreams$Tree", name := "changeSetting", desc := "(II)I" } : Jvm.MethodName) ∈ qm_ws := qm_mem2 (i := 186) rfl rfl
theorem qw_427 : Jvm.Cond.code ({ cls := "HungStreams$Tree", name := "changeSetting", desc := "(II)I" } : Jvm.MethodName) prog_5_method_21_code (4 : Nat) (Option.some Jvm.ClassFile.FieldType.int) ∈ qm_ws := qm_mem2 (i := 187) rfl rfl
theorem qw_428 : Jvm.Cond.methodLink "HungStreams$Tree" (112 : Nat) ({ cls := "HungStreams$Tree", name := "letGo", desc := "()V" } : Jvm.MethodName) ∈ qm_ws := qm_mem2 (i := 188) rfl rfl
theorem qw_429 : Jvm.Cond.methodLink "HungStreamsLaw" (62 : Nat) ({ cls := "HungStreams", name := "sends", desc := "(I)I" } : Jvm.MethodName) ∈ qm_ws := qm_mem2 (i := 189) rfl rfl
theorem qw_430 : Jvm.Cond.instanceMethod ({ cls := "HungStreams", name := "sends", desc := "(I)I" } : Jvm.MethodName) ∈ qm_ws := qm_mem2 (i := 190) rfl rfl
theorem qw_431 : Jvm.Cond.selects "HungStreams" ({ cls := "HungStreams", name := "sends", desc := "(I)I" } : Jvm.MethodName) ({ cls := "HungStreams", name := "sends", desc := "(I)I" } : Jvm.MethodName) ∈ qm_ws := qm_mem2 (i := 191) rfl rfl
theorem qw_432 : Jvm.Cond.code ({ cls := "HungStreams", name := "sends", desc := "(I)I" } : Jvm.MethodName) prog_1_method_13_code (3 : Nat) (Option.some Jvm.ClassFile.FieldType.int) ∈ qm_ws := qm_mem2 (i := 192) rfl rfl
theorem qw_433 : Jvm.Cond.methodLink "HungStreams" (157 : Nat) ({ cls := "HungStreams$Frames", name := "tryOne", desc := "(LHungStreams$Tree;)Z" } : Jvm.MethodName) ∈ qm_ws := qm_mem2 (i := 193) rfl rfl
theorem qw_434 : Jvm.Cond.static ({ cls := "HungStreams$Frames", name := "tryOne", desc := "(LHungStreams$Tree;)Z" } : Jvm.MethodName) ∈ qm_ws := qm_mem2 (i := 194) rfl rfl
theorem qw_435 : Jvm.Cond.code ({ cls := "HungStreams$Frames", name := "tryOne", desc := "(LHungStreams$Tree;)Z" } : Jvm.MethodName) prog_2_method_2_code (4 : Nat) (Option.some Jvm.ClassFile.FieldType.boolean) ∈ qm_ws := qm_mem2 (i := 195) rfl rfl
theorem qw_436 : Jvm.Cond.methodLink "HungStreams$Frames" (9 : Nat) ({ cls := "HungStreams$Tree", name := "canBits", desc := "()I" } : Jvm.MethodName) ∈ qm_ws := qm_mem2 (i := 196) rfl rfl
theorem qw_437 : Jvm.Cond.methodLink "HungStreams$Frames" (15 : Nat) ({ cls := "HungStreams$Tree", name := "liveBits", desc := "(I)I" } : Jvm.MethodName) ∈ qm_ws := qm_mem2 (i := 197) rfl rfl
theorem qw_438 : Jvm.Cond.methodLink "HungStreams$Frames" (19 : Nat) ({ cls := "HungStreams$Frames", name := "look", desc := "(LHungStreams$Tree;I)V" } : Jvm.MethodName) ∈ qm_ws := qm_mem2 (i := 198) rfl rfl
theorem qw_439 : Jvm.Cond.static ({ cls := "HungStreams$Frames", name := "look", desc := "(LHungStreams$Tree;I)V" } : Jvm.MethodName) ∈ qm_ws := qm_mem2 (i := 199) rfl rfl
theorem qw_440 : Jvm.Cond.code ({ cls := "HungStreams$Frames", name := "look", desc := "(LHungStreams$Tree;I)V" } : Jvm.MethodName) prog_2_method_3_code (3 : Nat) (Option.none : Option Jvm.ClassFile.FieldType) ∈ qm_ws := qm_mem2 (i := 200) rfl rfl
theorem qw_442 : Jvm.Cond.methodLink "HungStreams$Frames" (51 : Nat) ({ cls := "HungStreams$Frames", name := "turnOnLook", desc := "(LHungStreams$Tree;I)J" } : Jvm.MethodName) ∈ qm_ws := qm_mem2 (i := 202) rfl rfl
theorem qw_443 : Jvm.Cond.static ({ cls := "HungStreams$Frames", name := "turnOnLook", desc := "(LHungStreams$Tree;I)J" } : Jvm.MethodName) ∈ qm_ws := qm_mem2 (i := 203) rfl rfl
theorem qw_444 : Jvm.Cond.code ({ cls := "HungStreams$Frames", name := "turnOnLook", desc := "(LHungStreams$Tree;I)J" } : Jvm.MethodName) prog_2_method_4_code (3 : Nat) (Option.some Jvm.ClassFile.FieldType.long) ∈ qm_ws := qm_mem2 (i := 204) rfl rfl
theorem qw_445 : Jvm.Cond.methodLink "HungStreams$Frames" (71 : Nat) ({ cls := "java/lang/Math", name := "max", desc := "(JJ)J" } : Jvm.MethodName) ∈ qm_ws := qm_mem2 (i := 205) rfl rfl
theorem qw_446 : Jvm.Cond.methodLink "HungStreams$Frames" (25 : Nat) ({ cls := "HungStreams$Frames", name := "sender", desc := "(LHungStreams$Tree;II)I" } : Jvm.MethodName) ∈ qm_ws := qm_mem2 (i := 206) rfl rfl
theorem qw_447 : Jvm.Cond.static ({ cls := "HungStreams$Frames", name := "sender", desc := "(LHungStreams$Tree;II)I" } : Jvm.MethodName) ∈ qm_ws := qm_mem2 (i := 207) rfl rfl
theorem qw_448 : Jvm.Cond.code ({ cls := "HungStreams$Frames", name := "sender", desc := "(LHungStreams$Tree;II)I" } : Jvm.MethodName) prog_2_method_5_code (3 : Nat) (Option.some Jvm.ClassFile.FieldType.int) ∈ qm_ws := qm_mem2 (i := 208) rfl rfl
theorem qw_449 : Jvm.Cond.methodLink "HungStreams$Frames" (83 : Nat) ({ cls := "HungStreams$Frames", name := "byTree", desc := "(LHungStreams$Tree;II)I" } : Jvm.MethodName) ∈ qm_ws := qm_mem2 (i := 209) rfl rfl
theorem qw_450 : Jvm.Cond.static ({ cls := "HungStreams$Frames", name := "byTree", desc := "(LHungStreams$Tree;II)I" } : Jvm.MethodName) ∈ qm_ws := qm_mem2 (i := 210) rfl rfl
theorem qw_451 : Jvm.Cond.code ({ cls := "HungStreams$Frames", name := "byTree", desc := "(LHungStreams$Tree;II)I" } : Jvm.MethodName) prog_2_method_6_code (5 : Nat) (Option.some Jvm.ClassFile.FieldType.int) ∈ qm_ws := qm_mem2 (i := 211) rfl rfl
theorem qw_452 : Jvm.Cond.methodLink "HungStreams$Frames" (90 : Nat) ({ cls := "HungStreams$Frames", name := "leastTurn", desc := "(LHungStreams$Tree;II)I" } : Jvm.MethodName) ∈ qm_ws := qm_mem2 (i := 212) rfl rfl
theorem qw_453 : Jvm.Cond.static ({ cls := "HungStreams$Frames", name := "leastTurn", desc := "(LHungStreams$Tree;II)I" } : Jvm.MethodName) ∈ qm_ws := qm_mem2 (i := 213) rfl rfl
theorem qw_454 : Jvm.Cond.code ({ cls := "HungStreams$Frames", name := "leastTurn", desc := "(LHungStreams$Tree;II)I" } : Jvm.MethodName) prog_2_method_7_code (9 : Nat) (Option.some Jvm.ClassFile.FieldType.int) ∈ qm_ws := qm_mem2 (i := 214) rfl rfl
theorem qw_455 : Jvm.Cond.methodLink "HungStreams$Frames" (86 : Nat) ({ cls := "HungStreams$Frames", name := "byUrgency", desc := "(LHungStreams$Tree;I)I" } : Jvm.MethodName) ∈ qm_ws := qm_mem2 (i := 215) rfl rfl
theorem qw_456 : Jvm.Cond.static ({ cls := "HungStreams$Frames", name := "byUrgency", desc := "(LHungStreams$Tree;I)I" } : Jvm.MethodName) ∈ qm_ws := qm_mem2 (i := 216) rfl rfl
theorem qw_457 : Jvm.Cond.code ({ cls := "HungStreams$Frames", name := "byUrgency", desc := "(LHungStreams$Tree;I)I" } : Jvm.MethodName) prog_2_method_8_code (4 : Nat) (Option.some Jvm.ClassFile.FieldType.int) ∈ qm_ws := qm_mem2 (i := 217) rfl rfl
theorem qw_458 : Jvm.Cond.methodLink "HungStreams$Frames" (93 : Nat) ({ cls := "HungStreams$Frames", name := "isAhead", desc := "(LHungStreams$Stream;LHungStreams$Stream;)Z" } : Jvm.MethodName) ∈ qm_ws := qm_mem2 (i := 218) rfl rfl
theorem qw_459 : Jvm.Cond.static ({ cls := "HungStreams$Frames", name := "isAhead", desc := "(LHungStreams$Stream;LHungStreams$Stream;)Z" } : Jvm.MethodName) ∈ qm_ws := qm_mem2 (i := 219) rfl rfl
theorem qw_460 : Jvm.Cond.code ({ cls := "HungStreams$Frames", name := "isAhead", desc := "(LHungStreams$Stream;LHungStreams$Stream;)Z" } : Jvm.MethodName) prog_2_method_9_code (2 : Nat) (Option.some Jvm.ClassFile.FieldType.boolean) ∈ qm_ws := qm_mem2 (i := 220) rfl rfl
theorem qw_461 : Jvm.Cond.methodLink "HungStreams$Frames" (29 : Nat) ({ cls := "HungStreams$Frames", name := "send", desc := "(LHungStreams$Tree;I)V" } : Jvm.MethodName) ∈ qm_ws := qm_mem2 (i := 221) rfl rfl
theorem qw_462 : Jvm.Cond.static ({ cls := "HungStreams$Frames", name := "send", desc := "(LHungStreams$Tree;I)V" } : Jvm.MethodName) ∈ qm_ws := qm_mem2 (i := 222) rfl rfl
theorem qw_463 : Jvm.Cond.code ({ cls := "HungStreams$Frames", name := "send", desc := "(LHungStreams$Tree;I)V" } : Jvm.MethodName) prog_2_method_10_code (4 : Nat) (Option.none : Option Jvm.ClassFile.FieldType) ∈ qm_ws := qm_mem2 (i := 223) rfl rfl
theorem qw_464 : Jvm.Cond.methodLink "HungStreams$Frames" (109 : Nat) ({ cls := "java/lang/Math", name := "min", desc := "(II)I" } : Jvm.MethodName) ∈ qm_ws := qm_mem2 (i := 224) rfl rfl
theorem qw_465 : Jvm.Cond.static ({ cls := "java/lang/Math", name := "min", desc := "(II)I" } : Jvm.MethodName) ∈ qm_ws := qm_mem2 (i := 225) rfl rfl
theorem qw_466 : Jvm.Cond.code ({ cls := "java/lang/Math", name := "min", desc := "(II)I" } : Jvm.MethodName) prog_11_method_69_code (2 : Nat) (Option.some Jvm.ClassFile.FieldType.int) ∈ qm_ws := qm_mem2 (i := 226) rfl rfl
theorem qw_467 : Jvm.Cond.methodLink "HungStreams$Frames" (122 : Nat) ({ cls := "HungStreams$Frames", name := "chargeLine", desc := "(LHungStreams$Tree;II)V" } : Jvm.MethodName) ∈ qm_ws := qm_mem2 (i := 227) rfl rfl
theorem qw_468 : Jvm.Cond.static ({ cls := "HungStreams$Frames", name := "chargeLine", desc := "(LHungStreams$Tree;II)V" } : Jvm.MethodName) ∈ qm_ws := qm_mem2 (i := 228) rfl rfl
theorem qw_469 : Jvm.Cond.code ({ cls := "HungStreams$Frames", name := "chargeLine", desc := "(LHungStreams$Tree;II)V" } : Jvm.MethodName) prog_2_method_11_code (6 : Nat) (Option.none : Option Jvm.ClassFile.FieldType) ∈ qm_ws := qm_mem2 (i := 229) rfl rfl
theorem qw_470 : Jvm.Cond.constantLong "HungStreams$Frames" (134 : Nat) (720720 : Int64) ∈ qm_ws := qm_mem2 (i := 230) rfl rfl
theorem qw_472 : Jvm.Cond.methodLink "HungStreams$Frames" (32 : Nat) ({ cls := "HungStreams$Frames", name := "countWaits", desc := "(LHungStreams$Tree;II)V" } : Jvm.MethodName) ∈ qm_ws := qm_mem2 (i := 232) rfl rfl
theorem qw_473 : Jvm.Cond.static ({ cls := "HungStreams$Frames", name := "countWaits", desc := "(LHungStreams$Tree;II)V" } : Jvm.MethodName) ∈ qm_ws := qm_mem2 (i := 233) rfl rfl
theorem qw_474 : Jvm.Cond.code ({ cls := "HungStreams$Frames", name := "countWaits", desc := "(LHungStreams$Tree;II)V" } : Jvm.MethodName) prog_2_method_12_code (4 : Nat) (Option.none : Option Jvm.ClassFile.FieldType) ∈ qm_ws := qm_mem2 (i := 234) rfl rfl
theorem qw_475 : Jvm.Cond.methodLink "HungStreams$Frames" (142 : Nat) ({ cls := "HungStreams$Stream", name := "waitOnce", desc := "()V" } : Jvm.MethodName) ∈ qm_ws := qm_mem2 (i := 235) rfl rfl
theorem qw_476 : Jvm.Cond.instanceMethod ({ cls := "HungStreams$Stream", name := "waitOnce", desc := "()V" } : Jvm.MethodName) ∈ qm_ws := qm_mem2 (i := 236) rfl rfl
theorem qw_477 : Jvm.Cond.selects "HungStreams$Stream" ({ cls := "HungStreams$Stream", name := "waitOnce", desc := "()V" } : Jvm.MethodName) ({ cls := "HungStreams$Stream", name := "waitOnce", desc := "()V" } : Jvm.MethodName) ∈ qm_ws := qm_mem2 (i := 237) rfl rfl
theorem qw_478 : Jvm.Cond.code ({ cls := "HungStreams$Stream", name := "waitOnce", desc := "()V" } : Jvm.MethodName) prog_4_method_7_code (1 : Nat) (Option.none : Option Jvm.ClassFile.FieldType) ∈ qm_ws := qm_mem2 (i := 238) rfl rfl
theorem qw_479 : Jvm.Cond.methodLink "HungStreams$Stream" (56 : Nat) ({ cls := "java/lang/Math", name := "max", desc := "(II)I" } : Jvm.MethodName) ∈ qm_ws := qm_mem2 (i := 239) rfl rfl
theorem qw_480 : Jvm.Cond.static ({ cls := "java/lang/Math", name := "max", desc := "(II)I" } : Jvm.MethodName) ∈ qm_ws := qm_mem3 (i := 0) rfl rfl
theorem qw_481 : Jvm.Cond.code ({ cls := "java/lang/Math", name := "max", desc := "(II)I" } : Jvm.MethodName) prog_11_method_65_code (2 : Nat) (Option.some Jvm.ClassFile.FieldType.int) ∈ qm_ws := qm_mem3 (i := 1) rfl rfl
theorem qw_482 : Jvm.Cond.methodLink "HungStreams$Frames" (36 : Nat) ({ cls := "HungStreams$Frames", name := "growOld", desc := "(LHungStreams$Tree;)V" } : Jvm.MethodName) ∈ qm_ws := qm_mem3 (i := 2) rfl rfl
theorem qw_483 : Jvm.Cond.static ({ cls := "HungStreams$Frames", name := "growOld", desc := "(LHungStreams$Tree;)V" } : Jvm.MethodName) ∈ qm_ws := qm_mem3 (i := 3) rfl rfl
theorem qw_484 : Jvm.Cond.code ({ cls := "HungStreams$Frames", name := "growOld", desc := "(LHungStreams$Tree;)V" } : Jvm.MethodName) prog_2_method_13_code (2 : Nat) (Option.none : Option Jvm.ClassFile.FieldType) ∈ qm_ws := qm_mem3 (i := 4) rfl rfl
theorem qw_485 : Jvm.Cond.methodLink "HungStreams$Frames" (40 : Nat) ({ cls := "HungStreams$Tree", name := "letGo", desc := "()V" } : Jvm.MethodName) ∈ qm_ws := qm_mem3 (i := 5) rfl rfl
theorem qw_486 : Jvm.Cond.methodLink "HungStreamsLaw" (66 : Nat) ({ cls := "HungStreams", name := "next", desc := "()I" } : Jvm.MethodName) ∈ qm_ws := qm_mem3 (i := 6) rfl rfl
theorem qw_487 : Jvm.Cond.instanceMethod ({ cls := "HungStreams", name := "next", desc := "()I" } : Jvm.MethodName) ∈ qm_ws := qm_mem3 (i := 7) rfl rfl
theorem qw_488 : Jvm.Cond.selects "HungStreams" ({ cls := "HungStreams", name := "next", desc := "()I" } : Jvm.MethodName) ({ cls := "HungStreams", name := "next", desc := "()I" } : Jvm.MethodName) ∈ qm_ws := qm_mem3 (i := 8) rfl rfl
theorem qw_489 : Jvm.Cond.code ({ cls := "HungStreams", name := "next", desc := "()I" } : Jvm.MethodName) prog_1_method_14_code (2 : Nat) (Option.some Jvm.ClassFile.FieldType.int) ∈ qm_ws := qm_mem3 (i := 9) rfl rfl
theorem qw_490 : Jvm.Cond.methodLink "HungStreams" (163 : Nat) ({ cls := "HungStreams$Frames", name := "sender", desc := "(LHungStreams$Tree;II)I" } : Jvm.MethodName) ∈ qm_ws := qm_mem3 (i := 10) rfl rfl
theorem qw_491 : Jvm.Cond.methodLink "HungStreamsLaw" (71 : Nat) ({ cls := "HungStreams", name := "share", desc := "(II)J" } : Jvm.MethodName) ∈ qm_ws := qm_mem3 (i := 11) rfl rfl
theorem qw_492 : Jvm.Cond.instanceMethod ({ cls := "HungStreams", name := "share", desc := "(II)J" } : Jvm.MethodName) ∈ qm_ws := qm_mem3 (i := 12) rfl rfl
theorem qw_493 : Jvm.Cond.selects "HungStreams" ({ cls := "HungStreams", name := "share", desc := "(II)J" } : Jvm.MethodName) ({ cls := "HungStreams", name := "share", desc := "(II)J" } : Jvm.MethodName) ∈ qm_ws := qm_mem3 (i := 13) rfl rfl
theorem qw_494 : Jvm.Cond.code ({ cls := "HungStreams", name := "share", desc := "(II)J" } : Jvm.MethodName) prog_1_method_15_code (3 : Nat) (Option.some Jvm.ClassFile.FieldType.long) ∈ qm_ws := qm_mem3 (i := 14) rfl rfl
theorem qw_495 : Jvm.Cond.methodLink "HungStreams" (167 : Nat) ({ cls := "HungStreams$Shares", name := "term", desc := "(LHungStreams$Tree;IZ)J" } : Jvm.MethodName) ∈ qm_ws := qm_mem3 (i := 15) rfl rfl
theorem qw_496 : Jvm.Cond.static ({ cls := "HungStreams$Shares", name := "term", desc := "(LHungStreams$Tree;IZ)J" } : Jvm.MethodName) ∈ qm_ws := qm_mem3 (i := 16) rfl rfl
theorem qw_497 : Jvm.Cond.code ({ cls := "HungStreams$Shares", name := "term", desc := "(LHungStreams$Tree;IZ)J" } : Jvm.MethodName) prog_3_method_2_code (12 : Nat) (Option.some Jvm.ClassFile.FieldType.long) ∈ qm_ws := qm_mem3 (i := 17) rfl rfl
theorem qw_498 : Jvm.Cond.methodLink "HungStreams$Shares" (9 : Nat) ({ cls := "HungStreams$Tree", name := "canBits", desc := "()I" } : Jvm.MethodName) ∈ qm_ws := qm_mem3 (i := 18) rfl rfl
theorem qw_499 : Jvm.Cond.methodLink "HungStreams$Shares" (15 : Nat) ({ cls := "HungStreams$Tree", name := "liveBits", desc := "(I)I" } : Jvm.MethodName) ∈ qm_ws := qm_mem3 (i := 19) rfl rfl
theorem qw_500 : Jvm.Cond.methodLink "HungStreams$Shares" (19 : Nat) ({ cls := "HungStreams$Tree", name := "lineBits", desc := "(I)I" } : Jvm.MethodName) ∈ qm_ws := qm_mem3 (i := 20) rfl rfl
theorem qw_502 : Jvm.Cond.methodLink "HungStreams$Shares" (39 : Nat) ({ cls := "HungStreams$Tree", name := "childWeights", desc := "(II)I" } : Jvm.MethodName) ∈ qm_ws := qm_mem3 (i := 22) rfl rfl
theorem qw_503 : Jvm.Cond.methodLink "HungStreams$Shares" (43 : Nat) ({ cls := "HungStreams$Shares", name := "gcd", desc := "(JJ)J" } : Jvm.MethodName) ∈ qm_ws := qm_mem3 (i := 23) rfl rfl
theorem qw_504 : Jvm.Cond.static ({ cls := "HungStreams$Shares", name := "gcd", desc := "(JJ)J" } : Jvm.MethodName) ∈ qm_ws := qm_mem3 (i := 24) rfl rfl
theorem qw_505 : Jvm.Cond.code ({ cls := "HungStreams$Shares", name := "gcd", desc := "(JJ)J" } : Jvm.MethodName) prog_3_method_3_code (11 : Nat) (Option.some Jvm.ClassFile.FieldType.long) ∈ qm_ws := qm_mem3 (i := 25) rfl rfl
theorem qw_507 : Jvm.Cond.methodLink "HungStreamsLaw" (75 : Nat) ({ cls := "HungStreams", name := "all", desc := "(I)I" } : Jvm.MethodName) ∈ qm_ws := qm_mem3 (i := 27) rfl rfl
theorem qw_508 : Jvm.Cond.instanceMethod ({ cls := "HungStreams", name := "all", desc := "(I)I" } : Jvm.MethodName) ∈ qm_ws := qm_mem3 (i := 28) rfl rfl
theorem qw_509 : Jvm.Cond.selects "HungStreams" ({ cls := "HungStreams", name := "all", desc := "(I)I" } : Jvm.MethodName) ({ cls := "HungStreams", name := "all", desc := "(I)I" } : Jvm.MethodName) ∈ qm_ws := qm_mem3 (i := 29) rfl rfl
theorem qw_510 : Jvm.Cond.code ({ cls := "HungStreams", name := "all", desc := "(I)I" } : Jvm.MethodName) prog_1_method_16_code (2 : Nat) (Option.some Jvm.ClassFile.FieldType.int) ∈ qm_ws := qm_mem3 (i := 30) rfl rfl
theorem qw_511 : Jvm.Cond.methodLink "HungStreams" (173 : Nat) ({ cls := "HungStreams$Tree", name := "sentTogether", desc := "()I" } : Jvm.MethodName) ∈ qm_ws := qm_mem3 (i := 31) rfl rfl
theorem qw_512 : Jvm.Cond.instanceMethod ({ cls := "HungStreams$Tree", name := "sentTogether", desc := "()I" } : Jvm.MethodName) ∈ qm_ws := qm_mem3 (i := 32) rfl rfl
theorem qw_513 : Jvm.Cond.selects "HungStreams$Tree" ({ cls := "HungStreams$Tree", name := "sentTogether", desc := "()I" } : Jvm.MethodName) ({ cls := "HungStreams$Tree", name := "sentTogether", desc := "()I" } : Jvm.MethodName) ∈ qm_ws := qm_mem3 (i := 33) rfl rfl
theorem qw_514 : Jvm.Cond.code ({ cls := "HungStreams$Tree", name := "sentTogether", desc := "()I" } : Jvm.MethodName) prog_5_method_15_code (3 : Nat) (Option.some Jvm.ClassFile.FieldType.int) ∈ qm_ws := qm_mem3 (i := 34) rfl rfl
theorem qw_515 : Jvm.Cond.methodLink "HungStreams" (176 : Nat) ({ cls := "HungStreams$Tree", name := "greatestLongest", desc := "()I" } : Jvm.MethodName) ∈ qm_ws := qm_mem3 (i := 35) rfl rfl
theorem qw_516 : Jvm.Cond.instanceMethod ({ cls := "HungStreams$Tree", name := "greatestLongest", desc := "()I" } : Jvm.MethodName) ∈ qm_ws := qm_mem3 (i := 36) rfl rfl
theorem qw_517 : Jvm.Cond.selects "HungStreams$Tree" ({ cls := "HungStreams$Tree", name := "greatestLongest", desc := "()I" } : Jvm.MethodName) ({ cls := "HungStreams$Tree", name := "greatestLongest", desc := "()I" } : Jvm.MethodName) ∈ qm_ws := qm_mem3 (i := 37) rfl rfl
theorem qw_518 : Jvm.Cond.code ({ cls := "HungStreams$Tree", name := "greatestLongest", desc := "()I" } : Jvm.MethodName) prog_5_method_16_code (3 : Nat) (Option.some Jvm.ClassFile.FieldType.int) ∈ qm_ws := qm_mem3 (i := 38) rfl rfl
theorem qw_519 : Jvm.Cond.methodLink "HungStreams$Tree" (88 : Nat) ({ cls := "java/lang/Math", name := "max", desc := "(II)I" } : Jvm.MethodName) ∈ qm_ws := qm_mem3 (i := 39) rfl rfl
theorem qw_520 : Jvm.Cond.methodLink "HungStreamsLaw" (79 : Nat) ({ cls := "HungStreams", name := "type", desc := "(I)I" } : Jvm.MethodName) ∈ qm_ws := qm_mem3 (i := 40) rfl rfl
theorem qw_521 : Jvm.Cond.instanceMethod ({ cls := "HungStreams", name := "type", desc := "(I)I" } : Jvm.MethodName) ∈ qm_ws := qm_mem3 (i := 41) rfl rfl
theorem qw_522 : Jvm.Cond.selects "HungStreams" ({ cls := "HungStreams", name := "type", desc := "(I)I" } : Jvm.MethodName) ({ cls := "HungStreams", name := "type", desc := "(I)I" } : Jvm.MethodName) ∈ qm_ws := qm_mem3 (i := 42) rfl rfl
theorem qw_523 : Jvm.Cond.code ({ cls := "HungStreams", name := "type", desc := "(I)I" } : Jvm.MethodName) prog_1_method_17_code (2 : Nat) (Option.some Jvm.ClassFile.FieldType.int) ∈ qm_ws := qm_mem3 (i := 43) rfl rfl
theorem qw_524 : Jvm.Cond.methodLink "HungStreams" (188 : Nat) ({ cls := "HungStreams$TypedText", name := "append", desc := "(I)V" } : Jvm.MethodName) ∈ qm_ws := qm_mem3 (i := 44) rfl rfl
theorem qw_525 : Jvm.Cond.instanceMethod ({ cls := "HungStreams$TypedText", name := "append", desc := "(I)V" } : Jvm.MethodName) ∈ qm_ws := qm_mem3 (i := 45) rfl rfl
theorem qw_526 : Jvm.Cond.selects "HungStreams$TypedText" ({ cls := "HungStreams$TypedText", name := "append", desc := "(I)V" } : Jvm.MethodName) ({ cls := "HungStreams$TypedText", name := "append", desc := "(I)V" } : Jvm.MethodName) ∈ qm_ws := qm_mem3 (i := 46) rfl rfl
theorem qw_527 : Jvm.Cond.code ({ cls := "HungStreams$TypedText", name := "append", desc := "(I)V" } : Jvm.MethodName) prog_7_method_2_code (2 : Nat) (Option.none : Option Jvm.ClassFile.FieldType) ∈ qm_ws := qm_mem3 (i := 47) rfl rfl
theorem qw_528 : Jvm.Cond.methodLink "HungStreamsLaw" (83 : Nat) ({ cls := "HungStreams", name := "clear", desc := "()I" } : Jvm.MethodName) ∈ qm_ws := qm_mem3 (i := 48) rfl rfl
theorem qw_529 : Jvm.Cond.instanceMethod ({ cls := "HungStreams", name := "clear", desc := "()I" } : Jvm.MethodName) ∈ qm_ws := qm_mem3 (i := 49) rfl rfl
theorem qw_530 : Jvm.Cond.selects "HungStreams" ({ cls := "HungStreams", name := "clear", desc := "()I" } : Jvm.MethodName) ({ cls := "HungStreams", name := "clear", desc := "()I" } : Jvm.MethodName) ∈ qm_ws := qm_mem3 (i := 50) rfl rfl
theorem qw_531 : Jvm.Cond.code ({ cls := "HungStreams", name := "clear", desc := "()I" } : Jvm.MethodName) prog_1_method_18_code (2 : Nat) (Option.some Jvm.ClassFile.FieldType.int) ∈ qm_ws := qm_mem3 (i := 51) rfl rfl
theorem qw_532 : Jvm.Cond.methodLink "HungStreamsLaw" (87 : Nat) ({ cls := "HungStreams", name := "builds", desc := "()I" } : Jvm.MethodName) ∈ qm_ws := qm_mem3 (i := 52) rfl rfl
theorem qw_533 : Jvm.Cond.instanceMethod ({ cls := "HungStreams", name := "builds", desc := "()I" } : Jvm.MethodName) ∈ qm_ws := qm_mem3 (i := 53) rfl rfl
theorem qw_534 : Jvm.Cond.selects "HungStreams" ({ cls := "HungStreams", name := "builds", desc := "()I" } : Jvm.MethodName) ({ cls := "HungStreams", name := "builds", desc := "()I" } : Jvm.MethodName) ∈ qm_ws := qm_mem3 (i := 54) rfl rfl
theorem qw_535 : Jvm.Cond.code ({ cls := "HungStreams", name := "builds", desc := "()I" } : Jvm.MethodName) prog_1_method_19_code (3 : Nat) (Option.some Jvm.ClassFile.FieldType.int) ∈ qm_ws := qm_mem3 (i := 55) rfl rfl
theorem qw_536 : Jvm.Cond.methodLink "HungStreams" (192 : Nat) ({ cls := "HungStreams$TypedText", name := "read", desc := "()I" } : Jvm.MethodName) ∈ qm_ws := qm_mem3 (i := 56) rfl rfl
theorem qw_537 : Jvm.Cond.instanceMethod ({ cls := "HungStreams$TypedText", name := "read", desc := "()I" } : Jvm.MethodName) ∈ qm_ws := qm_mem3 (i := 57) rfl rfl
theorem qw_538 : Jvm.Cond.selects "HungStreams$TypedText" ({ cls := "HungStreams$TypedText", name := "read", desc := "()I" } : Jvm.MethodName) ({ cls := "HungStreams$TypedText", name := "read", desc := "()I" } : Jvm.MethodName) ∈ qm_ws := qm_mem3 (i := 58) rfl rfl
theorem qw_539 : Jvm.Cond.code ({ cls := "HungStreams$TypedText", name := "read", desc := "()I" } : Jvm.MethodName) prog_7_method_3_code (7 : Nat) (Option.some Jvm.ClassFile.FieldType.int) ∈ qm_ws := qm_mem3 (i := 59) rfl rfl
theorem qw_540 : Jvm.Cond.methodLink "HungStreams$TypedText" (43 : Nat) ({ cls := "HungStreams$TypedText", name := "byteBehindBlanks", desc := "()I" } : Jvm.MethodName) ∈ qm_ws := qm_mem3 (i := 60) rfl rfl
theorem qw_541 : Jvm.Cond.instanceMethod ({ cls := "HungStreams$TypedText", name := "byteBehindBlanks", desc := "()I" } : Jvm.MethodName) ∈ qm_ws := qm_mem3 (i := 61) rfl rfl
theorem qw_542 : Jvm.Cond.selects "HungStreams$TypedText" ({ cls := "HungStreams$TypedText", name := "byteBehindBlanks", desc := "()I" } : Jvm.MethodName) ({ cls := "HungStreams$TypedText", name := "byteBehindBlanks", desc := "()I" } : Jvm.MethodName) ∈ qm_ws := qm_mem3 (i := 62) rfl rfl
theorem qw_543 : Jvm.Cond.code ({ cls := "HungStreams$TypedText", name := "byteBehindBlanks", desc := "()I" } : Jvm.MethodName) prog_7_method_7_code (2 : Nat) (Option.some Jvm.ClassFile.FieldType.int) ∈ qm_ws := qm_mem3 (i := 63) rfl rfl
theorem qw_544 : Jvm.Cond.methodLink "HungStreams$TypedText" (66 : Nat) ({ cls := "HungStreams$TypedText", name := "byteHere", desc := "()I" } : Jvm.MethodName) ∈ qm_ws := qm_mem3 (i := 64) rfl rfl
theorem qw_545 : Jvm.Cond.instanceMethod ({ cls := "HungStreams$TypedText", name := "byteHere", desc := "()I" } : Jvm.MethodName) ∈ qm_ws := qm_mem3 (i := 65) rfl rfl
theorem qw_546 : Jvm.Cond.selects "HungStreams$TypedText" ({ cls := "HungStreams$TypedText", name := "byteHere", desc := "()I" } : Jvm.MethodName) ({ cls := "HungStreams$TypedText", name := "byteHere", desc := "()I" } : Jvm.MethodName) ∈ qm_ws := qm_mem3 (i := 66) rfl rfl
theorem qw_547 : Jvm.Cond.code ({ cls := "HungStreams$TypedText", name := "byteHere", desc := "()I" } : Jvm.MethodName) prog_7_method_8_code (1 : Nat) (Option.some Jvm.ClassFile.FieldType.int) ∈ qm_ws := qm_mem3 (i := 67) rfl rfl
theorem qw_548 : Jvm.Cond.methodLink "HungStreams$TypedText" (47 : Nat) ({ cls := "HungStreams$TypedText", name := "isFigure", desc := "(I)Z" } : Jvm.MethodName) ∈ qm_ws := qm_mem3 (i := 68) rfl rfl
theorem qw_549 : Jvm.Cond.static ({ cls := "HungStreams$TypedText", name := "isFigure", desc := "(I)Z" } : Jvm.MethodName) ∈ qm_ws := qm_mem3 (i := 69) rfl rfl
theorem qw_550 : Jvm.Cond.code ({ cls := "HungStreams$TypedText", name := "isFigure", desc := "(I)Z" } : Jvm.MethodName) prog_7_method_9_code (1 : Nat) (Option.some Jvm.ClassFile.FieldType.boolean) ∈ qm_ws := qm_mem3 (i := 70) rfl rfl
theorem qw_552 : Jvm.Cond.methodLink "HungStreams$TypedText" (51 : Nat) ({ cls := "HungStreams$TypedText", name := "readStream", desc := "(I)I" } : Jvm.MethodName) ∈ qm_ws := qm_mem3 (i := 72) rfl rfl
theorem qw_553 : Jvm.Cond.instanceMethod ({ cls := "HungStreams$TypedText", name := "readStream", desc := "(I)I" } : Jvm.MethodName) ∈ qm_ws := qm_mem3 (i := 73) rfl rfl
theorem qw_554 : Jvm.Cond.selects "HungStreams$TypedText" ({ cls := "HungStreams$TypedText", name := "readStream", desc := "(I)I" } : Jvm.MethodName) ({ cls := "HungStreams$TypedText", name := "readStream", desc := "(I)I" } : Jvm.MethodName) ∈ qm_ws := qm_mem3 (i := 74) rfl rfl
theorem qw_555 : Jvm.Cond.code ({ cls := "HungStreams$TypedText", name := "readStream", desc := "(I)I" } : Jvm.MethodName) prog_7_method_4_code (5 : Nat) (Option.some Jvm.ClassFile.FieldType.int) ∈ qm_ws := qm_mem3 (i := 75) rfl rfl
theorem qw_556 : Jvm.Cond.methodLink "HungStreams$TypedText" (55 : Nat) ({ cls := "HungStreams$TypedText", name := "readNumber", desc := "(I)I" } : Jvm.MethodName) ∈ qm_ws := qm_mem3 (i := 76) rfl rfl
theorem qw_557 : Jvm.Cond.instanceMethod ({ cls := "HungStreams$TypedText", name := "readNumber", desc := "(I)I" } : Jvm.MethodName) ∈ qm_ws := qm_mem3 (i := 77) rfl rfl
theorem qw_558 : Jvm.Cond.selects "HungStreams$TypedText" ({ cls := "HungStreams$TypedText", name := "readNumber", desc := "(I)I" } : Jvm.MethodName) ({ cls := "HungStreams$TypedText", name := "readNumber", desc := "(I)I" } : Jvm.MethodName) ∈ qm_ws := qm_mem3 (i := 78) rfl rfl
theorem qw_559 : Jvm.Cond.code ({ cls := "HungStreams$TypedText", name := "readNumber", desc := "(I)I" } : Jvm.MethodName) prog_7_method_6_code (5 : Nat) (Option.some Jvm.ClassFile.FieldType.int) ∈ qm_ws := qm_mem3 (i := 79) rfl rfl
theorem qw_561 : Jvm.Cond.methodLink "HungStreams$TypedText" (62 : Nat) ({ cls := "HungStreams$TypedText", name := "keepStream", desc := "(III)V" } : Jvm.MethodName) ∈ qm_ws := qm_mem3 (i := 81) rfl rfl
theorem qw_562 : Jvm.Cond.instanceMethod ({ cls := "HungStreams$TypedText", name := "keepStream", desc := "(III)V" } : Jvm.MethodName) ∈ qm_ws := qm_mem3 (i := 82) rfl rfl
theorem qw_563 : Jvm.Cond.selects "HungStreams$TypedText" ({ cls := "HungStreams$TypedText", name := "keepStream", desc := "(III)V" } : Jvm.MethodName) ({ cls := "HungStreams$TypedText", name := "keepStream", desc := "(III)V" } : Jvm.MethodName) ∈ qm_ws := qm_mem3 (i := 83) rfl rfl
theorem qw_564 : Jvm.Cond.code ({ cls := "HungStreams$TypedText", name := "keepStream", desc := "(III)V" } : Jvm.MethodName) prog_7_method_5_code (4 : Nat) (Option.none : Option Jvm.ClassFile.FieldType) ∈ qm_ws := qm_mem3 (i := 84) rfl rfl
theorem qw_565 : Jvm.Cond.methodLink "HungStreams" (195 : Nat) ({ cls := "HungStreams$Tree", name := "empty", desc := "()V" } : Jvm.MethodName) ∈ qm_ws := qm_mem3 (i := 85) rfl rfl
theorem qw_566 : Jvm.Cond.instanceMethod ({ cls := "HungStreams$Tree", name := "empty", desc := "()V" } : Jvm.MethodName) ∈ qm_ws := qm_mem3 (i := 86) rfl rfl
theorem qw_567 : Jvm.Cond.selects "HungStreams$Tree" ({ cls := "HungStreams$Tree", name := "empty", desc := "()V" } : Jvm.MethodName) ({ cls := "HungStreams$Tree", name := "empty", desc := "()V" } : Jvm.MethodName) ∈ qm_ws := qm_mem3 (i := 87) rfl rfl
theorem qw_568 : Jvm.Cond.code ({ cls := "HungStreams$Tree", name := "empty", desc := "()V" } : Jvm.MethodName) prog_5_method_24_code (1 : Nat) (Option.none : Option Jvm.ClassFile.FieldType) ∈ qm_ws := qm_mem3 (i := 88) rfl rfl
theorem qw_569 : Jvm.Cond.methodLink "HungStreamsLaw" (91 : Nat) ({ cls := "HungStreams", name := "shown", desc := "(I)I" } : Jvm.MethodName) ∈ qm_ws := qm_mem3 (i := 89) rfl rfl
theorem qw_570 : Jvm.Cond.instanceMethod ({ cls := "HungStreams", name := "shown", desc := "(I)I" } : Jvm.MethodName) ∈ qm_ws := qm_mem3 (i := 90) rfl rfl
theorem qw_571 : Jvm.Cond.selects "HungStreams" ({ cls := "HungStreams", name := "shown", desc := "(I)I" } : Jvm.MethodName) ({ cls := "HungStreams", name := "shown", desc := "(I)I" } : Jvm.MethodName) ∈ qm_ws := qm_mem3 (i := 91) rfl rfl
theorem qw_572 : Jvm.Cond.code ({ cls := "HungStreams", name := "shown", desc := "(I)I" } : Jvm.MethodName) prog_1_method_20_code (2 : Nat) (Option.some Jvm.ClassFile.FieldType.int) ∈ qm_ws := qm_mem3 (i := 92) rfl rfl
theorem qw_573 : Jvm.Cond.methodLink "HungStreams" (210 : Nat) ({ cls := "HungStreams$TreeWriter", name := "write", desc := "(LHungStreams$Tree;)V" } : Jvm.MethodName) ∈ qm_ws := qm_mem3 (i := 93) rfl rfl
theorem qw_574 : Jvm.Cond.instanceMethod ({ cls := "HungStreams$TreeWriter", name := "write", desc := "(LHungStreams$Tree;)V" } : Jvm.MethodName) ∈ qm_ws := qm_mem3 (i := 94) rfl rfl
theorem qw_575 : Jvm.Cond.selects "HungStreams$TreeWriter" ({ cls := "HungStreams$TreeWriter", name := "write", desc := "(LHungStreams$Tree;)V" } : Jvm.MethodName) ({ cls := "HungStreams$TreeWriter", name := "write", desc := "(LHungStreams$Tree;)V" } : Jvm.MethodName) ∈ qm_ws := qm_mem3 (i := 95) rfl rfl
theorem qw_576 : Jvm.Cond.code ({ cls := "HungStreams$TreeWriter", name := "write", desc := "(LHungStreams$Tree;)V" } : Jvm.MethodName) prog_6_method_2_code (2 : Nat) (Option.none : Option Jvm.ClassFile.FieldType) ∈ qm_ws := qm_mem3 (i := 96) rfl rfl
theorem qw_577 : Jvm.Cond.methodLink "HungStreams$TreeWriter" (19 : Nat) ({ cls := "HungStreams$TreeWriter", name := "writeChildren", desc := "(LHungStreams$Tree;II)V" } : Jvm.MethodName) ∈ qm_ws := qm_mem3 (i := 97) rfl rfl
theorem qw_579 : Jvm.Cond.instanceMethod ({ cls := "HungStreams$TreeWriter", name := "writeChildren", desc := "(LHungStreams$Tree;II)V" } : Jvm.MethodName) ∈ qm_ws := qm_mem3 (i := 99) rfl rfl
theorem qw_580 : Jvm.Cond.code ({ cls := "HungStreams$TreeWriter", name := "writeChildren", desc := "(LHungStreams$Tree;II)V" } : Jvm.MethodName) prog_6_method_3_code (6 : Nat) (Option.none : Option Jvm.ClassFile.FieldType) ∈ qm_ws := qm_mem3 (i := 100) rfl rfl
theorem qw_581 : Jvm.Cond.methodLink "HungStreams$TreeWriter" (23 : Nat) ({ cls := "HungStreams$Tree", name := "isChild", desc := "(II)Z" } : Jvm.MethodName) ∈ qm_ws := qm_mem3 (i := 101) rfl rfl
theorem qw_582 : Jvm.Cond.methodLink "HungStreams$TreeWriter" (29 : Nat) ({ cls := "HungStreams$TreeWriter", name := "put", desc := "(I)V" } : Jvm.MethodName) ∈ qm_ws := qm_mem3 (i := 102) rfl rfl
theorem qw_584 : Jvm.Cond.instanceMethod ({ cls := "HungStreams$TreeWriter", name := "put", desc := "(I)V" } : Jvm.MethodName) ∈ qm_ws := qm_mem3 (i := 104) rfl rfl
theorem qw_585 : Jvm.Cond.code ({ cls := "HungStreams$TreeWriter", name := "put", desc := "(I)V" } : Jvm.MethodName) prog_6_method_5_code (2 : Nat) (Option.none : Option Jvm.ClassFile.FieldType) ∈ qm_ws := qm_mem3 (i := 105) rfl rfl
theorem qw_586 : Jvm.Cond.methodLink "HungStreams$TreeWriter" (33 : Nat) ({ cls := "HungStreams$TreeWriter", name := "putNumber", desc := "(I)V" } : Jvm.MethodName) ∈ qm_ws := qm_mem3 (i := 106) rfl rfl
theorem qw_588 : Jvm.Cond.instanceMethod ({ cls := "HungStreams$TreeWriter", name := "putNumber", desc := "(I)V" } : Jvm.MethodName) ∈ qm_ws := qm_mem3 (i := 108) rfl rfl
theorem qw_589 : Jvm.Cond.code ({ cls := "HungStreams$TreeWriter", name := "putNumber", desc := "(I)V" } : Jvm.MethodName) prog_6_method_4_code (2 : Nat) (Option.none : Option Jvm.ClassFile.FieldType) ∈ qm_ws := qm_mem3 (i := 109) rfl rfl
theorem qw_590 : Jvm.Cond.methodLink "HungStreams$TreeWriter" (45 : Nat) ({ cls := "HungStreams$Tree", name := "childCount", desc := "(I)I" } : Jvm.MethodName) ∈ qm_ws := qm_mem3 (i := 110) rfl rfl
theorem qw_591 : Jvm.Cond.methodLink "HungStreamsLaw" (95 : Nat) ({ cls := "HungStreams", name := "back", desc := "()I" } : Jvm.MethodName) ∈ qm_ws := qm_mem3 (i := 111) rfl rfl
theorem qw_592 : Jvm.Cond.instanceMethod ({ cls := "HungStreams", name := "back", desc := "()I" } : Jvm.MethodName) ∈ qm_ws := qm_mem3 (i := 112) rfl rfl
theorem qw_593 : Jvm.Cond.selects "HungStreams" ({ cls := "HungStreams", name := "back", desc := "()I" } : Jvm.MethodName) ({ cls := "HungStreams", name := "back", desc := "()I" } : Jvm.MethodName) ∈ qm_ws := qm_mem3 (i := 113) rfl rfl
theorem qw_594 : Jvm.Cond.code ({ cls := "HungStreams", name := "back", desc := "()I" } : Jvm.MethodName) prog_1_method_21_code (1 : Nat) (Option.some Jvm.ClassFile.FieldType.int) ∈ qm_ws := qm_mem3 (i := 114) rfl rfl
theorem qw_595 : Jvm.Cond.methodLink "HungStreamsLaw" (99 : Nat) ({ cls := "HungStreams", name := "told", desc := "(I)I" } : Jvm.MethodName) ∈ qm_ws := qm_mem3 (i := 115) rfl rfl
theorem qw_596 : Jvm.Cond.instanceMethod ({ cls := "HungStreams", name := "told", desc := "(I)I" } : Jvm.MethodName) ∈ qm_ws := qm_mem3 (i := 116) rfl rfl
theorem qw_597 : Jvm.Cond.selects "HungStreams" ({ cls := "HungStreams", name := "told", desc := "(I)I" } : Jvm.MethodName) ({ cls := "HungStreams", name := "told", desc := "(I)I" } : Jvm.MethodName) ∈ qm_ws := qm_mem3 (i := 117) rfl rfl
theorem qw_598 : Jvm.Cond.code ({ cls := "HungStreams", name := "told", desc := "(I)I" } : Jvm.MethodName) prog_1_method_22_code (2 : Nat) (Option.some Jvm.ClassFile.FieldType.int) ∈ qm_ws := qm_mem3 (i := 118) rfl rfl
theorem qw_599 : Jvm.Cond.methodLink "HungStreamsLaw" (103 : Nat) ({ cls := "HungStreams", name := "digest", desc := "()J" } : Jvm.MethodName) ∈ qm_ws := qm_mem3 (i := 119) rfl rfl
theorem qw_600 : Jvm.Cond.instanceMethod ({ cls := "HungStreams", name := "digest", desc := "()J" } : Jvm.MethodName) ∈ qm_ws := qm_mem3 (i := 120) rfl rfl
theorem qw_601 : Jvm.Cond.selects "HungStreams" ({ cls := "HungStreams", name := "digest", desc := "()J" } : Jvm.MethodName) ({ cls := "HungStreams", name := "digest", desc := "()J" } : Jvm.MethodName) ∈ qm_ws := qm_mem3 (i := 121) rfl rfl
theorem qw_602 : Jvm.Cond.code ({ cls := "HungStreams", name := "digest", desc := "()J" } : Jvm.MethodName) prog_1_method_23_code (4 : Nat) (Option.some Jvm.ClassFile.FieldType.long) ∈ qm_ws := qm_mem3 (i := 122) rfl rfl
theorem qw_603 : Jvm.Cond.constantLong "HungStreams" (251 : Nat) (2311 : Int64) ∈ qm_ws := qm_mem3 (i := 123) rfl rfl
theorem qw_604 : Jvm.Cond.constantLong "HungStreams" (253 : Nat) (31 : Int64) ∈ qm_ws := qm_mem3 (i := 124) rfl rfl
theorem qw_605 : Jvm.Cond.methodLink "HungStreams" (255 : Nat) ({ cls := "HungStreams", name := "told", desc := "(I)I" } : Jvm.MethodName) ∈ qm_ws := qm_mem3 (i := 125) rfl rfl
theorem qw_606 : Jvm.Cond.methodLink "HungStreams" (258 : Nat) ({ cls := "HungStreams", name := "all", desc := "(I)I" } : Jvm.MethodName) ∈ qm_ws := qm_mem3 (i := 126) rfl rfl
theorem qw_607 : Jvm.Cond.methodLink "HungStreams" (261 : Nat) ({ cls := "HungStreams", name := "digestStream", desc := "(JI)J" } : Jvm.MethodName) ∈ qm_ws := qm_mem3 (i := 127) rfl rfl
theorem qw_609 : Jvm.Cond.instanceMethod ({ cls := "HungStreams", name := "digestStream", desc := "(JI)J" } : Jvm.MethodName) ∈ qm_ws := qm_mem3 (i := 129) rfl rfl
theorem qw_610 : Jvm.Cond.code ({ cls := "HungStreams", name := "digestStream", desc := "(JI)J" } : Jvm.MethodName) prog_1_method_24_code (7 : Nat) (Option.some Jvm.ClassFile.FieldType.long) ∈ qm_ws := qm_mem3 (i := 130) rfl rfl
theorem qw_611 : Jvm.Cond.methodLink "HungStreams" (271 : Nat) ({ cls := "HungStreams", name := "of", desc := "(II)I" } : Jvm.MethodName) ∈ qm_ws := qm_mem3 (i := 131) rfl rfl
theorem qw_612 : Jvm.Cond.methodLink "HungStreams" (265 : Nat) ({ cls := "HungStreams", name := "turn", desc := "(II)J" } : Jvm.MethodName) ∈ qm_ws := qm_mem3 (i := 132) rfl rfl
theorem qw_613 : Jvm.Cond.methodLink "HungStreams" (268 : Nat) ({ cls := "HungStreams", name := "next", desc := "()I" } : Jvm.MethodName) ∈ qm_ws := qm_mem3 (i := 133) rfl rfl
theorem qw_614 : Jvm.Cond.classLink "HungStreamsLaw" (10 : Nat) "HungStreamsModel" ∈ qm_ws := qm_mem3 (i := 134) rfl rfl
theorem qw_615 : Jvm.Cond.instantiable "HungStreamsModel" (17 : Nat) ∈ qm_ws := qm_mem3 (i := 135) rfl rfl
theorem qw_616 : Jvm.Cond.methodLink "HungStreamsLaw" (12 : Nat) ({ cls := "HungStreamsModel", name := "<init>", desc := "()V" } : Jvm.MethodName) ∈ qm_ws := qm_mem3 (i := 136) rfl rfl
theorem qw_617 : Jvm.Cond.instanceMethod ({ cls := "HungStreamsModel", name := "<init>", desc := "()V" } : Jvm.MethodName) ∈ qm_ws := qm_mem3 (i := 137) rfl rfl
theorem qw_618 : Jvm.Cond.code ({ cls := "HungStreamsModel", name := "<init>", desc := "()V" } : Jvm.MethodName) prog_9_method_1_code (1 : Nat) (Option.none : Option Jvm.ClassFile.FieldType) ∈ qm_ws := qm_mem3 (i := 138) rfl rfl
theorem qw_619 : Jvm.Cond.methodLink "HungStreamsModel" (1 : Nat) ({ cls := "java/lang/Object", name := "<init>", desc := "()V" } : Jvm.MethodName) ∈ qm_ws := qm_mem3 (i := 139) rfl rfl
theorem qw_620 : Jvm.Cond.constantLong "HungStreamsModel" (32 : Nat) (10000 : Int64) ∈ qm_ws := qm_mem3 (i := 140) rfl rfl
theorem qw_621 : Jvm.Cond.constantLong "HungStreamsModel" (34 : Nat) (100 : Int64) ∈ qm_ws := qm_mem3 (i := 141) rfl rfl
theorem qw_622 : Jvm.Cond.constantLong "HungStreamsModel" (36 : Nat) (10 : Int64) ∈ qm_ws := qm_mem3 (i := 142) rfl rfl
theorem qw_623 : Jvm.Cond.constantLong "HungStreamsModel" (38 : Nat) (-1 : Int64) ∈ qm_ws := qm_mem3 (i := 143) rfl rfl
theorem qw_624 : Jvm.Cond.fieldLink "HungStreamsModel" (7 : Nat) "HungStreamsModel" "all" "[J" ∈ qm_ws := qm_mem3 (i := 144) rfl rfl
theorem qw_625 : Jvm.Cond.fieldLink "HungStreamsModel" (13 : Nat) "HungStreamsModel" "past" "[J" ∈ qm_ws := qm_mem3 (i := 145) rfl rfl
theorem qw_626 : Jvm.Cond.fieldLink "HungStreamsModel" (40 : Nat) "HungStreamsModel" "states" "I" ∈ qm_ws := qm_mem3 (i := 146) rfl rfl
theorem qw_627 : Jvm.Cond.fieldLink "HungStreamsModel" (16 : Nat) "HungStreamsModel" "refused" "[I" ∈ qm_ws := qm_mem3 (i := 147) rfl rfl
theorem qw_628 : Jvm.Cond.fieldLink "HungStreamsModel" (188 : Nat) "HungStreamsModel" "above" "J" ∈ qm_ws := qm_mem3 (i := 148) rfl rfl
theorem qw_629 : Jvm.Cond.fieldLink "HungStreamsModel" (192 : Nat) "HungStreamsModel" "below" "J" ∈ qm_ws := qm_mem3 (i := 149) rfl rfl
theorem qw_630 : Jvm.Cond.fieldLink "HungStreamsModel" (20 : Nat) "HungStreamsModel" "text" "[I" ∈ qm_ws := qm_mem3 (i := 150) rfl rfl
theorem qw_631 : Jvm.Cond.fieldLink "HungStreamsModel" (208 : Nat) "HungStreamsModel" "textLong" "I" ∈ qm_ws := qm_mem3 (i := 151) rfl rfl
theorem qw_632 : Jvm.Cond.fieldLink "HungStreamsModel" (211 : Nat) "HungStreamsModel" "place" "I" ∈ qm_ws := qm_mem3 (i := 152) rfl rfl
theorem qw_633 : Jvm.Cond.fieldLink "HungStreamsModel" (221 : Nat) "HungStreamsModel" "value" "I" ∈ qm_ws := qm_mem3 (i := 153) rfl rfl
theorem qw_634 : Jvm.Cond.fieldLink "HungStreamsModel" (230 : Nat) "HungStreamsModel" "told" "I" ∈ qm_ws := qm_mem3 (i := 154) rfl rfl
theorem qw_635 : Jvm.Cond.fieldLink "HungStreamsModel" (23 : Nat) "HungStreamsModel" "tells" "[I" ∈ qm_ws := qm_mem3 (i := 155) rfl rfl
theorem qw_636 : Jvm.Cond.fieldLink "HungStreamsModel" (26 : Nat) "HungStreamsModel" "weighs" "[I" ∈ qm_ws := qm_mem3 (i := 156) rfl rfl
theorem qw_637 : Jvm.Cond.fieldLink "HungStreamsModel" (29 : Nat) "HungStreamsModel" "stands" "[I" ∈ qm_ws := qm_mem3 (i := 157) rfl rfl
theorem qw_638 : Jvm.Cond.fieldLink "HungStreamsModel" (242 : Nat) "HungStreamsModel" "shownAt" "I" ∈ qm_ws := qm_mem3 (i := 158) rfl rfl
theorem qw_639 : Jvm.Cond.fieldLink "HungStreamsModel" (248 : Nat) "HungStreamsModel" "shownIs" "I" ∈ qm_ws := qm_mem3 (i := 159) rfl rfl
theorem qw_640 : Jvm.Cond.fieldLink "HungStreamsModel" (245 : Nat) "HungStreamsModel" "shownWanted" "I" ∈ qm_ws := qm_mem3 (i := 160) rfl rfl
theorem qw_641 : Jvm.Cond.laysFinal "HungStreamsModel" "HungStreamsModel" "all" "[J" ∈ qm_ws := qm_mem3 (i := 161) rfl rfl
theorem qw_643 : Jvm.Cond.laysFinal "HungStreamsModel" "HungStreamsModel" "past" "[J" ∈ qm_ws := qm_mem3 (i := 163) rfl rfl
theorem qw_645 : Jvm.Cond.lays "HungStreamsModel" "HungStreamsModel" "states" "I" ∈ qm_ws := qm_mem3 (i := 165) rfl rfl
theorem qw_647 : Jvm.Cond.laysFinal "HungStreamsModel" "HungStreamsModel" "refused" "[I" ∈ qm_ws := qm_mem3 (i := 167) rfl rfl
theorem qw_649 : Jvm.Cond.lays "HungStreamsModel" "HungStreamsModel" "above" "J" ∈ qm_ws := qm_mem3 (i := 169) rfl rfl
theorem qw_651 : Jvm.Cond.lays "HungStreamsModel" "HungStreamsModel" "below" "J" ∈ qm_ws := qm_mem3 (i := 171) rfl rfl
theorem qw_653 : Jvm.Cond.laysFinal "HungStreamsModel" "HungStreamsModel" "text" "[I" ∈ qm_ws := qm_mem3 (i := 173) rfl rfl
theorem qw_655 : Jvm.Cond.lays "HungStreamsModel" "HungStreamsModel" "textLong" "I" ∈ qm_ws := qm_mem3 (i := 175) rfl rfl
theorem qw_657 : Jvm.Cond.lays "HungStreamsModel" "HungStreamsModel" "place" "I" ∈ qm_ws := qm_mem3 (i := 177) rfl rfl
theorem qw_659 : Jvm.Cond.lays "HungStreamsModel" "HungStreamsModel" "value" "I" ∈ qm_ws := qm_mem3 (i := 179) rfl rfl
theorem qw_661 : Jvm.Cond.lays "HungStreamsModel" "HungStreamsModel" "told" "I" ∈ qm_ws := qm_mem3 (i := 181) rfl rfl
theorem qw_663 : Jvm.Cond.laysFinal "HungStreamsModel" "HungStreamsModel" "tells" "[I" ∈ qm_ws := qm_mem3 (i := 183) rfl rfl
theorem qw_665 : Jvm.Cond.laysFinal "HungStreamsModel" "HungStreamsModel" "weighs" "[I" ∈ qm_ws := qm_mem3 (i := 185) rfl rfl
theorem qw_667 : Jvm.Cond.laysFinal "HungStreamsModel" "HungStreamsModel" "stands" "[I" ∈ qm_ws := qm_mem3 (i := 187) rfl rfl
theorem qw_669 : Jvm.Cond.lays "HungStreamsModel" "HungStreamsModel" "shownAt" "I" ∈ qm_ws := qm_mem3 (i := 189) rfl rfl
theorem qw_671 : Jvm.Cond.lays "HungStreamsModel" "HungStreamsModel" "shownIs" "I" ∈ qm_ws := qm_mem3 (i := 191) rfl rfl
theorem qw_673 : Jvm.Cond.lays "HungStreamsModel" "HungStreamsModel" "shownWanted" "I" ∈ qm_ws := qm_mem3 (i := 193) rfl rfl
theorem qw_676 : Jvm.Cond.arrayClass Jvm.ClassFile.FieldType.long ∈ qm_ws := qm_mem3 (i := 196) rfl rfl
theorem qw_677 : Jvm.Cond.methodLink "HungStreamsLaw" (17 : Nat) ({ cls := "HungStreamsModel", name := "comes", desc := "(IIII)I" } : Jvm.MethodName) ∈ qm_ws := qm_mem3 (i := 197) rfl rfl
theorem qw_678 : Jvm.Cond.instanceMethod ({ cls := "HungStreamsModel", name := "comes", desc := "(IIII)I" } : Jvm.MethodName) ∈ qm_ws := qm_mem3 (i := 198) rfl rfl
theorem qw_679 : Jvm.Cond.selects "HungStreamsModel" ({ cls := "HungStreamsModel", name := "comes", desc := "(IIII)I" } : Jvm.MethodName) ({ cls := "HungStreamsModel", name := "comes", desc := "(IIII)I" } : Jvm.MethodName) ∈ qm_ws := qm_mem3 (i := 199) rfl rfl
theorem qw_680 : Jvm.Cond.code ({ cls := "HungStreamsModel", name := "comes", desc := "(IIII)I" } : Jvm.MethodName) prog_9_method_17_code (5 : Nat) (Option.some Jvm.ClassFile.FieldType.int) ∈ qm_ws := qm_mem3 (i := 200) rfl rfl
theorem qw_681 : Jvm.Cond.constantLong "HungStreamsModel" (44 : Nat) (12 : Int64) ∈ qm_ws := qm_mem3 (i := 201) rfl rfl
theorem qw_682 : Jvm.Cond.methodLink "HungStreamsModel" (46 : Nat) ({ cls := "HungStreamsModel", name := "in", desc := "(JJJ)Z" } : Jvm.MethodName) ∈ qm_ws := qm_mem3 (i := 202) rfl rfl
theorem qw_683 : Jvm.Cond.static ({ cls := "HungStreamsModel", name := "in", desc := "(JJJ)Z" } : Jvm.MethodName) ∈ qm_ws := qm_mem3 (i := 203) rfl rfl
theorem qw_684 : Jvm.Cond.code ({ cls := "HungStreamsModel", name := "in", desc := "(JJJ)Z" } : Jvm.MethodName) prog_9_method_3_code (6 : Nat) (Option.some Jvm.ClassFile.FieldType.boolean) ∈ qm_ws := qm_mem3 (i := 204) rfl rfl
theorem qw_685 : Jvm.Cond.methodLink "HungStreamsModel" (78 : Nat) ({ cls := "HungStreamsModel", name := "isPlace", desc := "(I)Z" } : Jvm.MethodName) ∈ qm_ws := qm_mem3 (i := 205) rfl rfl
theorem qw_687 : Jvm.Cond.instanceMethod ({ cls := "HungStreamsModel", name := "isPlace", desc := "(I)Z" } : Jvm.MethodName) ∈ qm_ws := qm_mem3 (i := 207) rfl rfl
theorem qw_688 : Jvm.Cond.code ({ cls := "HungStreamsModel", name := "isPlace", desc := "(I)Z" } : Jvm.MethodName) prog_9_method_9_code (2 : Nat) (Option.some Jvm.ClassFile.FieldType.boolean) ∈ qm_ws := qm_mem3 (i := 208) rfl rfl
theorem qw_689 : Jvm.Cond.methodLink "HungStreamsModel" (54 : Nat) ({ cls := "HungStreamsModel", name := "isStream", desc := "(I)Z" } : Jvm.MethodName) ∈ qm_ws := qm_mem3 (i := 209) rfl rfl
theorem qw_691 : Jvm.Cond.instanceMethod ({ cls := "HungStreamsModel", name := "isStream", desc := "(I)Z" } : Jvm.MethodName) ∈ qm_ws := qm_mem3 (i := 211) rfl rfl
theorem qw_692 : Jvm.Cond.code ({ cls := "HungStreamsModel", name := "isStream", desc := "(I)Z" } : Jvm.MethodName) prog_9_method_8_code (2 : Nat) (Option.some Jvm.ClassFile.FieldType.boolean) ∈ qm_ws := qm_mem3 (i := 212) rfl rfl
theorem qw_693 : Jvm.Cond.methodLink "HungStreamsModel" (50 : Nat) ({ cls := "HungStreamsModel", name := "its", desc := "(II)J" } : Jvm.MethodName) ∈ qm_ws := qm_mem3 (i := 213) rfl rfl
theorem qw_695 : Jvm.Cond.instanceMethod ({ cls := "HungStreamsModel", name := "its", desc := "(II)J" } : Jvm.MethodName) ∈ qm_ws := qm_mem3 (i := 215) rfl rfl
theorem qw_696 : Jvm.Cond.code ({ cls := "HungStreamsModel", name := "its", desc := "(II)J" } : Jvm.MethodName) prog_9_method_6_code (3 : Nat) (Option.some Jvm.ClassFile.FieldType.long) ∈ qm_ws := qm_mem3 (i := 216) rfl rfl
theorem qw_697 : Jvm.Cond.constantLong "HungStreamsModel" (81 : Nat) (16 : Int64) ∈ qm_ws := qm_mem3 (i := 217) rfl rfl
theorem qw_698 : Jvm.Cond.methodLink "HungStreamsModel" (83 : Nat) ({ cls := "HungStreamsModel", name := "refuses", desc := "(I)I" } : Jvm.MethodName) ∈ qm_ws := qm_mem3 (i := 218) rfl rfl
theorem qw_700 : Jvm.Cond.instanceMethod ({ cls := "HungStreamsModel", name := "refuses", desc := "(I)I" } : Jvm.MethodName) ∈ qm_ws := qm_mem3 (i := 220) rfl rfl
theorem qw_701 : Jvm.Cond.code ({ cls := "HungStreamsModel", name := "refuses", desc := "(I)I" } : Jvm.MethodName) prog_9_method_4_code (2 : Nat) (Option.some Jvm.ClassFile.FieldType.int) ∈ qm_ws := qm_mem3 (i := 221) rfl rfl
theorem qw_702 : Jvm.Cond.methodLink "HungStreamsModel" (86 : Nat) ({ cls := "HungStreamsModel", name := "keep", desc := "()V" } : Jvm.MethodName) ∈ qm_ws := qm_mem3 (i := 222) rfl rfl
theorem qw_704 : Jvm.Cond.instanceMethod ({ cls := "HungStreamsModel", name := "keep", desc := "()V" } : Jvm.MethodName) ∈ qm_ws := qm_mem3 (i := 224) rfl rfl
theorem qw_705 : Jvm.Cond.code ({ cls := "HungStreamsModel", name := "keep", desc := "()V" } : Jvm.MethodName) prog_9_method_5_code (2 : Nat) (Option.none : Option Jvm.ClassFile.FieldType) ∈ qm_ws := qm_mem3 (i := 225) rfl rfl
theorem qw_706 : Jvm.Cond.methodLink "HungStreamsModel" (89 : Nat) ({ cls := "HungStreamsModel", name := "begins", desc := "(II)V" } : Jvm.MethodName) ∈ qm_ws := qm_mem3 (i := 226) rfl rfl
theorem qw_708 : Jvm.Cond.instanceMethod ({ cls := "HungStreamsModel", name := "begins", desc := "(II)V" } : Jvm.MethodName) ∈ qm_ws := qm_mem3 (i := 228) rfl rfl
theorem qw_709 : Jvm.Cond.code ({ cls := "HungStreamsModel", name := "begins", desc := "(II)V" } : Jvm.MethodName) prog_9_method_16_code (4 : Nat) (Option.none : Option Jvm.ClassFile.FieldType) ∈ qm_ws := qm_mem3 (i := 229) rfl rfl
theorem qw_710 : Jvm.Cond.methodLink "HungStreamsModel" (66 : Nat) ({ cls := "HungStreamsModel", name := "puts", desc := "(IIJ)V" } : Jvm.MethodName) ∈ qm_ws := qm_mem3 (i := 230) rfl rfl
theorem qw_712 : Jvm.Cond.instanceMethod ({ cls := "HungStreamsModel", name := "puts", desc := "(IIJ)V" } : Jvm.MethodName) ∈ qm_ws := qm_mem3 (i := 232) rfl rfl
theorem qw_713 : Jvm.Cond.code ({ cls := "HungStreamsModel", name := "puts", desc := "(IIJ)V" } : Jvm.MethodName) prog_9_method_7_code (5 : Nat) (Option.none : Option Jvm.ClassFile.FieldType) ∈ qm_ws := qm_mem3 (i := 233) rfl rfl
theorem qw_714 : Jvm.Cond.constantLong "HungStreamsModel" (74 : Nat) (1000 : Int64) ∈ qm_ws := qm_mem3 (i := 234) rfl rfl
theorem qw_715 : Jvm.Cond.constantLong "HungStreamsModel" (76 : Nat) (3 : Int64) ∈ qm_ws := qm_mem3 (i := 235) rfl rfl
theorem qw_716 : Jvm.Cond.methodLink "HungStreamsModel" (92 : Nat) ({ cls := "HungStreamsModel", name := "comesTo", desc := "(IIZ)V" } : Jvm.MethodName) ∈ qm_ws := qm_mem3 (i := 236) rfl rfl
theorem qw_718 : Jvm.Cond.instanceMethod ({ cls := "HungStreamsModel", name := "comesTo", desc := "(IIZ)V" } : Jvm.MethodName) ∈ qm_ws := qm_mem3 (i := 238) rfl rfl
theorem qw_719 : Jvm.Cond.code ({ cls := "HungStreamsModel", name := "comesTo", desc := "(IIZ)V" } : Jvm.MethodName) prog_9_method_15_code (5 : Nat) (Option.none : Option Jvm.ClassFile.FieldType) ∈ qm_ws := qm_mem3 (i := 239) rfl rfl
theorem qw_720 : Jvm.Cond.methodLink "HungStreamsModel" (62 : Nat) ({ cls := "HungStreamsModel", name := "isChild", desc := "(II)Z" } : Jvm.MethodName) ∈ qm_ws := qm_mem4 (i := 0) rfl rfl
theorem qw_722 : Jvm.Cond.instanceMethod ({ cls := "HungStreamsModel", name := "isChild", desc := "(II)Z" } : Jvm.MethodName) ∈ qm_ws := qm_mem4 (i := 2) rfl rfl
theorem qw_723 : Jvm.Cond.code ({ cls := "HungStreamsModel", name := "isChild", desc := "(II)Z" } : Jvm.MethodName) prog_9_method_11_code (3 : Nat) (Option.some Jvm.ClassFile.FieldType.boolean) ∈ qm_ws := qm_mem4 (i := 3) rfl rfl
theorem qw_724 : Jvm.Cond.methodLink "HungStreamsModel" (58 : Nat) ({ cls := "HungStreamsModel", name := "parent", desc := "(I)I" } : Jvm.MethodName) ∈ qm_ws := qm_mem4 (i := 4) rfl rfl
theorem qw_726 : Jvm.Cond.instanceMethod ({ cls := "HungStreamsModel", name := "parent", desc := "(I)I" } : Jvm.MethodName) ∈ qm_ws := qm_mem4 (i := 6) rfl rfl
theorem qw_727 : Jvm.Cond.code ({ cls := "HungStreamsModel", name := "parent", desc := "(I)I" } : Jvm.MethodName) prog_9_method_10_code (2 : Nat) (Option.some Jvm.ClassFile.FieldType.int) ∈ qm_ws := qm_mem4 (i := 7) rfl rfl
theorem qw_728 : Jvm.Cond.methodLink "HungStreamsModel" (70 : Nat) ({ cls := "HungStreamsModel", name := "hangs", desc := "(II)V" } : Jvm.MethodName) ∈ qm_ws := qm_mem4 (i := 8) rfl rfl
theorem qw_730 : Jvm.Cond.instanceMethod ({ cls := "HungStreamsModel", name := "hangs", desc := "(II)V" } : Jvm.MethodName) ∈ qm_ws := qm_mem4 (i := 10) rfl rfl
theorem qw_731 : Jvm.Cond.code ({ cls := "HungStreamsModel", name := "hangs", desc := "(II)V" } : Jvm.MethodName) prog_9_method_14_code (3 : Nat) (Option.none : Option Jvm.ClassFile.FieldType) ∈ qm_ws := qm_mem4 (i := 11) rfl rfl
theorem qw_732 : Jvm.Cond.methodLink "HungStreamsModel" (96 : Nat) ({ cls := "HungStreamsModel", name := "children", desc := "(I)I" } : Jvm.MethodName) ∈ qm_ws := qm_mem4 (i := 12) rfl rfl
theorem qw_734 : Jvm.Cond.instanceMethod ({ cls := "HungStreamsModel", name := "children", desc := "(I)I" } : Jvm.MethodName) ∈ qm_ws := qm_mem4 (i := 14) rfl rfl
theorem qw_735 : Jvm.Cond.code ({ cls := "HungStreamsModel", name := "children", desc := "(I)I" } : Jvm.MethodName) prog_9_method_13_code (4 : Nat) (Option.some Jvm.ClassFile.FieldType.int) ∈ qm_ws := qm_mem4 (i := 15) rfl rfl
theorem qw_736 : Jvm.Cond.methodLink "HungStreamsLaw" (21 : Nat) ({ cls := "HungStreamsModel", name := "moves", desc := "(IIII)I" } : Jvm.MethodName) ∈ qm_ws := qm_mem4 (i := 16) rfl rfl
theorem qw_737 : Jvm.Cond.instanceMethod ({ cls := "HungStreamsModel", name := "moves", desc := "(IIII)I" } : Jvm.MethodName) ∈ qm_ws := qm_mem4 (i := 17) rfl rfl
theorem qw_738 : Jvm.Cond.selects "HungStreamsModel" ({ cls := "HungStreamsModel", name := "moves", desc := "(IIII)I" } : Jvm.MethodName) ({ cls := "HungStreamsModel", name := "moves", desc := "(IIII)I" } : Jvm.MethodName) ∈ qm_ws := qm_mem4 (i := 18) rfl rfl
theorem qw_739 : Jvm.Cond.code ({ cls := "HungStreamsModel", name := "moves", desc := "(IIII)I" } : Jvm.MethodName) prog_9_method_18_code (5 : Nat) (Option.some Jvm.ClassFile.FieldType.int) ∈ qm_ws := qm_mem4 (i := 19) rfl rfl
theorem qw_740 : Jvm.Cond.methodLink "HungStreamsModel" (99 : Nat) ({ cls := "HungStreamsModel", name := "isBelow", desc := "(II)Z" } : Jvm.MethodName) ∈ qm_ws := qm_mem4 (i := 20) rfl rfl
theorem qw_742 : Jvm.Cond.instanceMethod ({ cls := "HungStreamsModel", name := "isBelow", desc := "(II)Z" } : Jvm.MethodName) ∈ qm_ws := qm_mem4 (i := 22) rfl rfl
theorem qw_743 : Jvm.Cond.code ({ cls := "HungStreamsModel", name := "isBelow", desc := "(II)Z" } : Jvm.MethodName) prog_9_method_12_code (4 : Nat) (Option.some Jvm.ClassFile.FieldType.boolean) ∈ qm_ws := qm_mem4 (i := 23) rfl rfl
theorem qw_744 : Jvm.Cond.methodLink "HungStreamsLaw" (26 : Nat) ({ cls := "HungStreamsModel", name := "sets", desc := "(III)I" } : Jvm.MethodName) ∈ qm_ws := qm_mem4 (i := 24) rfl rfl
theorem qw_745 : Jvm.Cond.instanceMethod ({ cls := "HungStreamsModel", name := "sets", desc := "(III)I" } : Jvm.MethodName) ∈ qm_ws := qm_mem4 (i := 25) rfl rfl
theorem qw_746 : Jvm.Cond.selects "HungStreamsModel" ({ cls := "HungStreamsModel", name := "sets", desc := "(III)I" } : Jvm.MethodName) ({ cls := "HungStreamsModel", name := "sets", desc := "(III)I" } : Jvm.MethodName) ∈ qm_ws := qm_mem4 (i := 26) rfl rfl
theorem qw_747 : Jvm.Cond.code ({ cls := "HungStreamsModel", name := "sets", desc := "(III)I" } : Jvm.MethodName) prog_9_method_21_code (5 : Nat) (Option.some Jvm.ClassFile.FieldType.int) ∈ qm_ws := qm_mem4 (i := 27) rfl rfl
theorem qw_748 : Jvm.Cond.methodLink "HungStreamsModel" (104 : Nat) ({ cls := "HungStreamsModel", name := "isSetting", desc := "(II)Z" } : Jvm.MethodName) ∈ qm_ws := qm_mem4 (i := 28) rfl rfl
theorem qw_749 : Jvm.Cond.static ({ cls := "HungStreamsModel", name := "isSetting", desc := "(II)Z" } : Jvm.MethodName) ∈ qm_ws := qm_mem4 (i := 29) rfl rfl
theorem qw_750 : Jvm.Cond.code ({ cls := "HungStreamsModel", name := "isSetting", desc := "(II)Z" } : Jvm.MethodName) prog_9_method_19_code (2 : Nat) (Option.some Jvm.ClassFile.FieldType.boolean) ∈ qm_ws := qm_mem4 (i := 30) rfl rfl
theorem qw_751 : Jvm.Cond.constantLong "HungStreamsModel" (102 : Nat) (7 : Int64) ∈ qm_ws := qm_mem4 (i := 31) rfl rfl
theorem qw_752 : Jvm.Cond.methodLink "HungStreamsModel" (107 : Nat) ({ cls := "HungStreamsModel", name := "placeOf", desc := "(I)I" } : Jvm.MethodName) ∈ qm_ws := qm_mem4 (i := 32) rfl rfl
theorem qw_753 : Jvm.Cond.static ({ cls := "HungStreamsModel", name := "placeOf", desc := "(I)I" } : Jvm.MethodName) ∈ qm_ws := qm_mem4 (i := 33) rfl rfl
theorem qw_754 : Jvm.Cond.code ({ cls := "HungStreamsModel", name := "placeOf", desc := "(I)I" } : Jvm.MethodName) prog_9_method_20_code (1 : Nat) (Option.some Jvm.ClassFile.FieldType.int) ∈ qm_ws := qm_mem4 (i := 34) rfl rfl
theorem qw_755 : Jvm.Cond.methodLink "HungStreamsLaw" (31 : Nat) ({ cls := "HungStreamsModel", name := "closes", desc := "(I)I" } : Jvm.MethodName) ∈ qm_ws := qm_mem4 (i := 35) rfl rfl
theorem qw_756 : Jvm.Cond.instanceMethod ({ cls := "HungStreamsModel", name := "closes", desc := "(I)I" } : Jvm.MethodName) ∈ qm_ws := qm_mem4 (i := 36) rfl rfl
theorem qw_757 : Jvm.Cond.selects "HungStreamsModel" ({ cls := "HungStreamsModel", name := "closes", desc := "(I)I" } : Jvm.MethodName) ({ cls := "HungStreamsModel", name := "closes", desc := "(I)I" } : Jvm.MethodName) ∈ qm_ws := qm_mem4 (i := 37) rfl rfl
theorem qw_758 : Jvm.Cond.code ({ cls := "HungStreamsModel", name := "closes", desc := "(I)I" } : Jvm.MethodName) prog_9_method_26_code (2 : Nat) (Option.some Jvm.ClassFile.FieldType.int) ∈ qm_ws := qm_mem4 (i := 38) rfl rfl
theorem qw_759 : Jvm.Cond.methodLink "HungStreamsModel" (114 : Nat) ({ cls := "HungStreamsModel", name := "goesAll", desc := "()V" } : Jvm.MethodName) ∈ qm_ws := qm_mem4 (i := 39) rfl rfl
theorem qw_761 : Jvm.Cond.instanceMethod ({ cls := "HungStreamsModel", name := "goesAll", desc := "()V" } : Jvm.MethodName) ∈ qm_ws := qm_mem4 (i := 41) rfl rfl
theorem qw_762 : Jvm.Cond.code ({ cls := "HungStreamsModel", name := "goesAll", desc := "()V" } : Jvm.MethodName) prog_9_method_25_code (2 : Nat) (Option.none : Option Jvm.ClassFile.FieldType) ∈ qm_ws := qm_mem4 (i := 42) rfl rfl
theorem qw_763 : Jvm.Cond.methodLink "HungStreamsModel" (110 : Nat) ({ cls := "HungStreamsModel", name := "goes", desc := "(I)V" } : Jvm.MethodName) ∈ qm_ws := qm_mem4 (i := 43) rfl rfl
theorem qw_765 : Jvm.Cond.instanceMethod ({ cls := "HungStreamsModel", name := "goes", desc := "(I)V" } : Jvm.MethodName) ∈ qm_ws := qm_mem4 (i := 45) rfl rfl
theorem qw_766 : Jvm.Cond.code ({ cls := "HungStreamsModel", name := "goes", desc := "(I)V" } : Jvm.MethodName) prog_9_method_24_code (7 : Nat) (Option.none : Option Jvm.ClassFile.FieldType) ∈ qm_ws := qm_mem4 (i := 46) rfl rfl
theorem qw_767 : Jvm.Cond.methodLink "HungStreamsModel" (117 : Nat) ({ cls := "HungStreamsModel", name := "there", desc := "()I" } : Jvm.MethodName) ∈ qm_ws := qm_mem4 (i := 47) rfl rfl
theorem qw_769 : Jvm.Cond.instanceMethod ({ cls := "HungStreamsModel", name := "there", desc := "()I" } : Jvm.MethodName) ∈ qm_ws := qm_mem4 (i := 49) rfl rfl
theorem qw_770 : Jvm.Cond.code ({ cls := "HungStreamsModel", name := "there", desc := "()I" } : Jvm.MethodName) prog_9_method_22_code (3 : Nat) (Option.some Jvm.ClassFile.FieldType.int) ∈ qm_ws := qm_mem4 (i := 50) rfl rfl
theorem qw_771 : Jvm.Cond.methodLink "HungStreamsModel" (121 : Nat) ({ cls := "HungStreamsModel", name := "size", desc := "(I)I" } : Jvm.MethodName) ∈ qm_ws := qm_mem4 (i := 51) rfl rfl
theorem qw_772 : Jvm.Cond.static ({ cls := "HungStreamsModel", name := "size", desc := "(I)I" } : Jvm.MethodName) ∈ qm_ws := qm_mem4 (i := 52) rfl rfl
theorem qw_773 : Jvm.Cond.code ({ cls := "HungStreamsModel", name := "size", desc := "(I)I" } : Jvm.MethodName) prog_9_method_23_code (3 : Nat) (Option.some Jvm.ClassFile.FieldType.int) ∈ qm_ws := qm_mem4 (i := 53) rfl rfl
theorem qw_774 : Jvm.Cond.methodLink "HungStreamsLaw" (36 : Nat) ({ cls := "HungStreamsModel", name := "of", desc := "(II)I" } : Jvm.MethodName) ∈ qm_ws := qm_mem4 (i := 54) rfl rfl
theorem qw_775 : Jvm.Cond.instanceMethod ({ cls := "HungStreamsModel", name := "of", desc := "(II)I" } : Jvm.MethodName) ∈ qm_ws := qm_mem4 (i := 55) rfl rfl
theorem qw_776 : Jvm.Cond.selects "HungStreamsModel" ({ cls := "HungStreamsModel", name := "of", desc := "(II)I" } : Jvm.MethodName) ({ cls := "HungStreamsModel", name := "of", desc := "(II)I" } : Jvm.MethodName) ∈ qm_ws := qm_mem4 (i := 56) rfl rfl
theorem qw_777 : Jvm.Cond.code ({ cls := "HungStreamsModel", name := "of", desc := "(II)I" } : Jvm.MethodName) prog_9_method_33_code (3 : Nat) (Option.some Jvm.ClassFile.FieldType.int) ∈ qm_ws := qm_mem4 (i := 57) rfl rfl
theorem qw_778 : Jvm.Cond.constantLong "HungStreamsModel" (133 : Nat) (15 : Int64) ∈ qm_ws := qm_mem4 (i := 58) rfl rfl
theorem qw_779 : Jvm.Cond.methodLink "HungStreamsModel" (135 : Nat) ({ cls := "HungStreamsModel", name := "ofNow", desc := "(II)I" } : Jvm.MethodName) ∈ qm_ws := qm_mem4 (i := 59) rfl rfl
theorem qw_781 : Jvm.Cond.instanceMethod ({ cls := "HungStreamsModel", name := "ofNow", desc := "(II)I" } : Jvm.MethodName) ∈ qm_ws := qm_mem4 (i := 61) rfl rfl
theorem qw_782 : Jvm.Cond.code ({ cls := "HungStreamsModel", name := "ofNow", desc := "(II)I" } : Jvm.MethodName) prog_9_method_32_code (3 : Nat) (Option.some Jvm.ClassFile.FieldType.int) ∈ qm_ws := qm_mem4 (i := 62) rfl rfl
theorem qw_783 : Jvm.Cond.methodLink "HungStreamsModel" (130 : Nat) ({ cls := "HungStreamsModel", name := "below", desc := "(I)I" } : Jvm.MethodName) ∈ qm_ws := qm_mem4 (i := 63) rfl rfl
theorem qw_785 : Jvm.Cond.instanceMethod ({ cls := "HungStreamsModel", name := "below", desc := "(I)I" } : Jvm.MethodName) ∈ qm_ws := qm_mem4 (i := 65) rfl rfl
theorem qw_786 : Jvm.Cond.code ({ cls := "HungStreamsModel", name := "below", desc := "(I)I" } : Jvm.MethodName) prog_9_method_31_code (4 : Nat) (Option.some Jvm.ClassFile.FieldType.int) ∈ qm_ws := qm_mem4 (i := 66) rfl rfl
theorem qw_787 : Jvm.Cond.methodLink "HungStreamsModel" (124 : Nat) ({ cls := "HungStreamsModel", name := "can", desc := "(I)Z" } : Jvm.MethodName) ∈ qm_ws := qm_mem4 (i := 67) rfl rfl
theorem qw_789 : Jvm.Cond.instanceMethod ({ cls := "HungStreamsModel", name := "can", desc := "(I)Z" } : Jvm.MethodName) ∈ qm_ws := qm_mem4 (i := 69) rfl rfl
theorem qw_790 : Jvm.Cond.code ({ cls := "HungStreamsModel", name := "can", desc := "(I)Z" } : Jvm.MethodName) prog_9_method_27_code (2 : Nat) (Option.some Jvm.ClassFile.FieldType.boolean) ∈ qm_ws := qm_mem4 (i := 70) rfl rfl
theorem qw_791 : Jvm.Cond.methodLink "HungStreamsModel" (127 : Nat) ({ cls := "HungStreamsModel", name := "isLive", desc := "(I)Z" } : Jvm.MethodName) ∈ qm_ws := qm_mem4 (i := 71) rfl rfl
theorem qw_793 : Jvm.Cond.instanceMethod ({ cls := "HungStreamsModel", name := "isLive", desc := "(I)Z" } : Jvm.MethodName) ∈ qm_ws := qm_mem4 (i := 73) rfl rfl
theorem qw_794 : Jvm.Cond.code ({ cls := "HungStreamsModel", name := "isLive", desc := "(I)Z" } : Jvm.MethodName) prog_9_method_29_code (4 : Nat) (Option.some Jvm.ClassFile.FieldType.boolean) ∈ qm_ws := qm_mem4 (i := 74) rfl rfl
theorem qw_795 : Jvm.Cond.methodLink "HungStreamsLaw" (41 : Nat) ({ cls := "HungStreamsModel", name := "turn", desc := "(II)J" } : Jvm.MethodName) ∈ qm_ws := qm_mem4 (i := 75) rfl rfl
theorem qw_796 : Jvm.Cond.instanceMethod ({ cls := "HungStreamsModel", name := "turn", desc := "(II)J" } : Jvm.MethodName) ∈ qm_ws := qm_mem4 (i := 76) rfl rfl
theorem qw_797 : Jvm.Cond.selects "HungStreamsModel" ({ cls := "HungStreamsModel", name := "turn", desc := "(II)J" } : Jvm.MethodName) ({ cls := "HungStreamsModel", name := "turn", desc := "(II)J" } : Jvm.MethodName) ∈ qm_ws := qm_mem4 (i := 77) rfl rfl
theorem qw_798 : Jvm.Cond.code ({ cls := "HungStreamsModel", name := "turn", desc := "(II)J" } : Jvm.MethodName) prog_9_method_34_code (4 : Nat) (Option.some Jvm.ClassFile.FieldType.long) ∈ qm_ws := qm_mem4 (i := 78) rfl rfl
theorem qw_799 : Jvm.Cond.methodLink "HungStreamsLaw" (45 : Nat) ({ cls := "HungStreamsModel", name := "child", desc := "(II)I" } : Jvm.MethodName) ∈ qm_ws := qm_mem4 (i := 79) rfl rfl
theorem qw_800 : Jvm.Cond.instanceMethod ({ cls := "HungStreamsModel", name := "child", desc := "(II)I" } : Jvm.MethodName) ∈ qm_ws := qm_mem4 (i := 80) rfl rfl
theorem qw_801 : Jvm.Cond.selects "HungStreamsModel" ({ cls := "HungStreamsModel", name := "child", desc := "(II)I" } : Jvm.MethodName) ({ cls := "HungStreamsModel", name := "child", desc := "(II)I" } : Jvm.MethodName) ∈ qm_ws := qm_mem4 (i := 81) rfl rfl
theorem qw_802 : Jvm.Cond.code ({ cls := "HungStreamsModel", name := "child", desc := "(II)I" } : Jvm.MethodName) prog_9_method_35_code (5 : Nat) (Option.some Jvm.ClassFile.FieldType.int) ∈ qm_ws := qm_mem4 (i := 82) rfl rfl
theorem qw_803 : Jvm.Cond.methodLink "HungStreamsLaw" (49 : Nat) ({ cls := "HungStreamsModel", name := "common", desc := "(II)I" } : Jvm.MethodName) ∈ qm_ws := qm_mem4 (i := 83) rfl rfl
theorem qw_804 : Jvm.Cond.instanceMethod ({ cls := "HungStreamsModel", name := "common", desc := "(II)I" } : Jvm.MethodName) ∈ qm_ws := qm_mem4 (i := 84) rfl rfl
theorem qw_805 : Jvm.Cond.selects "HungStreamsModel" ({ cls := "HungStreamsModel", name := "common", desc := "(II)I" } : Jvm.MethodName) ({ cls := "HungStreamsModel", name := "common", desc := "(II)I" } : Jvm.MethodName) ∈ qm_ws := qm_mem4 (i := 85) rfl rfl
theorem qw_806 : Jvm.Cond.code ({ cls := "HungStreamsModel", name := "common", desc := "(II)I" } : Jvm.MethodName) prog_9_method_36_code (4 : Nat) (Option.some Jvm.ClassFile.FieldType.int) ∈ qm_ws := qm_mem4 (i := 86) rfl rfl
theorem qw_807 : Jvm.Cond.methodLink "HungStreamsLaw" (53 : Nat) ({ cls := "HungStreamsModel", name := "readies", desc := "(II)I" } : Jvm.MethodName) ∈ qm_ws := qm_mem4 (i := 87) rfl rfl
theorem qw_808 : Jvm.Cond.instanceMethod ({ cls := "HungStreamsModel", name := "readies", desc := "(II)I" } : Jvm.MethodName) ∈ qm_ws := qm_mem4 (i := 88) rfl rfl
theorem qw_809 : Jvm.Cond.selects "HungStreamsModel" ({ cls := "HungStreamsModel", name := "readies", desc := "(II)I" } : Jvm.MethodName) ({ cls := "HungStreamsModel", name := "readies", desc := "(II)I" } : Jvm.MethodName) ∈ qm_ws := qm_mem4 (i := 89) rfl rfl
theorem qw_810 : Jvm.Cond.code ({ cls := "HungStreamsModel", name := "readies", desc := "(II)I" } : Jvm.MethodName) prog_9_method_37_code (3 : Nat) (Option.some Jvm.ClassFile.FieldType.int) ∈ qm_ws := qm_mem4 (i := 90) rfl rfl
theorem qw_811 : Jvm.Cond.constantLong "HungStreamsModel" (139 : Nat) (9999 : Int64) ∈ qm_ws := qm_mem4 (i := 91) rfl rfl
theorem qw_812 : Jvm.Cond.methodLink "HungStreamsLaw" (57 : Nat) ({ cls := "HungStreamsModel", name := "window", desc := "(II)I" } : Jvm.MethodName) ∈ qm_ws := qm_mem4 (i := 92) rfl rfl
theorem qw_813 : Jvm.Cond.instanceMethod ({ cls := "HungStreamsModel", name := "window", desc := "(II)I" } : Jvm.MethodName) ∈ qm_ws := qm_mem4 (i := 93) rfl rfl
theorem qw_814 : Jvm.Cond.selects "HungStreamsModel" ({ cls := "HungStreamsModel", name := "window", desc := "(II)I" } : Jvm.MethodName) ({ cls := "HungStreamsModel", name := "window", desc := "(II)I" } : Jvm.MethodName) ∈ qm_ws := qm_mem4 (i := 94) rfl rfl
theorem qw_815 : Jvm.Cond.code ({ cls := "HungStreamsModel", name := "window", desc := "(II)I" } : Jvm.MethodName) prog_9_method_38_code (4 : Nat) (Option.some Jvm.ClassFile.FieldType.int) ∈ qm_ws := qm_mem4 (i := 95) rfl rfl
theorem qw_816 : Jvm.Cond.methodLink "HungStreamsLaw" (61 : Nat) ({ cls := "HungStreamsModel", name := "settings", desc := "(II)I" } : Jvm.MethodName) ∈ qm_ws := qm_mem4 (i := 96) rfl rfl
theorem qw_817 : Jvm.Cond.instanceMethod ({ cls := "HungStreamsModel", name := "settings", desc := "(II)I" } : Jvm.MethodName) ∈ qm_ws := qm_mem4 (i := 97) rfl rfl
theorem qw_818 : Jvm.Cond.selects "HungStreamsModel" ({ cls := "HungStreamsModel", name := "settings", desc := "(II)I" } : Jvm.MethodName) ({ cls := "HungStreamsModel", name := "settings", desc := "(II)I" } : Jvm.MethodName) ∈ qm_ws := qm_mem4 (i := 98) rfl rfl
theorem qw_819 : Jvm.Cond.code ({ cls := "HungStreamsModel", name := "settings", desc := "(II)I" } : Jvm.MethodName) prog_9_method_39_code (5 : Nat) (Option.some Jvm.ClassFile.FieldType.int) ∈ qm_ws := qm_mem4 (i := 99) rfl rfl
theorem qw_820 : Jvm.Cond.constantLong "HungStreamsModel" (141 : Nat) (99999 : Int64) ∈ qm_ws := qm_mem4 (i := 100) rfl rfl
theorem qw_821 : Jvm.Cond.constantLong "HungStreamsModel" (143 : Nat) (999 : Int64) ∈ qm_ws := qm_mem4 (i := 101) rfl rfl
theorem qw_822 : Jvm.Cond.constantLong "HungStreamsModel" (145 : Nat) (50 : Int64) ∈ qm_ws := qm_mem4 (i := 102) rfl rfl
theorem qw_823 : Jvm.Cond.methodLink "HungStreamsLaw" (70 : Nat) ({ cls := "HungStreamsModel", name := "next", desc := "()I" } : Jvm.MethodName) ∈ qm_ws := qm_mem4 (i := 103) rfl rfl
theorem qw_824 : Jvm.Cond.instanceMethod ({ cls := "HungStreamsModel", name := "next", desc := "()I" } : Jvm.MethodName) ∈ qm_ws := qm_mem4 (i := 104) rfl rfl
theorem qw_825 : Jvm.Cond.selects "HungStreamsModel" ({ cls := "HungStreamsModel", name := "next", desc := "()I" } : Jvm.MethodName) ({ cls := "HungStreamsModel", name := "next", desc := "()I" } : Jvm.MethodName) ∈ qm_ws := qm_mem4 (i := 105) rfl rfl
theorem qw_826 : Jvm.Cond.code ({ cls := "HungStreamsModel", name := "next", desc := "()I" } : Jvm.MethodName) prog_9_method_46_code (1 : Nat) (Option.some Jvm.ClassFile.FieldType.int) ∈ qm_ws := qm_mem4 (i := 106) rfl rfl
theorem qw_827 : Jvm.Cond.methodLink "HungStreamsModel" (165 : Nat) ({ cls := "HungStreamsModel", name := "nextNow", desc := "()I" } : Jvm.MethodName) ∈ qm_ws := qm_mem4 (i := 107) rfl rfl
theorem qw_829 : Jvm.Cond.instanceMethod ({ cls := "HungStreamsModel", name := "nextNow", desc := "()I" } : Jvm.MethodName) ∈ qm_ws := qm_mem4 (i := 109) rfl rfl
theorem qw_830 : Jvm.Cond.code ({ cls := "HungStreamsModel", name := "nextNow", desc := "()I" } : Jvm.MethodName) prog_9_method_45_code (1 : Nat) (Option.some Jvm.ClassFile.FieldType.int) ∈ qm_ws := qm_mem4 (i := 110) rfl rfl
theorem qw_831 : Jvm.Cond.methodLink "HungStreamsModel" (159 : Nat) ({ cls := "HungStreamsModel", name := "byTree", desc := "()I" } : Jvm.MethodName) ∈ qm_ws := qm_mem4 (i := 111) rfl rfl
theorem qw_833 : Jvm.Cond.instanceMethod ({ cls := "HungStreamsModel", name := "byTree", desc := "()I" } : Jvm.MethodName) ∈ qm_ws := qm_mem4 (i := 113) rfl rfl
theorem qw_834 : Jvm.Cond.code ({ cls := "HungStreamsModel", name := "byTree", desc := "()I" } : Jvm.MethodName) prog_9_method_42_code (3 : Nat) (Option.some Jvm.ClassFile.FieldType.int) ∈ qm_ws := qm_mem4 (i := 114) rfl rfl
theorem qw_835 : Jvm.Cond.methodLink "HungStreamsModel" (150 : Nat) ({ cls := "HungStreamsModel", name := "liveSet", desc := "()I" } : Jvm.MethodName) ∈ qm_ws := qm_mem4 (i := 115) rfl rfl
theorem qw_837 : Jvm.Cond.instanceMethod ({ cls := "HungStreamsModel", name := "liveSet", desc := "()I" } : Jvm.MethodName) ∈ qm_ws := qm_mem4 (i := 117) rfl rfl
theorem qw_838 : Jvm.Cond.code ({ cls := "HungStreamsModel", name := "liveSet", desc := "()I" } : Jvm.MethodName) prog_9_method_30_code (3 : Nat) (Option.some Jvm.ClassFile.FieldType.int) ∈ qm_ws := qm_mem4 (i := 118) rfl rfl
theorem qw_839 : Jvm.Cond.methodLink "HungStreamsModel" (153 : Nat) ({ cls := "HungStreamsModel", name := "first", desc := "(II)I" } : Jvm.MethodName) ∈ qm_ws := qm_mem4 (i := 119) rfl rfl
theorem qw_841 : Jvm.Cond.instanceMethod ({ cls := "HungStreamsModel", name := "first", desc := "(II)I" } : Jvm.MethodName) ∈ qm_ws := qm_mem4 (i := 121) rfl rfl
theorem qw_842 : Jvm.Cond.code ({ cls := "HungStreamsModel", name := "first", desc := "(II)I" } : Jvm.MethodName) prog_9_method_41_code (5 : Nat) (Option.some Jvm.ClassFile.FieldType.int) ∈ qm_ws := qm_mem4 (i := 122) rfl rfl
theorem qw_843 : Jvm.Cond.methodLink "HungStreamsModel" (147 : Nat) ({ cls := "HungStreamsModel", name := "turnThen", desc := "(II)J" } : Jvm.MethodName) ∈ qm_ws := qm_mem4 (i := 123) rfl rfl
theorem qw_845 : Jvm.Cond.instanceMethod ({ cls := "HungStreamsModel", name := "turnThen", desc := "(II)J" } : Jvm.MethodName) ∈ qm_ws := qm_mem4 (i := 125) rfl rfl
theorem qw_846 : Jvm.Cond.code ({ cls := "HungStreamsModel", name := "turnThen", desc := "(II)J" } : Jvm.MethodName) prog_9_method_40_code (6 : Nat) (Option.some Jvm.ClassFile.FieldType.long) ∈ qm_ws := qm_mem4 (i := 126) rfl rfl
theorem qw_847 : Jvm.Cond.methodLink "HungStreamsModel" (162 : Nat) ({ cls := "HungStreamsModel", name := "byUrgency", desc := "()I" } : Jvm.MethodName) ∈ qm_ws := qm_mem4 (i := 127) rfl rfl
theorem qw_849 : Jvm.Cond.instanceMethod ({ cls := "HungStreamsModel", name := "byUrgency", desc := "()I" } : Jvm.MethodName) ∈ qm_ws := qm_mem4 (i := 129) rfl rfl
theorem qw_850 : Jvm.Cond.code ({ cls := "HungStreamsModel", name := "byUrgency", desc := "()I" } : Jvm.MethodName) prog_9_method_44_code (3 : Nat) (Option.some Jvm.ClassFile.FieldType.int) ∈ qm_ws := qm_mem4 (i := 130) rfl rfl
theorem qw_851 : Jvm.Cond.methodLink "HungStreamsModel" (156 : Nat) ({ cls := "HungStreamsModel", name := "isAhead", desc := "(II)Z" } : Jvm.MethodName) ∈ qm_ws := qm_mem4 (i := 131) rfl rfl
theorem qw_853 : Jvm.Cond.instanceMethod ({ cls := "HungStreamsModel", name := "isAhead", desc := "(II)Z" } : Jvm.MethodName) ∈ qm_ws := qm_mem4 (i := 133) rfl rfl
theorem qw_854 : Jvm.Cond.code ({ cls := "HungStreamsModel", name := "isAhead", desc := "(II)Z" } : Jvm.MethodName) prog_9_method_43_code (3 : Nat) (Option.some Jvm.ClassFile.FieldType.boolean) ∈ qm_ws := qm_mem4 (i := 134) rfl rfl
theorem qw_855 : Jvm.Cond.methodLink "HungStreamsLaw" (65 : Nat) ({ cls := "HungStreamsModel", name := "sends", desc := "(I)I" } : Jvm.MethodName) ∈ qm_ws := qm_mem4 (i := 135) rfl rfl
theorem qw_856 : Jvm.Cond.instanceMethod ({ cls := "HungStreamsModel", name := "sends", desc := "(I)I" } : Jvm.MethodName) ∈ qm_ws := qm_mem4 (i := 136) rfl rfl
theorem qw_857 : Jvm.Cond.selects "HungStreamsModel" ({ cls := "HungStreamsModel", name := "sends", desc := "(I)I" } : Jvm.MethodName) ({ cls := "HungStreamsModel", name := "sends", desc := "(I)I" } : Jvm.MethodName) ∈ qm_ws := qm_mem4 (i := 137) rfl rfl
theorem qw_858 : Jvm.Cond.code ({ cls := "HungStreamsModel", name := "sends", desc := "(I)I" } : Jvm.MethodName) prog_9_method_51_code (3 : Nat) (Option.some Jvm.ClassFile.FieldType.int) ∈ qm_ws := qm_mem4 (i := 138) rfl rfl
theorem qw_859 : Jvm.Cond.methodLink "HungStreamsModel" (184 : Nat) ({ cls := "HungStreamsModel", name := "isSent", desc := "()Z" } : Jvm.MethodName) ∈ qm_ws := qm_mem4 (i := 139) rfl rfl
theorem qw_861 : Jvm.Cond.instanceMethod ({ cls := "HungStreamsModel", name := "isSent", desc := "()Z" } : Jvm.MethodName) ∈ qm_ws := qm_mem4 (i := 141) rfl rfl
theorem qw_862 : Jvm.Cond.code ({ cls := "HungStreamsModel", name := "isSent", desc := "()Z" } : Jvm.MethodName) prog_9_method_50_code (8 : Nat) (Option.some Jvm.ClassFile.FieldType.boolean) ∈ qm_ws := qm_mem4 (i := 142) rfl rfl
theorem qw_863 : Jvm.Cond.methodLink "HungStreamsModel" (170 : Nat) ({ cls := "HungStreamsModel", name := "looks", desc := "()V" } : Jvm.MethodName) ∈ qm_ws := qm_mem4 (i := 143) rfl rfl
theorem qw_865 : Jvm.Cond.instanceMethod ({ cls := "HungStreamsModel", name := "looks", desc := "()V" } : Jvm.MethodName) ∈ qm_ws := qm_mem4 (i := 145) rfl rfl
theorem qw_866 : Jvm.Cond.code ({ cls := "HungStreamsModel", name := "looks", desc := "()V" } : Jvm.MethodName) prog_9_method_47_code (3 : Nat) (Option.none : Option Jvm.ClassFile.FieldType) ∈ qm_ws := qm_mem4 (i := 146) rfl rfl
theorem qw_867 : Jvm.Cond.methodLink "HungStreamsModel" (173 : Nat) ({ cls := "HungStreamsModel", name := "canSet", desc := "()I" } : Jvm.MethodName) ∈ qm_ws := qm_mem4 (i := 147) rfl rfl
theorem qw_869 : Jvm.Cond.instanceMethod ({ cls := "HungStreamsModel", name := "canSet", desc := "()I" } : Jvm.MethodName) ∈ qm_ws := qm_mem4 (i := 149) rfl rfl
theorem qw_870 : Jvm.Cond.code ({ cls := "HungStreamsModel", name := "canSet", desc := "()I" } : Jvm.MethodName) prog_9_method_28_code (3 : Nat) (Option.some Jvm.ClassFile.FieldType.int) ∈ qm_ws := qm_mem4 (i := 150) rfl rfl
theorem qw_871 : Jvm.Cond.methodLink "HungStreamsModel" (176 : Nat) ({ cls := "HungStreamsModel", name := "bytesOf", desc := "(I)J" } : Jvm.MethodName) ∈ qm_ws := qm_mem4 (i := 151) rfl rfl
theorem qw_873 : Jvm.Cond.instanceMethod ({ cls := "HungStreamsModel", name := "bytesOf", desc := "(I)J" } : Jvm.MethodName) ∈ qm_ws := qm_mem4 (i := 153) rfl rfl
theorem qw_874 : Jvm.Cond.code ({ cls := "HungStreamsModel", name := "bytesOf", desc := "(I)J" } : Jvm.MethodName) prog_9_method_48_code (4 : Nat) (Option.some Jvm.ClassFile.FieldType.long) ∈ qm_ws := qm_mem4 (i := 154) rfl rfl
theorem qw_875 : Jvm.Cond.methodLink "HungStreamsModel" (180 : Nat) ({ cls := "HungStreamsModel", name := "turns", desc := "(IJ)V" } : Jvm.MethodName) ∈ qm_ws := qm_mem4 (i := 155) rfl rfl
theorem qw_877 : Jvm.Cond.instanceMethod ({ cls := "HungStreamsModel", name := "turns", desc := "(IJ)V" } : Jvm.MethodName) ∈ qm_ws := qm_mem4 (i := 157) rfl rfl
theorem qw_878 : Jvm.Cond.code ({ cls := "HungStreamsModel", name := "turns", desc := "(IJ)V" } : Jvm.MethodName) prog_9_method_49_code (5 : Nat) (Option.none : Option Jvm.ClassFile.FieldType) ∈ qm_ws := qm_mem4 (i := 158) rfl rfl
theorem qw_879 : Jvm.Cond.constantLong "HungStreamsModel" (168 : Nat) (720720 : Int64) ∈ qm_ws := qm_mem4 (i := 159) rfl rfl
theorem qw_880 : Jvm.Cond.methodLink "HungStreamsLaw" (74 : Nat) ({ cls := "HungStreamsModel", name := "share", desc := "(II)J" } : Jvm.MethodName) ∈ qm_ws := qm_mem4 (i := 160) rfl rfl
theorem qw_881 : Jvm.Cond.instanceMethod ({ cls := "HungStreamsModel", name := "share", desc := "(II)J" } : Jvm.MethodName) ∈ qm_ws := qm_mem4 (i := 161) rfl rfl
theorem qw_882 : Jvm.Cond.selects "HungStreamsModel" ({ cls := "HungStreamsModel", name := "share", desc := "(II)J" } : Jvm.MethodName) ({ cls := "HungStreamsModel", name := "share", desc := "(II)J" } : Jvm.MethodName) ∈ qm_ws := qm_mem4 (i := 162) rfl rfl
theorem qw_883 : Jvm.Cond.code ({ cls := "HungStreamsModel", name := "share", desc := "(II)J" } : Jvm.MethodName) prog_9_method_54_code (3 : Nat) (Option.some Jvm.ClassFile.FieldType.long) ∈ qm_ws := qm_mem4 (i := 163) rfl rfl
theorem qw_884 : Jvm.Cond.methodLink "HungStreamsModel" (198 : Nat) ({ cls := "HungStreamsModel", name := "shares", desc := "(I)V" } : Jvm.MethodName) ∈ qm_ws := qm_mem4 (i := 164) rfl rfl
theorem qw_886 : Jvm.Cond.instanceMethod ({ cls := "HungStreamsModel", name := "shares", desc := "(I)V" } : Jvm.MethodName) ∈ qm_ws := qm_mem4 (i := 166) rfl rfl
theorem qw_887 : Jvm.Cond.code ({ cls := "HungStreamsModel", name := "shares", desc := "(I)V" } : Jvm.MethodName) prog_9_method_53_code (8 : Nat) (Option.none : Option Jvm.ClassFile.FieldType) ∈ qm_ws := qm_mem4 (i := 167) rfl rfl
theorem qw_888 : Jvm.Cond.methodLink "HungStreamsModel" (194 : Nat) ({ cls := "HungStreamsModel", name := "divisor", desc := "(JJ)J" } : Jvm.MethodName) ∈ qm_ws := qm_mem4 (i := 168) rfl rfl
theorem qw_889 : Jvm.Cond.static ({ cls := "HungStreamsModel", name := "divisor", desc := "(JJ)J" } : Jvm.MethodName) ∈ qm_ws := qm_mem4 (i := 169) rfl rfl
theorem qw_890 : Jvm.Cond.code ({ cls := "HungStreamsModel", name := "divisor", desc := "(JJ)J" } : Jvm.MethodName) prog_9_method_52_code (10 : Nat) (Option.some Jvm.ClassFile.FieldType.long) ∈ qm_ws := qm_mem4 (i := 170) rfl rfl
theorem qw_891 : Jvm.Cond.methodLink "HungStreamsLaw" (78 : Nat) ({ cls := "HungStreamsModel", name := "all", desc := "(I)I" } : Jvm.MethodName) ∈ qm_ws := qm_mem4 (i := 171) rfl rfl
theorem qw_892 : Jvm.Cond.instanceMethod ({ cls := "HungStreamsModel", name := "all", desc := "(I)I" } : Jvm.MethodName) ∈ qm_ws := qm_mem4 (i := 172) rfl rfl
theorem qw_893 : Jvm.Cond.selects "HungStreamsModel" ({ cls := "HungStreamsModel", name := "all", desc := "(I)I" } : Jvm.MethodName) ({ cls := "HungStreamsModel", name := "all", desc := "(I)I" } : Jvm.MethodName) ∈ qm_ws := qm_mem4 (i := 173) rfl rfl
theorem qw_894 : Jvm.Cond.code ({ cls := "HungStreamsModel", name := "all", desc := "(I)I" } : Jvm.MethodName) prog_9_method_56_code (2 : Nat) (Option.some Jvm.ClassFile.FieldType.int) ∈ qm_ws := qm_mem4 (i := 174) rfl rfl
theorem qw_895 : Jvm.Cond.constantLong "HungStreamsModel" (201 : Nat) (6 : Int64) ∈ qm_ws := qm_mem4 (i := 175) rfl rfl
theorem qw_896 : Jvm.Cond.methodLink "HungStreamsModel" (203 : Nat) ({ cls := "HungStreamsModel", name := "allNow", desc := "(I)I" } : Jvm.MethodName) ∈ qm_ws := qm_mem4 (i := 176) rfl rfl
theorem qw_898 : Jvm.Cond.instanceMethod ({ cls := "HungStreamsModel", name := "allNow", desc := "(I)I" } : Jvm.MethodName) ∈ qm_ws := qm_mem4 (i := 178) rfl rfl
theorem qw_899 : Jvm.Cond.code ({ cls := "HungStreamsModel", name := "allNow", desc := "(I)I" } : Jvm.MethodName) prog_9_method_55_code (7 : Nat) (Option.some Jvm.ClassFile.FieldType.int) ∈ qm_ws := qm_mem4 (i := 179) rfl rfl
theorem qw_900 : Jvm.Cond.methodLink "HungStreamsLaw" (82 : Nat) ({ cls := "HungStreamsModel", name := "type", desc := "(I)I" } : Jvm.MethodName) ∈ qm_ws := qm_mem4 (i := 180) rfl rfl
theorem qw_901 : Jvm.Cond.instanceMethod ({ cls := "HungStreamsModel", name := "type", desc := "(I)I" } : Jvm.MethodName) ∈ qm_ws := qm_mem4 (i := 181) rfl rfl
theorem qw_902 : Jvm.Cond.selects "HungStreamsModel" ({ cls := "HungStreamsModel", name := "type", desc := "(I)I" } : Jvm.MethodName) ({ cls := "HungStreamsModel", name := "type", desc := "(I)I" } : Jvm.MethodName) ∈ qm_ws := qm_mem4 (i := 182) rfl rfl
theorem qw_903 : Jvm.Cond.code ({ cls := "HungStreamsModel", name := "type", desc := "(I)I" } : Jvm.MethodName) prog_9_method_57_code (2 : Nat) (Option.some Jvm.ClassFile.FieldType.int) ∈ qm_ws := qm_mem4 (i := 183) rfl rfl
theorem qw_904 : Jvm.Cond.constantLong "HungStreamsModel" (206 : Nat) (127 : Int64) ∈ qm_ws := qm_mem4 (i := 184) rfl rfl
theorem qw_905 : Jvm.Cond.methodLink "HungStreamsLaw" (86 : Nat) ({ cls := "HungStreamsModel", name := "clear", desc := "()I" } : Jvm.MethodName) ∈ qm_ws := qm_mem4 (i := 185) rfl rfl
theorem qw_906 : Jvm.Cond.instanceMethod ({ cls := "HungStreamsModel", name := "clear", desc := "()I" } : Jvm.MethodName) ∈ qm_ws := qm_mem4 (i := 186) rfl rfl
theorem qw_907 : Jvm.Cond.selects "HungStreamsModel" ({ cls := "HungStreamsModel", name := "clear", desc := "()I" } : Jvm.MethodName) ({ cls := "HungStreamsModel", name := "clear", desc := "()I" } : Jvm.MethodName) ∈ qm_ws := qm_mem4 (i := 187) rfl rfl
theorem qw_908 : Jvm.Cond.code ({ cls := "HungStreamsModel", name := "clear", desc := "()I" } : Jvm.MethodName) prog_9_method_58_code (2 : Nat) (Option.some Jvm.ClassFile.FieldType.int) ∈ qm_ws := qm_mem4 (i := 188) rfl rfl
theorem qw_909 : Jvm.Cond.methodLink "HungStreamsLaw" (90 : Nat) ({ cls := "HungStreamsModel", name := "builds", desc := "()I" } : Jvm.MethodName) ∈ qm_ws := qm_mem4 (i := 189) rfl rfl
theorem qw_910 : Jvm.Cond.instanceMethod ({ cls := "HungStreamsModel", name := "builds", desc := "()I" } : Jvm.MethodName) ∈ qm_ws := qm_mem4 (i := 190) rfl rfl
theorem qw_911 : Jvm.Cond.selects "HungStreamsModel" ({ cls := "HungStreamsModel", name := "builds", desc := "()I" } : Jvm.MethodName) ({ cls := "HungStreamsModel", name := "builds", desc := "()I" } : Jvm.MethodName) ∈ qm_ws := qm_mem4 (i := 191) rfl rfl
theorem qw_912 : Jvm.Cond.code ({ cls := "HungStreamsModel", name := "builds", desc := "()I" } : Jvm.MethodName) prog_9_method_65_code (2 : Nat) (Option.some Jvm.ClassFile.FieldType.int) ∈ qm_ws := qm_mem4 (i := 192) rfl rfl
theorem qw_913 : Jvm.Cond.methodLink "HungStreamsModel" (239 : Nat) ({ cls := "HungStreamsModel", name := "isRead", desc := "()Z" } : Jvm.MethodName) ∈ qm_ws := qm_mem4 (i := 193) rfl rfl
theorem qw_915 : Jvm.Cond.instanceMethod ({ cls := "HungStreamsModel", name := "isRead", desc := "()Z" } : Jvm.MethodName) ∈ qm_ws := qm_mem4 (i := 195) rfl rfl
theorem qw_916 : Jvm.Cond.code ({ cls := "HungStreamsModel", name := "isRead", desc := "()Z" } : Jvm.MethodName) prog_9_method_64_code (3 : Nat) (Option.some Jvm.ClassFile.FieldType.boolean) ∈ qm_ws := qm_mem4 (i := 196) rfl rfl
theorem qw_917 : Jvm.Cond.methodLink "HungStreamsModel" (218 : Nat) ({ cls := "HungStreamsModel", name := "here", desc := "()I" } : Jvm.MethodName) ∈ qm_ws := qm_mem4 (i := 197) rfl rfl
theorem qw_919 : Jvm.Cond.instanceMethod ({ cls := "HungStreamsModel", name := "here", desc := "()I" } : Jvm.MethodName) ∈ qm_ws := qm_mem4 (i := 199) rfl rfl
theorem qw_920 : Jvm.Cond.code ({ cls := "HungStreamsModel", name := "here", desc := "()I" } : Jvm.MethodName) prog_9_method_59_code (1 : Nat) (Option.some Jvm.ClassFile.FieldType.int) ∈ qm_ws := qm_mem4 (i := 200) rfl rfl
theorem qw_921 : Jvm.Cond.methodLink "HungStreamsModel" (233 : Nat) ({ cls := "HungStreamsModel", name := "standsIn", desc := "(I)I" } : Jvm.MethodName) ∈ qm_ws := qm_mem4 (i := 201) rfl rfl
theorem qw_923 : Jvm.Cond.instanceMethod ({ cls := "HungStreamsModel", name := "standsIn", desc := "(I)I" } : Jvm.MethodName) ∈ qm_ws := qm_mem4 (i := 203) rfl rfl
theorem qw_924 : Jvm.Cond.code ({ cls := "HungStreamsModel", name := "standsIn", desc := "(I)I" } : Jvm.MethodName) prog_9_method_63_code (4 : Nat) (Option.some Jvm.ClassFile.FieldType.int) ∈ qm_ws := qm_mem4 (i := 204) rfl rfl
theorem qw_925 : Jvm.Cond.methodLink "HungStreamsModel" (236 : Nat) ({ cls := "HungStreamsModel", name := "takesStream", desc := "(I)Z" } : Jvm.MethodName) ∈ qm_ws := qm_mem4 (i := 205) rfl rfl
theorem qw_927 : Jvm.Cond.instanceMethod ({ cls := "HungStreamsModel", name := "takesStream", desc := "(I)Z" } : Jvm.MethodName) ∈ qm_ws := qm_mem4 (i := 207) rfl rfl
theorem qw_928 : Jvm.Cond.code ({ cls := "HungStreamsModel", name := "takesStream", desc := "(I)Z" } : Jvm.MethodName) prog_9_method_62_code (5 : Nat) (Option.some Jvm.ClassFile.FieldType.boolean) ∈ qm_ws := qm_mem4 (i := 208) rfl rfl
theorem qw_929 : Jvm.Cond.methodLink "HungStreamsModel" (227 : Nat) ({ cls := "HungStreamsModel", name := "takes", desc := "(I)Z" } : Jvm.MethodName) ∈ qm_ws := qm_mem4 (i := 209) rfl rfl
theorem qw_931 : Jvm.Cond.instanceMethod ({ cls := "HungStreamsModel", name := "takes", desc := "(I)Z" } : Jvm.MethodName) ∈ qm_ws := qm_mem4 (i := 211) rfl rfl
theorem qw_932 : Jvm.Cond.code ({ cls := "HungStreamsModel", name := "takes", desc := "(I)Z" } : Jvm.MethodName) prog_9_method_61_code (5 : Nat) (Option.some Jvm.ClassFile.FieldType.boolean) ∈ qm_ws := qm_mem4 (i := 212) rfl rfl
theorem qw_933 : Jvm.Cond.methodLink "HungStreamsModel" (224 : Nat) ({ cls := "HungStreamsModel", name := "isFigure", desc := "(I)Z" } : Jvm.MethodName) ∈ qm_ws := qm_mem4 (i := 213) rfl rfl
theorem qw_935 : Jvm.Cond.instanceMethod ({ cls := "HungStreamsModel", name := "isFigure", desc := "(I)Z" } : Jvm.MethodName) ∈ qm_ws := qm_mem4 (i := 215) rfl rfl
theorem qw_936 : Jvm.Cond.code ({ cls := "HungStreamsModel", name := "isFigure", desc := "(I)Z" } : Jvm.MethodName) prog_9_method_60_code (2 : Nat) (Option.some Jvm.ClassFile.FieldType.boolean) ∈ qm_ws := qm_mem4 (i := 216) rfl rfl
theorem qw_937 : Jvm.Cond.constantLong "HungStreamsModel" (214 : Nat) (48 : Int64) ∈ qm_ws := qm_mem4 (i := 217) rfl rfl
theorem qw_938 : Jvm.Cond.constantLong "HungStreamsModel" (216 : Nat) (57 : Int64) ∈ qm_ws := qm_mem4 (i := 218) rfl rfl
theorem qw_939 : Jvm.Cond.methodLink "HungStreamsLaw" (94 : Nat) ({ cls := "HungStreamsModel", name := "shown", desc := "(I)I" } : Jvm.MethodName) ∈ qm_ws := qm_mem4 (i := 219) rfl rfl
theorem qw_940 : Jvm.Cond.instanceMethod ({ cls := "HungStreamsModel", name := "shown", desc := "(I)I" } : Jvm.MethodName) ∈ qm_ws := qm_mem4 (i := 220) rfl rfl
theorem qw_941 : Jvm.Cond.selects "HungStreamsModel" ({ cls := "HungStreamsModel", name := "shown", desc := "(I)I" } : Jvm.MethodName) ({ cls := "HungStreamsModel", name := "shown", desc := "(I)I" } : Jvm.MethodName) ∈ qm_ws := qm_mem4 (i := 221) rfl rfl
theorem qw_942 : Jvm.Cond.code ({ cls := "HungStreamsModel", name := "shown", desc := "(I)I" } : Jvm.MethodName) prog_9_method_70_code (2 : Nat) (Option.some Jvm.ClassFile.FieldType.int) ∈ qm_ws := qm_mem4 (i := 222) rfl rfl
theorem qw_943 : Jvm.Cond.methodLink "HungStreamsModel" (260 : Nat) ({ cls := "HungStreamsModel", name := "showsAll", desc := "()V" } : Jvm.MethodName) ∈ qm_ws := qm_mem4 (i := 223) rfl rfl
theorem qw_945 : Jvm.Cond.instanceMethod ({ cls := "HungStreamsModel", name := "showsAll", desc := "()V" } : Jvm.MethodName) ∈ qm_ws := qm_mem4 (i := 225) rfl rfl
theorem qw_946 : Jvm.Cond.code ({ cls := "HungStreamsModel", name := "showsAll", desc := "()V" } : Jvm.MethodName) prog_9_method_69_code (3 : Nat) (Option.none : Option Jvm.ClassFile.FieldType) ∈ qm_ws := qm_mem4 (i := 226) rfl rfl
theorem qw_947 : Jvm.Cond.methodLink "HungStreamsModel" (254 : Nat) ({ cls := "HungStreamsModel", name := "nextChild", desc := "(II)I" } : Jvm.MethodName) ∈ qm_ws := qm_mem4 (i := 227) rfl rfl
theorem qw_949 : Jvm.Cond.instanceMethod ({ cls := "HungStreamsModel", name := "nextChild", desc := "(II)I" } : Jvm.MethodName) ∈ qm_ws := qm_mem4 (i := 229) rfl rfl
theorem qw_950 : Jvm.Cond.code ({ cls := "HungStreamsModel", name := "nextChild", desc := "(II)I" } : Jvm.MethodName) prog_9_method_68_code (4 : Nat) (Option.some Jvm.ClassFile.FieldType.int) ∈ qm_ws := qm_mem4 (i := 230) rfl rfl
theorem qw_951 : Jvm.Cond.methodLink "HungStreamsModel" (257 : Nat) ({ cls := "HungStreamsModel", name := "showsNumber", desc := "(I)V" } : Jvm.MethodName) ∈ qm_ws := qm_mem4 (i := 231) rfl rfl
theorem qw_953 : Jvm.Cond.instanceMethod ({ cls := "HungStreamsModel", name := "showsNumber", desc := "(I)V" } : Jvm.MethodName) ∈ qm_ws := qm_mem4 (i := 233) rfl rfl
theorem qw_954 : Jvm.Cond.code ({ cls := "HungStreamsModel", name := "showsNumber", desc := "(I)V" } : Jvm.MethodName) prog_9_method_67_code (2 : Nat) (Option.none : Option Jvm.ClassFile.FieldType) ∈ qm_ws := qm_mem4 (i := 234) rfl rfl
theorem qw_955 : Jvm.Cond.methodLink "HungStreamsModel" (251 : Nat) ({ cls := "HungStreamsModel", name := "shows", desc := "(I)V" } : Jvm.MethodName) ∈ qm_ws := qm_mem4 (i := 235) rfl rfl
theorem qw_957 : Jvm.Cond.instanceMethod ({ cls := "HungStreamsModel", name := "shows", desc := "(I)V" } : Jvm.MethodName) ∈ qm_ws := qm_mem4 (i := 237) rfl rfl
theorem qw_958 : Jvm.Cond.code ({ cls := "HungStreamsModel", name := "shows", desc := "(I)V" } : Jvm.MethodName) prog_9_method_66_code (2 : Nat) (Option.none : Option Jvm.ClassFile.FieldType) ∈ qm_ws := qm_mem4 (i := 238) rfl rfl
theorem qw_959 : Jvm.Cond.methodLink "HungStreamsLaw" (98 : Nat) ({ cls := "HungStreamsModel", name := "back", desc := "()I" } : Jvm.MethodName) ∈ qm_ws := qm_mem4 (i := 239) rfl rfl
theorem qw_960 : Jvm.Cond.instanceMethod ({ cls := "HungStreamsModel", name := "back", desc := "()I" } : Jvm.MethodName) ∈ qm_ws := qm_mem5 (i := 0) rfl rfl
theorem qw_961 : Jvm.Cond.selects "HungStreamsModel" ({ cls := "HungStreamsModel", name := "back", desc := "()I" } : Jvm.MethodName) ({ cls := "HungStreamsModel", name := "back", desc := "()I" } : Jvm.MethodName) ∈ qm_ws := qm_mem5 (i := 1) rfl rfl
theorem qw_962 : Jvm.Cond.code ({ cls := "HungStreamsModel", name := "back", desc := "()I" } : Jvm.MethodName) prog_9_method_71_code (2 : Nat) (Option.some Jvm.ClassFile.FieldType.int) ∈ qm_ws := qm_mem5 (i := 2) rfl rfl
theorem qw_963 : Jvm.Cond.methodLink "HungStreamsLaw" (102 : Nat) ({ cls := "HungStreamsModel", name := "told", desc := "(I)I" } : Jvm.MethodName) ∈ qm_ws := qm_mem5 (i := 3) rfl rfl
theorem qw_964 : Jvm.Cond.instanceMethod ({ cls := "HungStreamsModel", name := "told", desc := "(I)I" } : Jvm.MethodName) ∈ qm_ws := qm_mem5 (i := 4) rfl rfl
theorem qw_965 : Jvm.Cond.selects "HungStreamsModel" ({ cls := "HungStreamsModel", name := "told", desc := "(I)I" } : Jvm.MethodName) ({ cls := "HungStreamsModel", name := "told", desc := "(I)I" } : Jvm.MethodName) ∈ qm_ws := qm_mem5 (i := 5) rfl rfl
theorem qw_966 : Jvm.Cond.code ({ cls := "HungStreamsModel", name := "told", desc := "(I)I" } : Jvm.MethodName) prog_9_method_73_code (2 : Nat) (Option.some Jvm.ClassFile.FieldType.int) ∈ qm_ws := qm_mem5 (i := 6) rfl rfl
theorem qw_967 : Jvm.Cond.constantLong "HungStreamsModel" (263 : Nat) (9 : Int64) ∈ qm_ws := qm_mem5 (i := 7) rfl rfl
theorem qw_968 : Jvm.Cond.methodLink "HungStreamsModel" (265 : Nat) ({ cls := "HungStreamsModel", name := "toldOf", desc := "(I)I" } : Jvm.MethodName) ∈ qm_ws := qm_mem5 (i := 8) rfl rfl
theorem qw_970 : Jvm.Cond.instanceMethod ({ cls := "HungStreamsModel", name := "toldOf", desc := "(I)I" } : Jvm.MethodName) ∈ qm_ws := qm_mem5 (i := 10) rfl rfl
theorem qw_971 : Jvm.Cond.code ({ cls := "HungStreamsModel", name := "toldOf", desc := "(I)I" } : Jvm.MethodName) prog_9_method_72_code (2 : Nat) (Option.some Jvm.ClassFile.FieldType.int) ∈ qm_ws := qm_mem5 (i := 11) rfl rfl
theorem qw_972 : Jvm.Cond.methodLink "HungStreamsLaw" (107 : Nat) ({ cls := "HungStreamsModel", name := "digest", desc := "()J" } : Jvm.MethodName) ∈ qm_ws := qm_mem5 (i := 12) rfl rfl
theorem qw_973 : Jvm.Cond.instanceMethod ({ cls := "HungStreamsModel", name := "digest", desc := "()J" } : Jvm.MethodName) ∈ qm_ws := qm_mem5 (i := 13) rfl rfl
theorem qw_974 : Jvm.Cond.selects "HungStreamsModel" ({ cls := "HungStreamsModel", name := "digest", desc := "()J" } : Jvm.MethodName) ({ cls := "HungStreamsModel", name := "digest", desc := "()J" } : Jvm.MethodName) ∈ qm_ws := qm_mem5 (i := 14) rfl rfl
theorem qw_975 : Jvm.Cond.code ({ cls := "HungStreamsModel", name := "digest", desc := "()J" } : Jvm.MethodName) prog_9_method_74_code (5 : Nat) (Option.some Jvm.ClassFile.FieldType.long) ∈ qm_ws := qm_mem5 (i := 15) rfl rfl
theorem qw_976 : Jvm.Cond.constantLong "HungStreamsModel" (268 : Nat) (2311 : Int64) ∈ qm_ws := qm_mem5 (i := 16) rfl rfl
theorem qw_977 : Jvm.Cond.constantLong "HungStreamsModel" (270 : Nat) (31 : Int64) ∈ qm_ws := qm_mem5 (i := 17) rfl rfl
theorem qs_0 : Cond.selects "HungStreams" ⟨"HungStreams", "refuse", "(I)I"⟩ ⟨"HungStreams", "refuse", "(I)I"⟩ ∈ qm_ws := qm_memS (i := 0) rfl
theorem qs_1 : Cond.selects "HungStreams" ⟨"HungStreams", "leaveState", "()V"⟩ ⟨"HungStreams", "leaveState", "()V"⟩ ∈ qm_ws := qm_memS (i := 1) rfl
theorem qs_2 : Cond.selects "HungStreams$TreeWriter" ⟨"HungStreams$TreeWriter", "writeChildren", "(LHungStreams$Tree;II)V"⟩ ⟨"HungStreams$TreeWriter", "writeChildren", "(LHungStreams$Tree;II)V"⟩ ∈ qm_ws := qm_memS (i := 2) rfl
theorem qs_3 : Cond.selects "HungStreams$TreeWriter" ⟨"HungStreams$TreeWriter", "put", "(I)V"⟩ ⟨"HungStreams$TreeWriter", "put", "(I)V"⟩ ∈ qm_ws := qm_memS (i := 3) rfl
theorem qs_4 : Cond.selects "HungStreams$TreeWriter" ⟨"HungStreams$TreeWriter", "putNumber", "(I)V"⟩ ⟨"HungStreams$TreeWriter", "putNumber", "(I)V"⟩ ∈ qm_ws := qm_memS (i := 4) rfl
theorem qs_5 : Cond.selects "HungStreams" ⟨"HungStreams", "digestStream", "(JI)J"⟩ ⟨"HungStreams", "digestStream", "(JI)J"⟩ ∈ qm_ws := qm_memS (i := 5) rfl
theorem qs_6 : Cond.selects "HungStreamsModel" ⟨"HungStreamsModel", "isPlace", "(I)Z"⟩ ⟨"HungStreamsModel", "isPlace", "(I)Z"⟩ ∈ qm_ws := qm_memS (i := 6) rfl
theorem qs_7 : Cond.selects "HungStreamsModel" ⟨"HungStreamsModel", "isStream", "(I)Z"⟩ ⟨"HungStreamsModel", "isStream", "(I)Z"⟩ ∈ qm_ws := qm_memS (i := 7) rfl
theorem qs_8 : Cond.selects "HungStreamsModel" ⟨"HungStreamsModel", "its", "(II)J"⟩ ⟨"HungStreamsModel", "its", "(II)J"⟩ ∈ qm_ws := qm_memS (i := 8) rfl
theorem qs_9 : Cond.selects "HungStreamsModel" ⟨"HungStreamsModel", "refuses", "(I)I"⟩ ⟨"HungStreamsModel", "refuses", "(I)I"⟩ ∈ qm_ws := qm_memS (i := 9) rfl
theorem qs_10 : Cond.selects "HungStreamsModel" ⟨"HungStreamsModel", "keep", "()V"⟩ ⟨"HungStreamsModel", "keep", "()V"⟩ ∈ qm_ws := qm_memS (i := 10) rfl
theorem qs_11 : Cond.selects "HungStreamsModel" ⟨"HungStreamsModel", "begins", "(II)V"⟩ ⟨"HungStreamsModel", "begins", "(II)V"⟩ ∈ qm_ws := qm_memS (i := 11) rfl
theorem qs_12 : Cond.selects "HungStreamsModel" ⟨"HungStreamsModel", "puts", "(IIJ)V"⟩ ⟨"HungStreamsModel", "puts", "(IIJ)V"⟩ ∈ qm_ws := qm_memS (i := 12) rfl
theorem qs_13 : Cond.selects "HungStreamsModel" ⟨"HungStreamsModel", "comesTo", "(IIZ)V"⟩ ⟨"HungStreamsModel", "comesTo", "(IIZ)V"⟩ ∈ qm_ws := qm_memS (i := 13) rfl
theorem qs_14 : Cond.selects "HungStreamsModel" ⟨"HungStreamsModel", "isChild", "(II)Z"⟩ ⟨"HungStreamsModel", "isChild", "(II)Z"⟩ ∈ qm_ws := qm_memS (i := 14) rfl
theorem qs_15 : Cond.selects "HungStreamsModel" ⟨"HungStreamsModel", "parent", "(I)I"⟩ ⟨"HungStreamsModel", "parent", "(I)I"⟩ ∈ qm_ws := qm_memS (i := 15) rfl
theorem qs_16 : Cond.selects "HungStreamsModel" ⟨"HungStreamsModel", "hangs", "(II)V"⟩ ⟨"HungStreamsModel", "hangs", "(II)V"⟩ ∈ qm_ws := qm_memS (i := 16) rfl
theorem qs_17 : Cond.selects "HungStreamsModel" ⟨"HungStreamsModel", "children", "(I)I"⟩ ⟨"HungStreamsModel", "children", "(I)I"⟩ ∈ qm_ws := qm_memS (i := 17) rfl
theorem qs_18 : Cond.selects "HungStreamsModel" ⟨"HungStreamsModel", "isBelow", "(II)Z"⟩ ⟨"HungStreamsModel", "isBelow", "(II)Z"⟩ ∈ qm_ws := qm_memS (i := 18) rfl
theorem qs_19 : Cond.selects "HungStreamsModel" ⟨"HungStreamsModel", "goesAll", "()V"⟩ ⟨"HungStreamsModel", "goesAll", "()V"⟩ ∈ qm_ws := qm_memS (i := 19) rfl
theorem qs_20 : Cond.selects "HungStreamsModel" ⟨"HungStreamsModel", "goes", "(I)V"⟩ ⟨"HungStreamsModel", "goes", "(I)V"⟩ ∈ qm_ws := qm_memS (i := 20) rfl
theorem qs_21 : Cond.selects "HungStreamsModel" ⟨"HungStreamsModel", "there", "()I"⟩ ⟨"HungStreamsModel", "there", "()I"⟩ ∈ qm_ws := qm_memS (i := 21) rfl
theorem qs_22 : Cond.selects "HungStreamsModel" ⟨"HungStreamsModel", "ofNow", "(II)I"⟩ ⟨"HungStreamsModel", "ofNow", "(II)I"⟩ ∈ qm_ws := qm_memS (i := 22) rfl
theorem qs_23 : Cond.selects "HungStreamsModel" ⟨"HungStreamsModel", "below", "(I)I"⟩ ⟨"HungStreamsModel", "below", "(I)I"⟩ ∈ qm_ws := qm_memS (i := 23) rfl
theorem qs_24 : Cond.selects "HungStreamsModel" ⟨"HungStreamsModel", "can", "(I)Z"⟩ ⟨"HungStreamsModel", "can", "(I)Z"⟩ ∈ qm_ws := qm_memS (i := 24) rfl
theorem qs_25 : Cond.selects "HungStreamsModel" ⟨"HungStreamsModel", "isLive", "(I)Z"⟩ ⟨"HungStreamsModel", "isLive", "(I)Z"⟩ ∈ qm_ws := qm_memS (i := 25) rfl
theorem qs_26 : Cond.selects "HungStreamsModel" ⟨"HungStreamsModel", "nextNow", "()I"⟩ ⟨"HungStreamsModel", "nextNow", "()I"⟩ ∈ qm_ws := qm_memS (i := 26) rfl
theorem qs_27 : Cond.selects "HungStreamsModel" ⟨"HungStreamsModel", "byTree", "()I"⟩ ⟨"HungStreamsModel", "byTree", "()I"⟩ ∈ qm_ws := qm_memS (i := 27) rfl
theorem qs_28 : Cond.selects "HungStreamsModel" ⟨"HungStreamsModel", "liveSet", "()I"⟩ ⟨"HungStreamsModel", "liveSet", "()I"⟩ ∈ qm_ws := qm_memS (i := 28) rfl
theorem qs_29 : Cond.selects "HungStreamsModel" ⟨"HungStreamsModel", "first", "(II)I"⟩ ⟨"HungStreamsModel", "first", "(II)I"⟩ ∈ qm_ws := qm_memS (i := 29) rfl
theorem qs_30 : Cond.selects "HungStreamsModel" ⟨"HungStreamsModel", "turnThen", "(II)J"⟩ ⟨"HungStreamsModel", "turnThen", "(II)J"⟩ ∈ qm_ws := qm_memS (i := 30) rfl
theorem qs_31 : Cond.selects "HungStreamsModel" ⟨"HungStreamsModel", "byUrgency", "()I"⟩ ⟨"HungStreamsModel", "byUrgency", "()I"⟩ ∈ qm_ws := qm_memS (i := 31) rfl
theorem qs_32 : Cond.selects "HungStreamsModel" ⟨"HungStreamsModel", "isAhead", "(II)Z"⟩ ⟨"HungStreamsModel", "isAhead", "(II)Z"⟩ ∈ qm_ws := qm_memS (i := 32) rfl
theorem qs_33 : Cond.selects "HungStreamsModel" ⟨"HungStreamsModel", "isSent", "()Z"⟩ ⟨"HungStreamsModel", "isSent", "()Z"⟩ ∈ qm_ws := qm_memS (i := 33) rfl
theorem qs_34 : Cond.selects "HungStreamsModel" ⟨"HungStreamsModel", "looks", "()V"⟩ ⟨"HungStreamsModel", "looks", "()V"⟩ ∈ qm_ws := qm_memS (i := 34) rfl
theorem qs_35 : Cond.selects "HungStreamsModel" ⟨"HungStreamsModel", "canSet", "()I"⟩ ⟨"HungStreamsModel", "canSet", "()I"⟩ ∈ qm_ws := qm_memS (i := 35) rfl
theorem qs_36 : Cond.selects "HungStreamsModel" ⟨"HungStreamsModel", "bytesOf", "(I)J"⟩ ⟨"HungStreamsModel", "bytesOf", "(I)J"⟩ ∈ qm_ws := qm_memS (i := 36) rfl
theorem qs_37 : Cond.selects "HungStreamsModel" ⟨"HungStreamsModel", "turns", "(IJ)V"⟩ ⟨"HungStreamsModel", "turns", "(IJ)V"⟩ ∈ qm_ws := qm_memS (i := 37) rfl
theorem qs_38 : Cond.selects "HungStreamsModel" ⟨"HungStreamsModel", "shares", "(I)V"⟩ ⟨"HungStreamsModel", "shares", "(I)V"⟩ ∈ qm_ws := qm_memS (i := 38) rfl
theorem qs_39 : Cond.selects "HungStreamsModel" ⟨"HungStreamsModel", "allNow", "(I)I"⟩ ⟨"HungStreamsModel", "allNow", "(I)I"⟩ ∈ qm_ws := qm_memS (i := 39) rfl
theorem qs_40 : Cond.selects "HungStreamsModel" ⟨"HungStreamsModel", "isRead", "()Z"⟩ ⟨"HungStreamsModel", "isRead", "()Z"⟩ ∈ qm_ws := qm_memS (i := 40) rfl
theorem qs_41 : Cond.selects "HungStreamsModel" ⟨"HungStreamsModel", "here", "()I"⟩ ⟨"HungStreamsModel", "here", "()I"⟩ ∈ qm_ws := qm_memS (i := 41) rfl
theorem qs_42 : Cond.selects "HungStreamsModel" ⟨"HungStreamsModel", "standsIn", "(I)I"⟩ ⟨"HungStreamsModel", "standsIn", "(I)I"⟩ ∈ qm_ws := qm_memS (i := 42) rfl
theorem qs_43 : Cond.selects "HungStreamsModel" ⟨"HungStreamsModel", "takesStream", "(I)Z"⟩ ⟨"HungStreamsModel", "takesStream", "(I)Z"⟩ ∈ qm_ws := qm_memS (i := 43) rfl
theorem qs_44 : Cond.selects "HungStreamsModel" ⟨"HungStreamsModel", "takes", "(I)Z"⟩ ⟨"HungStreamsModel", "takes", "(I)Z"⟩ ∈ qm_ws := qm_memS (i := 44) rfl
theorem qs_45 : Cond.selects "HungStreamsModel" ⟨"HungStreamsModel", "isFigure", "(I)Z"⟩ ⟨"HungStreamsModel", "isFigure", "(I)Z"⟩ ∈ qm_ws := qm_memS (i := 45) rfl
theorem qs_46 : Cond.selects "HungStreamsModel" ⟨"HungStreamsModel", "showsAll", "()V"⟩ ⟨"HungStreamsModel", "showsAll", "()V"⟩ ∈ qm_ws := qm_memS (i := 46) rfl
theorem qs_47 : Cond.selects "HungStreamsModel" ⟨"HungStreamsModel", "nextChild", "(II)I"⟩ ⟨"HungStreamsModel", "nextChild", "(II)I"⟩ ∈ qm_ws := qm_memS (i := 47) rfl
theorem qs_48 : Cond.selects "HungStreamsModel" ⟨"HungStreamsModel", "showsNumber", "(I)V"⟩ ⟨"HungStreamsModel", "showsNumber", "(I)V"⟩ ∈ qm_ws := qm_memS (i := 48) rfl
theorem qs_49 : Cond.selects "HungStreamsModel" ⟨"HungStreamsModel", "shows", "(I)V"⟩ ⟨"HungStreamsModel", "shows", "(I)V"⟩ ∈ qm_ws := qm_memS (i := 49) rfl
theorem qs_50 : Cond.selects "HungStreamsModel" ⟨"HungStreamsModel", "toldOf", "(I)I"⟩ ⟨"HungStreamsModel", "toldOf", "(I)I"⟩ ∈ qm_ws := qm_memS (i := 50) rfl
