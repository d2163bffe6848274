theorem kq_0 : Jvm.Cond.initialized "GlossRowsLaw" ∈ kq_W := kq_of 0 (by decide +kernel) rfl
theorem kq_1 : Jvm.Cond.initialized "GlossRows" ∈ kq_W := kq_of 1 (by decide +kernel) rfl
theorem kq_2 : Jvm.Cond.initialized "GlossRows$Text" ∈ kq_W := kq_of 2 (by decide +kernel) rfl
theorem kq_3 : Jvm.Cond.initialized "GlossRows$Reader" ∈ kq_W := kq_of 3 (by decide +kernel) rfl
theorem kq_4 : Jvm.Cond.initialized "GlossRows$Word" ∈ kq_W := kq_of 4 (by decide +kernel) rfl
theorem kq_5 : Jvm.Cond.initialized "GlossRows$Page" ∈ kq_W := kq_of 5 (by decide +kernel) rfl
theorem kq_6 : Jvm.Cond.initialized "GlossRows$Lexicon" ∈ kq_W := kq_of 6 (by decide +kernel) rfl
theorem kq_7 : Jvm.Cond.initialized "GlossRows$Layout" ∈ kq_W := kq_of 7 (by decide +kernel) rfl
theorem kq_8 : Jvm.Cond.initialized "GlossRows$History" ∈ kq_W := kq_of 8 (by decide +kernel) rfl
theorem kq_9 : Jvm.Cond.initialized "GlossRowsModel" ∈ kq_W := kq_of 9 (by decide +kernel) rfl
theorem kq_10 : Jvm.Cond.initialized "java/lang/Throwable" ∈ kq_W := kq_of 10 (by decide +kernel) rfl
theorem kq_11 : Jvm.Cond.initialized "java/lang/Exception" ∈ kq_W := kq_of 11 (by decide +kernel) rfl
theorem kq_12 : Jvm.Cond.initialized "java/lang/RuntimeException" ∈ kq_W := kq_of 12 (by decide +kernel) rfl
theorem kq_13 : Jvm.Cond.initialized "java/lang/IllegalArgumentException" ∈ kq_W := kq_of 13 (by decide +kernel) rfl
theorem kq_14 : Jvm.Cond.initialized "java/lang/IllegalStateException" ∈ kq_W := kq_of 14 (by decide +kernel) rfl
theorem kq_15 : Jvm.Cond.initialized "GlossRows$Letters" ∈ kq_W := kq_of 15 (by decide +kernel) rfl
theorem kq_16 : Jvm.Cond.initialized "java/lang/Math" ∈ kq_W := kq_of 16 (by decide +kernel) rfl
theorem kq_17 : Jvm.Cond.initialized "java/lang/IndexOutOfBoundsException" ∈ kq_W := kq_of 17 (by decide +kernel) rfl
theorem kq_18 : Jvm.Cond.classLink "GlossRowsLaw" (8 : Nat) "GlossRows" ∈ kq_W := kq_of 18 (by decide +kernel) rfl
theorem kq_19 : Jvm.Cond.instantiable "GlossRows" (8 : Nat) ∈ kq_W := kq_of 19 (by decide +kernel) rfl
theorem kq_20 : Jvm.Cond.methodLink "GlossRowsLaw" (101 : Nat) ({ cls := "GlossRows", name := "<init>", desc := "()V" } : Jvm.MethodName) ∈ kq_W := kq_of 20 (by decide +kernel) rfl
theorem kq_21 : Jvm.Cond.instanceMethod ({ cls := "GlossRows", name := "<init>", desc := "()V" } : Jvm.MethodName) ∈ kq_W := kq_of 21 (by decide +kernel) rfl
theorem kq_22 : Jvm.Cond.code ({ cls := "GlossRows", name := "<init>", desc := "()V" } : Jvm.MethodName) prog_1_method_1_code (2 : Nat) (Option.none : Option Jvm.ClassFile.FieldType) ∈ kq_W := kq_of 22 (by decide +kernel) rfl
theorem kq_23 : Jvm.Cond.methodLink "GlossRows" (1 : Nat) ({ cls := "java/lang/Object", name := "<init>", desc := "()V" } : Jvm.MethodName) ∈ kq_W := kq_of 23 (by decide +kernel) rfl
theorem kq_24 : Jvm.Cond.instanceMethod ({ cls := "java/lang/Object", name := "<init>", desc := "()V" } : Jvm.MethodName) ∈ kq_W := kq_of 24 (by decide +kernel) rfl
theorem kq_25 : Jvm.Cond.code ({ cls := "java/lang/Object", name := "<init>", desc := "()V" } : Jvm.MethodName) object_method_1_code (1 : Nat) (Option.none : Option Jvm.ClassFile.FieldType) ∈ kq_W := kq_of 25 (by decide +kernel) rfl
theorem kq_26 : Jvm.Cond.classLink "GlossRows" (7 : Nat) "GlossRows$Text" ∈ kq_W := kq_of 26 (by decide +kernel) rfl
theorem kq_27 : Jvm.Cond.instantiable "GlossRows$Text" (2 : Nat) ∈ kq_W := kq_of 27 (by decide +kernel) rfl
theorem kq_29 : Jvm.Cond.instanceMethod ({ cls := "GlossRows$Text", name := "<init>", desc := "()V" } : Jvm.MethodName) ∈ kq_W := kq_of 29 (by decide +kernel) rfl
theorem kq_30 : Jvm.Cond.code ({ cls := "GlossRows$Text", name := "<init>", desc := "()V" } : Jvm.MethodName) prog_8_method_1_code (1 : Nat) (Option.none : Option Jvm.ClassFile.FieldType) ∈ kq_W := kq_of 30 (by decide +kernel) rfl
theorem kq_31 : Jvm.Cond.methodLink "GlossRows$Text" (3 : Nat) ({ cls := "java/lang/Object", name := "<init>", desc := "()V" } : Jvm.MethodName) ∈ kq_W := kq_of 31 (by decide +kernel) rfl
theorem kq_32 : Jvm.Cond.fieldLink "GlossRows$Text" (9 : Nat) "GlossRows$Text" "codes" "[I" ∈ kq_W := kq_of 32 (by decide +kernel) rfl
theorem kq_33 : Jvm.Cond.fieldLink "GlossRows$Reader" (34 : Nat) "GlossRows$Text" "codes" "[I" ∈ kq_W := kq_of 33 (by decide +kernel) rfl
theorem kq_34 : Jvm.Cond.fieldLink "GlossRows$Word" (50 : Nat) "GlossRows$Text" "codes" "[I" ∈ kq_W := kq_of 34 (by decide +kernel) rfl
theorem kq_35 : Jvm.Cond.fieldLink "GlossRows$Text" (15 : Nat) "GlossRows$Text" "length" "I" ∈ kq_W := kq_of 35 (by decide +kernel) rfl
theorem kq_36 : Jvm.Cond.fieldLink "GlossRows$Reader" (29 : Nat) "GlossRows$Text" "length" "I" ∈ kq_W := kq_of 36 (by decide +kernel) rfl
theorem kq_37 : Jvm.Cond.fieldLink "GlossRows" (62 : Nat) "GlossRows$Text" "length" "I" ∈ kq_W := kq_of 37 (by decide +kernel) rfl
theorem kq_38 : Jvm.Cond.fieldLink "GlossRows$Word" (39 : Nat) "GlossRows$Text" "length" "I" ∈ kq_W := kq_of 38 (by decide +kernel) rfl
theorem kq_39 : Jvm.Cond.laysFinal "GlossRows$Text" "GlossRows$Text" "codes" "[I" ∈ kq_W := kq_of 39 (by decide +kernel) rfl
theorem kq_41 : Jvm.Cond.lays "GlossRows$Text" "GlossRows$Text" "length" "I" ∈ kq_W := kq_of 41 (by decide +kernel) rfl
theorem kq_45 : Jvm.Cond.classLink "GlossRows" (16 : Nat) "GlossRows$Reader" ∈ kq_W := kq_of 45 (by decide +kernel) rfl
theorem kq_46 : Jvm.Cond.instantiable "GlossRows$Reader" (5 : Nat) ∈ kq_W := kq_of 46 (by decide +kernel) rfl
theorem kq_47 : Jvm.Cond.methodLink "GlossRows" (18 : Nat) ({ cls := "GlossRows$Reader", name := "<init>", desc := "()V" } : Jvm.MethodName) ∈ kq_W := kq_of 47 (by decide +kernel) rfl
theorem kq_48 : Jvm.Cond.instanceMethod ({ cls := "GlossRows$Reader", name := "<init>", desc := "()V" } : Jvm.MethodName) ∈ kq_W := kq_of 48 (by decide +kernel) rfl
theorem kq_49 : Jvm.Cond.code ({ cls := "GlossRows$Reader", name := "<init>", desc := "()V" } : Jvm.MethodName) prog_7_method_1_code (2 : Nat) (Option.none : Option Jvm.ClassFile.FieldType) ∈ kq_W := kq_of 49 (by decide +kernel) rfl
theorem kq_50 : Jvm.Cond.methodLink "GlossRows$Reader" (3 : Nat) ({ cls := "java/lang/Object", name := "<init>", desc := "()V" } : Jvm.MethodName) ∈ kq_W := kq_of 50 (by decide +kernel) rfl
theorem kq_51 : Jvm.Cond.classLink "GlossRows$Reader" (9 : Nat) "GlossRows$Word" ∈ kq_W := kq_of 51 (by decide +kernel) rfl
theorem kq_53 : Jvm.Cond.instantiable "GlossRows$Word" (7 : Nat) ∈ kq_W := kq_of 53 (by decide +kernel) rfl
theorem kq_55 : Jvm.Cond.instanceMethod ({ cls := "GlossRows$Word", name := "<init>", desc := "()V" } : Jvm.MethodName) ∈ kq_W := kq_of 55 (by decide +kernel) rfl
theorem kq_56 : Jvm.Cond.code ({ cls := "GlossRows$Word", name := "<init>", desc := "()V" } : Jvm.MethodName) prog_9_method_1_code (1 : Nat) (Option.none : Option Jvm.ClassFile.FieldType) ∈ kq_W := kq_of 56 (by decide +kernel) rfl
theorem kq_57 : Jvm.Cond.methodLink "GlossRows$Word" (3 : Nat) ({ cls := "java/lang/Object", name := "<init>", desc := "()V" } : Jvm.MethodName) ∈ kq_W := kq_of 57 (by decide +kernel) rfl
theorem kq_58 : Jvm.Cond.fieldLink "GlossRows$Word" (9 : Nat) "GlossRows$Word" "parts" "[J" ∈ kq_W := kq_of 58 (by decide +kernel) rfl
theorem kq_59 : Jvm.Cond.fieldLink "GlossRows" (178 : Nat) "GlossRows$Word" "parts" "[J" ∈ kq_W := kq_of 59 (by decide +kernel) rfl
theorem kq_60 : Jvm.Cond.fieldLink "GlossRows$Reader" (95 : Nat) "GlossRows$Word" "parts" "[J" ∈ kq_W := kq_of 60 (by decide +kernel) rfl
theorem kq_61 : Jvm.Cond.fieldLink "GlossRows$Page" (68 : Nat) "GlossRows$Word" "parts" "[J" ∈ kq_W := kq_of 61 (by decide +kernel) rfl
theorem kq_62 : Jvm.Cond.fieldLink "GlossRows$Word" (15 : Nat) "GlossRows$Word" "glosses" "[J" ∈ kq_W := kq_of 62 (by decide +kernel) rfl
theorem kq_63 : Jvm.Cond.fieldLink "GlossRows" (187 : Nat) "GlossRows$Word" "glosses" "[J" ∈ kq_W := kq_of 63 (by decide +kernel) rfl
theorem kq_64 : Jvm.Cond.fieldLink "GlossRows$Reader" (109 : Nat) "GlossRows$Word" "glosses" "[J" ∈ kq_W := kq_of 64 (by decide +kernel) rfl
theorem kq_65 : Jvm.Cond.fieldLink "GlossRows$Page" (64 : Nat) "GlossRows$Word" "glosses" "[J" ∈ kq_W := kq_of 65 (by decide +kernel) rfl
theorem kq_66 : Jvm.Cond.fieldLink "GlossRows$Word" (18 : Nat) "GlossRows$Word" "marks" "[I" ∈ kq_W := kq_of 66 (by decide +kernel) rfl
theorem kq_67 : Jvm.Cond.fieldLink "GlossRows$Reader" (89 : Nat) "GlossRows$Word" "marks" "[I" ∈ kq_W := kq_of 67 (by decide +kernel) rfl
theorem kq_68 : Jvm.Cond.fieldLink "GlossRows" (190 : Nat) "GlossRows$Word" "marks" "[I" ∈ kq_W := kq_of 68 (by decide +kernel) rfl
theorem kq_69 : Jvm.Cond.fieldLink "GlossRows$Word" (22 : Nat) "GlossRows$Word" "free" "[I" ∈ kq_W := kq_of 69 (by decide +kernel) rfl
theorem kq_70 : Jvm.Cond.fieldLink "GlossRows$Word" (25 : Nat) "GlossRows$Word" "size" "I" ∈ kq_W := kq_of 70 (by decide +kernel) rfl
theorem kq_71 : Jvm.Cond.fieldLink "GlossRows$Page" (55 : Nat) "GlossRows$Word" "size" "I" ∈ kq_W := kq_of 71 (by decide +kernel) rfl
theorem kq_72 : Jvm.Cond.fieldLink "GlossRows$Reader" (86 : Nat) "GlossRows$Word" "size" "I" ∈ kq_W := kq_of 72 (by decide +kernel) rfl
theorem kq_73 : Jvm.Cond.fieldLink "GlossRows" (148 : Nat) "GlossRows$Word" "size" "I" ∈ kq_W := kq_of 73 (by decide +kernel) rfl
theorem kq_74 : Jvm.Cond.fieldLink "GlossRows$Word" (29 : Nat) "GlossRows$Word" "freeLength" "I" ∈ kq_W := kq_of 74 (by decide +kernel) rfl
theorem kq_75 : Jvm.Cond.fieldLink "GlossRows$Layout" (56 : Nat) "GlossRows$Word" "freeLength" "I" ∈ kq_W := kq_of 75 (by decide +kernel) rfl
theorem kq_76 : Jvm.Cond.fieldLink "GlossRows" (169 : Nat) "GlossRows$Word" "freeLength" "I" ∈ kq_W := kq_of 76 (by decide +kernel) rfl
theorem kq_77 : Jvm.Cond.fieldLink "GlossRows$Word" (32 : Nat) "GlossRows$Word" "ended" "Z" ∈ kq_W := kq_of 77 (by decide +kernel) rfl
theorem kq_78 : Jvm.Cond.fieldLink "GlossRows$Layout" (52 : Nat) "GlossRows$Word" "ended" "Z" ∈ kq_W := kq_of 78 (by decide +kernel) rfl
theorem kq_79 : Jvm.Cond.fieldLink "GlossRows" (164 : Nat) "GlossRows$Word" "ended" "Z" ∈ kq_W := kq_of 79 (by decide +kernel) rfl
theorem kq_80 : Jvm.Cond.fieldLink "GlossRows$Page" (91 : Nat) "GlossRows$Word" "ended" "Z" ∈ kq_W := kq_of 80 (by decide +kernel) rfl
theorem kq_81 : Jvm.Cond.laysFinal "GlossRows$Word" "GlossRows$Word" "parts" "[J" ∈ kq_W := kq_of 81 (by decide +kernel) rfl
theorem kq_83 : Jvm.Cond.laysFinal "GlossRows$Word" "GlossRows$Word" "glosses" "[J" ∈ kq_W := kq_of 83 (by decide +kernel) rfl
theorem kq_85 : Jvm.Cond.laysFinal "GlossRows$Word" "GlossRows$Word" "marks" "[I" ∈ kq_W := kq_of 85 (by decide +kernel) rfl
theorem kq_87 : Jvm.Cond.laysFinal "GlossRows$Word" "GlossRows$Word" "free" "[I" ∈ kq_W := kq_of 87 (by decide +kernel) rfl
theorem kq_89 : Jvm.Cond.lays "GlossRows$Word" "GlossRows$Word" "size" "I" ∈ kq_W := kq_of 89 (by decide +kernel) rfl
theorem kq_91 : Jvm.Cond.lays "GlossRows$Word" "GlossRows$Word" "freeLength" "I" ∈ kq_W := kq_of 91 (by decide +kernel) rfl
theorem kq_93 : Jvm.Cond.lays "GlossRows$Word" "GlossRows$Word" "ended" "Z" ∈ kq_W := kq_of 93 (by decide +kernel) rfl
theorem kq_97 : Jvm.Cond.fieldLink "GlossRows$Reader" (11 : Nat) "GlossRows$Reader" "words" "[LGlossRows$Word;" ∈ kq_W := kq_of 97 (by decide +kernel) rfl
theorem kq_98 : Jvm.Cond.fieldLink "GlossRows$Page" (59 : Nat) "GlossRows$Reader" "words" "[LGlossRows$Word;" ∈ kq_W := kq_of 98 (by decide +kernel) rfl
theorem kq_99 : Jvm.Cond.fieldLink "GlossRows$Reader" (22 : Nat) "GlossRows$Reader" "count" "I" ∈ kq_W := kq_of 99 (by decide +kernel) rfl
theorem kq_100 : Jvm.Cond.fieldLink "GlossRows$Page" (56 : Nat) "GlossRows$Reader" "count" "I" ∈ kq_W := kq_of 100 (by decide +kernel) rfl
theorem kq_101 : Jvm.Cond.fieldLink "GlossRows" (233 : Nat) "GlossRows$Reader" "count" "I" ∈ kq_W := kq_of 101 (by decide +kernel) rfl
theorem kq_102 : Jvm.Cond.fieldLink "GlossRows$Reader" (18 : Nat) "GlossRows$Reader" "current" "LGlossRows$Word;" ∈ kq_W := kq_of 102 (by decide +kernel) rfl
theorem kq_103 : Jvm.Cond.fieldLink "GlossRows$Reader" (53 : Nat) "GlossRows$Reader" "inGlosses" "Z" ∈ kq_W := kq_of 103 (by decide +kernel) rfl
theorem kq_104 : Jvm.Cond.fieldLink "GlossRows$Reader" (57 : Nat) "GlossRows$Reader" "place" "I" ∈ kq_W := kq_of 104 (by decide +kernel) rfl
theorem kq_105 : Jvm.Cond.laysFinal "GlossRows$Reader" "GlossRows$Reader" "words" "[LGlossRows$Word;" ∈ kq_W := kq_of 105 (by decide +kernel) rfl
theorem kq_107 : Jvm.Cond.lays "GlossRows$Reader" "GlossRows$Reader" "count" "I" ∈ kq_W := kq_of 107 (by decide +kernel) rfl
theorem kq_109 : Jvm.Cond.lays "GlossRows$Reader" "GlossRows$Reader" "current" "LGlossRows$Word;" ∈ kq_W := kq_of 109 (by decide +kernel) rfl
theorem kq_111 : Jvm.Cond.lays "GlossRows$Reader" "GlossRows$Reader" "inGlosses" "Z" ∈ kq_W := kq_of 111 (by decide +kernel) rfl
theorem kq_113 : Jvm.Cond.lays "GlossRows$Reader" "GlossRows$Reader" "place" "I" ∈ kq_W := kq_of 113 (by decide +kernel) rfl
theorem kq_116 : Jvm.Cond.classLink "GlossRows" (23 : Nat) "GlossRows$Page" ∈ kq_W := kq_of 116 (by decide +kernel) rfl
theorem kq_117 : Jvm.Cond.instantiable "GlossRows$Page" (6 : Nat) ∈ kq_W := kq_of 117 (by decide +kernel) rfl
theorem kq_118 : Jvm.Cond.methodLink "GlossRows" (25 : Nat) ({ cls := "GlossRows$Page", name := "<init>", desc := "()V" } : Jvm.MethodName) ∈ kq_W := kq_of 118 (by decide +kernel) rfl
theorem kq_119 : Jvm.Cond.instanceMethod ({ cls := "GlossRows$Page", name := "<init>", desc := "()V" } : Jvm.MethodName) ∈ kq_W := kq_of 119 (by decide +kernel) rfl
theorem kq_120 : Jvm.Cond.code ({ cls := "GlossRows$Page", name := "<init>", desc := "()V" } : Jvm.MethodName) prog_6_method_1_code (2 : Nat) (Option.none : Option Jvm.ClassFile.FieldType) ∈ kq_W := kq_of 120 (by decide +kernel) rfl
theorem kq_121 : Jvm.Cond.methodLink "GlossRows$Page" (3 : Nat) ({ cls := "java/lang/Object", name := "<init>", desc := "()V" } : Jvm.MethodName) ∈ kq_W := kq_of 121 (by decide +kernel) rfl
theorem kq_122 : Jvm.Cond.classLink "GlossRows$Page" (9 : Nat) "GlossRows$Word" ∈ kq_W := kq_of 122 (by decide +kernel) rfl
theorem kq_123 : Jvm.Cond.classLink "GlossRows$Page" (17 : Nat) "GlossRows$Lexicon" ∈ kq_W := kq_of 123 (by decide +kernel) rfl
theorem kq_124 : Jvm.Cond.instantiable "GlossRows$Lexicon" (3 : Nat) ∈ kq_W := kq_of 124 (by decide +kernel) rfl
theorem kq_126 : Jvm.Cond.instanceMethod ({ cls := "GlossRows$Lexicon", name := "<init>", desc := "()V" } : Jvm.MethodName) ∈ kq_W := kq_of 126 (by decide +kernel) rfl
theorem kq_127 : Jvm.Cond.code ({ cls := "GlossRows$Lexicon", name := "<init>", desc := "()V" } : Jvm.MethodName) prog_5_method_1_code (1 : Nat) (Option.none : Option Jvm.ClassFile.FieldType) ∈ kq_W := kq_of 127 (by decide +kernel) rfl
theorem kq_128 : Jvm.Cond.methodLink "GlossRows$Lexicon" (3 : Nat) ({ cls := "java/lang/Object", name := "<init>", desc := "()V" } : Jvm.MethodName) ∈ kq_W := kq_of 128 (by decide +kernel) rfl
theorem kq_129 : Jvm.Cond.fieldLink "GlossRows$Lexicon" (9 : Nat) "GlossRows$Lexicon" "parts" "[J" ∈ kq_W := kq_of 129 (by decide +kernel) rfl
theorem kq_130 : Jvm.Cond.fieldLink "GlossRows" (209 : Nat) "GlossRows$Lexicon" "parts" "[J" ∈ kq_W := kq_of 130 (by decide +kernel) rfl
theorem kq_131 : Jvm.Cond.fieldLink "GlossRows$Lexicon" (15 : Nat) "GlossRows$Lexicon" "glosses" "[J" ∈ kq_W := kq_of 131 (by decide +kernel) rfl
theorem kq_132 : Jvm.Cond.fieldLink "GlossRows" (208 : Nat) "GlossRows$Lexicon" "glosses" "[J" ∈ kq_W := kq_of 132 (by decide +kernel) rfl
theorem kq_133 : Jvm.Cond.fieldLink "GlossRows$Page" (86 : Nat) "GlossRows$Lexicon" "glosses" "[J" ∈ kq_W := kq_of 133 (by decide +kernel) rfl
theorem kq_134 : Jvm.Cond.fieldLink "GlossRows$Lexicon" (18 : Nat) "GlossRows$Lexicon" "size" "I" ∈ kq_W := kq_of 134 (by decide +kernel) rfl
theorem kq_135 : Jvm.Cond.fieldLink "GlossRows$Page" (32 : Nat) "GlossRows$Lexicon" "size" "I" ∈ kq_W := kq_of 135 (by decide +kernel) rfl
theorem kq_136 : Jvm.Cond.fieldLink "GlossRows" (125 : Nat) "GlossRows$Lexicon" "size" "I" ∈ kq_W := kq_of 136 (by decide +kernel) rfl
theorem kq_137 : Jvm.Cond.laysFinal "GlossRows$Lexicon" "GlossRows$Lexicon" "parts" "[J" ∈ kq_W := kq_of 137 (by decide +kernel) rfl
theorem kq_139 : Jvm.Cond.laysFinal "GlossRows$Lexicon" "GlossRows$Lexicon" "glosses" "[J" ∈ kq_W := kq_of 139 (by decide +kernel) rfl
theorem kq_141 : Jvm.Cond.lays "GlossRows$Lexicon" "GlossRows$Lexicon" "size" "I" ∈ kq_W := kq_of 141 (by decide +kernel) rfl
theorem kq_145 : Jvm.Cond.methodLink "GlossRows$Page" (25 : Nat) ({ cls := "GlossRows$Page", name := "reset", desc := "()V" } : Jvm.MethodName) ∈ kq_W := kq_of 145 (by decide +kernel) rfl
theorem kq_146 : Jvm.Cond.instanceMethod ({ cls := "GlossRows$Page", name := "reset", desc := "()V" } : Jvm.MethodName) ∈ kq_W := kq_of 146 (by decide +kernel) rfl
theorem kq_147 : Jvm.Cond.selects "GlossRows$Page" ({ cls := "GlossRows$Page", name := "reset", desc := "()V" } : Jvm.MethodName) ({ cls := "GlossRows$Page", name := "reset", desc := "()V" } : Jvm.MethodName) ∈ kq_W := kq_of 147 (by decide +kernel) rfl
theorem kq_148 : Jvm.Cond.code ({ cls := "GlossRows$Page", name := "reset", desc := "()V" } : Jvm.MethodName) prog_6_method_2_code (1 : Nat) (Option.none : Option Jvm.ClassFile.FieldType) ∈ kq_W := kq_of 148 (by decide +kernel) rfl
theorem kq_149 : Jvm.Cond.fieldLink "GlossRows$Page" (11 : Nat) "GlossRows$Page" "words" "[LGlossRows$Word;" ∈ kq_W := kq_of 149 (by decide +kernel) rfl
theorem kq_150 : Jvm.Cond.fieldLink "GlossRows$Layout" (33 : Nat) "GlossRows$Page" "words" "[LGlossRows$Word;" ∈ kq_W := kq_of 150 (by decide +kernel) rfl
theorem kq_151 : Jvm.Cond.fieldLink "GlossRows" (144 : Nat) "GlossRows$Page" "words" "[LGlossRows$Word;" ∈ kq_W := kq_of 151 (by decide +kernel) rfl
theorem kq_152 : Jvm.Cond.fieldLink "GlossRows$Page" (20 : Nat) "GlossRows$Page" "lexicon" "LGlossRows$Lexicon;" ∈ kq_W := kq_of 152 (by decide +kernel) rfl
theorem kq_153 : Jvm.Cond.fieldLink "GlossRows" (121 : Nat) "GlossRows$Page" "lexicon" "LGlossRows$Lexicon;" ∈ kq_W := kq_of 153 (by decide +kernel) rfl
theorem kq_154 : Jvm.Cond.fieldLink "GlossRows$Page" (28 : Nat) "GlossRows$Page" "count" "I" ∈ kq_W := kq_of 154 (by decide +kernel) rfl
theorem kq_155 : Jvm.Cond.fieldLink "GlossRows$Layout" (27 : Nat) "GlossRows$Page" "count" "I" ∈ kq_W := kq_of 155 (by decide +kernel) rfl
theorem kq_156 : Jvm.Cond.fieldLink "GlossRows" (91 : Nat) "GlossRows$Page" "count" "I" ∈ kq_W := kq_of 156 (by decide +kernel) rfl
theorem kq_157 : Jvm.Cond.fieldLink "GlossRows$Page" (35 : Nat) "GlossRows$Page" "width" "I" ∈ kq_W := kq_of 157 (by decide +kernel) rfl
theorem kq_158 : Jvm.Cond.fieldLink "GlossRows" (114 : Nat) "GlossRows$Page" "width" "I" ∈ kq_W := kq_of 158 (by decide +kernel) rfl
theorem kq_159 : Jvm.Cond.fieldLink "GlossRows$Layout" (78 : Nat) "GlossRows$Page" "width" "I" ∈ kq_W := kq_of 159 (by decide +kernel) rfl
theorem kq_160 : Jvm.Cond.fieldLink "GlossRows$Page" (38 : Nat) "GlossRows$Page" "space" "I" ∈ kq_W := kq_of 160 (by decide +kernel) rfl
theorem kq_161 : Jvm.Cond.fieldLink "GlossRows$Layout" (49 : Nat) "GlossRows$Page" "space" "I" ∈ kq_W := kq_of 161 (by decide +kernel) rfl
theorem kq_162 : Jvm.Cond.fieldLink "GlossRows" (133 : Nat) "GlossRows$Page" "space" "I" ∈ kq_W := kq_of 162 (by decide +kernel) rfl
theorem kq_163 : Jvm.Cond.fieldLink "GlossRows$Page" (41 : Nat) "GlossRows$Page" "way" "I" ∈ kq_W := kq_of 163 (by decide +kernel) rfl
theorem kq_164 : Jvm.Cond.fieldLink "GlossRows" (136 : Nat) "GlossRows$Page" "way" "I" ∈ kq_W := kq_of 164 (by decide +kernel) rfl
theorem kq_165 : Jvm.Cond.fieldLink "GlossRows$Layout" (89 : Nat) "GlossRows$Page" "way" "I" ∈ kq_W := kq_of 165 (by decide +kernel) rfl
theorem kq_166 : Jvm.Cond.laysFinal "GlossRows$Page" "GlossRows$Page" "words" "[LGlossRows$Word;" ∈ kq_W := kq_of 166 (by decide +kernel) rfl
theorem kq_168 : Jvm.Cond.laysFinal "GlossRows$Page" "GlossRows$Page" "lexicon" "LGlossRows$Lexicon;" ∈ kq_W := kq_of 168 (by decide +kernel) rfl
theorem kq_170 : Jvm.Cond.lays "GlossRows$Page" "GlossRows$Page" "count" "I" ∈ kq_W := kq_of 170 (by decide +kernel) rfl
theorem kq_172 : Jvm.Cond.lays "GlossRows$Page" "GlossRows$Page" "width" "I" ∈ kq_W := kq_of 172 (by decide +kernel) rfl
theorem kq_174 : Jvm.Cond.lays "GlossRows$Page" "GlossRows$Page" "space" "I" ∈ kq_W := kq_of 174 (by decide +kernel) rfl
theorem kq_176 : Jvm.Cond.lays "GlossRows$Page" "GlossRows$Page" "way" "I" ∈ kq_W := kq_of 176 (by decide +kernel) rfl
theorem kq_179 : Jvm.Cond.classLink "GlossRows" (33 : Nat) "GlossRows$Layout" ∈ kq_W := kq_of 179 (by decide +kernel) rfl
theorem kq_180 : Jvm.Cond.instantiable "GlossRows$Layout" (7 : Nat) ∈ kq_W := kq_of 180 (by decide +kernel) rfl
theorem kq_182 : Jvm.Cond.instanceMethod ({ cls := "GlossRows$Layout", name := "<init>", desc := "()V" } : Jvm.MethodName) ∈ kq_W := kq_of 182 (by decide +kernel) rfl
theorem kq_183 : Jvm.Cond.code ({ cls := "GlossRows$Layout", name := "<init>", desc := "()V" } : Jvm.MethodName) prog_3_method_1_code (1 : Nat) (Option.none : Option Jvm.ClassFile.FieldType) ∈ kq_W := kq_of 183 (by decide +kernel) rfl
theorem kq_184 : Jvm.Cond.methodLink "GlossRows$Layout" (3 : Nat) ({ cls := "java/lang/Object", name := "<init>", desc := "()V" } : Jvm.MethodName) ∈ kq_W := kq_of 184 (by decide +kernel) rfl
theorem kq_185 : Jvm.Cond.fieldLink "GlossRows$Layout" (9 : Nat) "GlossRows$Layout" "lines" "[I" ∈ kq_W := kq_of 185 (by decide +kernel) rfl
theorem kq_186 : Jvm.Cond.fieldLink "GlossRows" (154 : Nat) "GlossRows$Layout" "lines" "[I" ∈ kq_W := kq_of 186 (by decide +kernel) rfl
theorem kq_187 : Jvm.Cond.fieldLink "GlossRows$Layout" (15 : Nat) "GlossRows$Layout" "columns" "[I" ∈ kq_W := kq_of 187 (by decide +kernel) rfl
theorem kq_188 : Jvm.Cond.fieldLink "GlossRows" (158 : Nat) "GlossRows$Layout" "columns" "[I" ∈ kq_W := kq_of 188 (by decide +kernel) rfl
theorem kq_189 : Jvm.Cond.fieldLink "GlossRows$Layout" (18 : Nat) "GlossRows$Layout" "sentences" "[I" ∈ kq_W := kq_of 189 (by decide +kernel) rfl
theorem kq_190 : Jvm.Cond.fieldLink "GlossRows" (161 : Nat) "GlossRows$Layout" "sentences" "[I" ∈ kq_W := kq_of 190 (by decide +kernel) rfl
theorem kq_191 : Jvm.Cond.fieldLink "GlossRows$Layout" (43 : Nat) "GlossRows$Layout" "lineCount" "I" ∈ kq_W := kq_of 191 (by decide +kernel) rfl
theorem kq_192 : Jvm.Cond.fieldLink "GlossRows" (108 : Nat) "GlossRows$Layout" "lineCount" "I" ∈ kq_W := kq_of 192 (by decide +kernel) rfl
theorem kq_193 : Jvm.Cond.fieldLink "GlossRows$Layout" (46 : Nat) "GlossRows$Layout" "rowCount" "I" ∈ kq_W := kq_of 193 (by decide +kernel) rfl
theorem kq_194 : Jvm.Cond.fieldLink "GlossRows" (111 : Nat) "GlossRows$Layout" "rowCount" "I" ∈ kq_W := kq_of 194 (by decide +kernel) rfl
theorem kq_195 : Jvm.Cond.fieldLink "GlossRows$Layout" (21 : Nat) "GlossRows$Layout" "widths" "[I" ∈ kq_W := kq_of 195 (by decide +kernel) rfl
theorem kq_196 : Jvm.Cond.fieldLink "GlossRows$Layout" (24 : Nat) "GlossRows$Layout" "firstRows" "[I" ∈ kq_W := kq_of 196 (by decide +kernel) rfl
theorem kq_197 : Jvm.Cond.laysFinal "GlossRows$Layout" "GlossRows$Layout" "lines" "[I" ∈ kq_W := kq_of 197 (by decide +kernel) rfl
theorem kq_199 : Jvm.Cond.laysFinal "GlossRows$Layout" "GlossRows$Layout" "columns" "[I" ∈ kq_W := kq_of 199 (by decide +kernel) rfl
theorem kq_201 : Jvm.Cond.laysFinal "GlossRows$Layout" "GlossRows$Layout" "sentences" "[I" ∈ kq_W := kq_of 201 (by decide +kernel) rfl
theorem kq_203 : Jvm.Cond.lays "GlossRows$Layout" "GlossRows$Layout" "lineCount" "I" ∈ kq_W := kq_of 203 (by decide +kernel) rfl
theorem kq_205 : Jvm.Cond.lays "GlossRows$Layout" "GlossRows$Layout" "rowCount" "I" ∈ kq_W := kq_of 205 (by decide +kernel) rfl
theorem kq_207 : Jvm.Cond.laysFinal "GlossRows$Layout" "GlossRows$Layout" "widths" "[I" ∈ kq_W := kq_of 207 (by decide +kernel) rfl
theorem kq_209 : Jvm.Cond.laysFinal "GlossRows$Layout" "GlossRows$Layout" "firstRows" "[I" ∈ kq_W := kq_of 209 (by decide +kernel) rfl
theorem kq_212 : Jvm.Cond.classLink "GlossRows" (40 : Nat) "GlossRows$History" ∈ kq_W := kq_of 212 (by decide +kernel) rfl
theorem kq_213 : Jvm.Cond.instantiable "GlossRows$History" (3 : Nat) ∈ kq_W := kq_of 213 (by decide +kernel) rfl
theorem kq_214 : Jvm.Cond.methodLink "GlossRows" (42 : Nat) ({ cls := "GlossRows$History", name := "<init>", desc := "()V" } : Jvm.MethodName) ∈ kq_W := kq_of 214 (by decide +kernel) rfl
theorem kq_215 : Jvm.Cond.instanceMethod ({ cls := "GlossRows$History", name := "<init>", desc := "()V" } : Jvm.MethodName) ∈ kq_W := kq_of 215 (by decide +kernel) rfl
theorem kq_216 : Jvm.Cond.code ({ cls := "GlossRows$History", name := "<init>", desc := "()V" } : Jvm.MethodName) prog_2_method_1_code (2 : Nat) (Option.none : Option Jvm.ClassFile.FieldType) ∈ kq_W := kq_of 216 (by decide +kernel) rfl
theorem kq_217 : Jvm.Cond.methodLink "GlossRows$History" (3 : Nat) ({ cls := "java/lang/Object", name := "<init>", desc := "()V" } : Jvm.MethodName) ∈ kq_W := kq_of 217 (by decide +kernel) rfl
theorem kq_218 : Jvm.Cond.classLink "GlossRows$History" (9 : Nat) "GlossRows$Page" ∈ kq_W := kq_of 218 (by decide +kernel) rfl
theorem kq_220 : Jvm.Cond.methodLink "GlossRows$History" (17 : Nat) ({ cls := "GlossRows$Page", name := "<init>", desc := "()V" } : Jvm.MethodName) ∈ kq_W := kq_of 220 (by decide +kernel) rfl
theorem kq_221 : Jvm.Cond.fieldLink "GlossRows$History" (11 : Nat) "GlossRows$History" "pages" "[LGlossRows$Page;" ∈ kq_W := kq_of 221 (by decide +kernel) rfl
theorem kq_222 : Jvm.Cond.fieldLink "GlossRows$History" (18 : Nat) "GlossRows$History" "count" "I" ∈ kq_W := kq_of 222 (by decide +kernel) rfl
theorem kq_223 : Jvm.Cond.fieldLink "GlossRows" (289 : Nat) "GlossRows$History" "count" "I" ∈ kq_W := kq_of 223 (by decide +kernel) rfl
theorem kq_224 : Jvm.Cond.fieldLink "GlossRows$History" (22 : Nat) "GlossRows$History" "oldest" "I" ∈ kq_W := kq_of 224 (by decide +kernel) rfl
theorem kq_225 : Jvm.Cond.laysFinal "GlossRows$History" "GlossRows$History" "pages" "[LGlossRows$Page;" ∈ kq_W := kq_of 225 (by decide +kernel) rfl
theorem kq_227 : Jvm.Cond.lays "GlossRows$History" "GlossRows$History" "count" "I" ∈ kq_W := kq_of 227 (by decide +kernel) rfl
theorem kq_229 : Jvm.Cond.lays "GlossRows$History" "GlossRows$History" "oldest" "I" ∈ kq_W := kq_of 229 (by decide +kernel) rfl
theorem kq_232 : Jvm.Cond.fieldLink "GlossRows" (10 : Nat) "GlossRows" "text" "LGlossRows$Text;" ∈ kq_W := kq_of 232 (by decide +kernel) rfl
theorem kq_233 : Jvm.Cond.fieldLink "GlossRows" (19 : Nat) "GlossRows" "reader" "LGlossRows$Reader;" ∈ kq_W := kq_of 233 (by decide +kernel) rfl
theorem kq_234 : Jvm.Cond.fieldLink "GlossRows" (26 : Nat) "GlossRows" "page" "LGlossRows$Page;" ∈ kq_W := kq_of 234 (by decide +kernel) rfl
theorem kq_235 : Jvm.Cond.fieldLink "GlossRows" (30 : Nat) "GlossRows" "trial" "LGlossRows$Page;" ∈ kq_W := kq_of 235 (by decide +kernel) rfl
theorem kq_236 : Jvm.Cond.fieldLink "GlossRows" (36 : Nat) "GlossRows" "layout" "LGlossRows$Layout;" ∈ kq_W := kq_of 236 (by decide +kernel) rfl
theorem kq_237 : Jvm.Cond.fieldLink "GlossRows" (43 : Nat) "GlossRows" "history" "LGlossRows$History;" ∈ kq_W := kq_of 237 (by decide +kernel) rfl
theorem kq_238 : Jvm.Cond.fieldLink "GlossRows" (47 : Nat) "GlossRows" "slots" "[LGlossRows$Page;" ∈ kq_W := kq_of 238 (by decide +kernel) rfl
theorem kq_239 : Jvm.Cond.fieldLink "GlossRows" (51 : Nat) "GlossRows" "saved" "[Z" ∈ kq_W := kq_of 239 (by decide +kernel) rfl
theorem kq_240 : Jvm.Cond.laysFinal "GlossRows" "GlossRows" "text" "LGlossRows$Text;" ∈ kq_W := kq_of 240 (by decide +kernel) rfl
theorem kq_242 : Jvm.Cond.laysFinal "GlossRows" "GlossRows" "reader" "LGlossRows$Reader;" ∈ kq_W := kq_of 242 (by decide +kernel) rfl
theorem kq_244 : Jvm.Cond.laysFinal "GlossRows" "GlossRows" "page" "LGlossRows$Page;" ∈ kq_W := kq_of 244 (by decide +kernel) rfl
theorem kq_246 : Jvm.Cond.laysFinal "GlossRows" "GlossRows" "trial" "LGlossRows$Page;" ∈ kq_W := kq_of 246 (by decide +kernel) rfl
theorem kq_248 : Jvm.Cond.laysFinal "GlossRows" "GlossRows" "layout" "LGlossRows$Layout;" ∈ kq_W := kq_of 248 (by decide +kernel) rfl
theorem kq_250 : Jvm.Cond.laysFinal "GlossRows" "GlossRows" "history" "LGlossRows$History;" ∈ kq_W := kq_of 250 (by decide +kernel) rfl
theorem kq_252 : Jvm.Cond.laysFinal "GlossRows" "GlossRows" "slots" "[LGlossRows$Page;" ∈ kq_W := kq_of 252 (by decide +kernel) rfl
theorem kq_254 : Jvm.Cond.laysFinal "GlossRows" "GlossRows" "saved" "[Z" ∈ kq_W := kq_of 254 (by decide +kernel) rfl
theorem kq_258 : Jvm.Cond.methodLink "GlossRowsLaw" (114 : Nat) ({ cls := "GlossRows", name := "clearText", desc := "()I" } : Jvm.MethodName) ∈ kq_W := kq_of 258 (by decide +kernel) rfl
theorem kq_259 : Jvm.Cond.instanceMethod ({ cls := "GlossRows", name := "clearText", desc := "()I" } : Jvm.MethodName) ∈ kq_W := kq_of 259 (by decide +kernel) rfl
theorem kq_260 : Jvm.Cond.selects "GlossRows" ({ cls := "GlossRows", name := "clearText", desc := "()I" } : Jvm.MethodName) ({ cls := "GlossRows", name := "clearText", desc := "()I" } : Jvm.MethodName) ∈ kq_W := kq_of 260 (by decide +kernel) rfl
theorem kq_261 : Jvm.Cond.code ({ cls := "GlossRows", name := "clearText", desc := "()I" } : Jvm.MethodName) prog_1_method_3_code (2 : Nat) (Option.some Jvm.ClassFile.FieldType.int) ∈ kq_W := kq_of 261 (by decide +kernel) rfl
theorem kq_262 : Jvm.Cond.methodLink "GlossRowsLaw" (118 : Nat) ({ cls := "GlossRows", name := "errorPosition", desc := "()I" } : Jvm.MethodName) ∈ kq_W := kq_of 262 (by decide +kernel) rfl
theorem kq_263 : Jvm.Cond.instanceMethod ({ cls := "GlossRows", name := "errorPosition", desc := "()I" } : Jvm.MethodName) ∈ kq_W := kq_of 263 (by decide +kernel) rfl
theorem kq_264 : Jvm.Cond.selects "GlossRows" ({ cls := "GlossRows", name := "errorPosition", desc := "()I" } : Jvm.MethodName) ({ cls := "GlossRows", name := "errorPosition", desc := "()I" } : Jvm.MethodName) ∈ kq_W := kq_of 264 (by decide +kernel) rfl
theorem kq_265 : Jvm.Cond.code ({ cls := "GlossRows", name := "errorPosition", desc := "()I" } : Jvm.MethodName) prog_1_method_4_code (1 : Nat) (Option.some Jvm.ClassFile.FieldType.int) ∈ kq_W := kq_of 265 (by decide +kernel) rfl
theorem kq_266 : Jvm.Cond.methodLink "GlossRows" (75 : Nat) ({ cls := "GlossRows$Reader", name := "read", desc := "(LGlossRows$Text;)I" } : Jvm.MethodName) ∈ kq_W := kq_of 266 (by decide +kernel) rfl
theorem kq_267 : Jvm.Cond.instanceMethod ({ cls := "GlossRows$Reader", name := "read", desc := "(LGlossRows$Text;)I" } : Jvm.MethodName) ∈ kq_W := kq_of 267 (by decide +kernel) rfl
theorem kq_268 : Jvm.Cond.selects "GlossRows$Reader" ({ cls := "GlossRows$Reader", name := "read", desc := "(LGlossRows$Text;)I" } : Jvm.MethodName) ({ cls := "GlossRows$Reader", name := "read", desc := "(LGlossRows$Text;)I" } : Jvm.MethodName) ∈ kq_W := kq_of 268 (by decide +kernel) rfl
theorem kq_269 : Jvm.Cond.code ({ cls := "GlossRows$Reader", name := "read", desc := "(LGlossRows$Text;)I" } : Jvm.MethodName) prog_7_method_2_code (3 : Nat) (Option.some Jvm.ClassFile.FieldType.int) ∈ kq_W := kq_of 269 (by decide +kernel) rfl
theorem kq_270 : Jvm.Cond.methodLink "GlossRows$Reader" (26 : Nat) ({ cls := "GlossRows$Reader", name := "openWord", desc := "()V" } : Jvm.MethodName) ∈ kq_W := kq_of 270 (by decide +kernel) rfl
theorem kq_272 : Jvm.Cond.instanceMethod ({ cls := "GlossRows$Reader", name := "openWord", desc := "()V" } : Jvm.MethodName) ∈ kq_W := kq_of 272 (by decide +kernel) rfl
theorem kq_273 : Jvm.Cond.code ({ cls := "GlossRows$Reader", name := "openWord", desc := "()V" } : Jvm.MethodName) prog_7_method_3_code (1 : Nat) (Option.none : Option Jvm.ClassFile.FieldType) ∈ kq_W := kq_of 273 (by decide +kernel) rfl
theorem kq_274 : Jvm.Cond.methodLink "GlossRows$Reader" (46 : Nat) ({ cls := "GlossRows$Word", name := "reset", desc := "()V" } : Jvm.MethodName) ∈ kq_W := kq_of 274 (by decide +kernel) rfl
theorem kq_275 : Jvm.Cond.instanceMethod ({ cls := "GlossRows$Word", name := "reset", desc := "()V" } : Jvm.MethodName) ∈ kq_W := kq_of 275 (by decide +kernel) rfl
theorem kq_276 : Jvm.Cond.selects "GlossRows$Word" ({ cls := "GlossRows$Word", name := "reset", desc := "()V" } : Jvm.MethodName) ({ cls := "GlossRows$Word", name := "reset", desc := "()V" } : Jvm.MethodName) ∈ kq_W := kq_of 276 (by decide +kernel) rfl
theorem kq_277 : Jvm.Cond.code ({ cls := "GlossRows$Word", name := "reset", desc := "()V" } : Jvm.MethodName) prog_9_method_2_code (1 : Nat) (Option.none : Option Jvm.ClassFile.FieldType) ∈ kq_W := kq_of 277 (by decide +kernel) rfl
theorem kq_278 : Jvm.Cond.methodLink "GlossRows$Reader" (49 : Nat) ({ cls := "GlossRows$Word", name := "openPart", desc := "(I)V" } : Jvm.MethodName) ∈ kq_W := kq_of 278 (by decide +kernel) rfl
theorem kq_279 : Jvm.Cond.instanceMethod ({ cls := "GlossRows$Word", name := "openPart", desc := "(I)V" } : Jvm.MethodName) ∈ kq_W := kq_of 279 (by decide +kernel) rfl
theorem kq_280 : Jvm.Cond.selects "GlossRows$Word" ({ cls := "GlossRows$Word", name := "openPart", desc := "(I)V" } : Jvm.MethodName) ({ cls := "GlossRows$Word", name := "openPart", desc := "(I)V" } : Jvm.MethodName) ∈ kq_W := kq_of 280 (by decide +kernel) rfl
theorem kq_281 : Jvm.Cond.code ({ cls := "GlossRows$Word", name := "openPart", desc := "(I)V" } : Jvm.MethodName) prog_9_method_4_code (2 : Nat) (Option.none : Option Jvm.ClassFile.FieldType) ∈ kq_W := kq_of 281 (by decide +kernel) rfl
theorem kq_282 : Jvm.Cond.methodLink "GlossRows$Reader" (38 : Nat) ({ cls := "GlossRows$Reader", name := "takes", desc := "(I)Z" } : Jvm.MethodName) ∈ kq_W := kq_of 282 (by decide +kernel) rfl
theorem kq_284 : Jvm.Cond.instanceMethod ({ cls := "GlossRows$Reader", name := "takes", desc := "(I)Z" } : Jvm.MethodName) ∈ kq_W := kq_of 284 (by decide +kernel) rfl
theorem kq_285 : Jvm.Cond.code ({ cls := "GlossRows$Reader", name := "takes", desc := "(I)Z" } : Jvm.MethodName) prog_7_method_4_code (2 : Nat) (Option.some Jvm.ClassFile.FieldType.boolean) ∈ kq_W := kq_of 285 (by decide +kernel) rfl
theorem kq_286 : Jvm.Cond.methodLink "GlossRows$Reader" (60 : Nat) ({ cls := "GlossRows$Reader", name := "takesBlank", desc := "()Z" } : Jvm.MethodName) ∈ kq_W := kq_of 286 (by decide +kernel) rfl
theorem kq_288 : Jvm.Cond.instanceMethod ({ cls := "GlossRows$Reader", name := "takesBlank", desc := "()Z" } : Jvm.MethodName) ∈ kq_W := kq_of 288 (by decide +kernel) rfl
theorem kq_289 : Jvm.Cond.code ({ cls := "GlossRows$Reader", name := "takesBlank", desc := "()Z" } : Jvm.MethodName) prog_7_method_5_code (1 : Nat) (Option.some Jvm.ClassFile.FieldType.boolean) ∈ kq_W := kq_of 289 (by decide +kernel) rfl
theorem kq_290 : Jvm.Cond.methodLink "GlossRows$Reader" (42 : Nat) ({ cls := "GlossRows$Reader", name := "isWordWhole", desc := "()Z" } : Jvm.MethodName) ∈ kq_W := kq_of 290 (by decide +kernel) rfl
theorem kq_292 : Jvm.Cond.instanceMethod ({ cls := "GlossRows$Reader", name := "isWordWhole", desc := "()Z" } : Jvm.MethodName) ∈ kq_W := kq_of 292 (by decide +kernel) rfl
theorem kq_293 : Jvm.Cond.code ({ cls := "GlossRows$Reader", name := "isWordWhole", desc := "()Z" } : Jvm.MethodName) prog_7_method_11_code (1 : Nat) (Option.some Jvm.ClassFile.FieldType.boolean) ∈ kq_W := kq_of 293 (by decide +kernel) rfl
theorem kq_294 : Jvm.Cond.methodLink "GlossRows$Reader" (83 : Nat) ({ cls := "GlossRows$Reader", name := "hasPartLetters", desc := "()Z" } : Jvm.MethodName) ∈ kq_W := kq_of 294 (by decide +kernel) rfl
theorem kq_296 : Jvm.Cond.instanceMethod ({ cls := "GlossRows$Reader", name := "hasPartLetters", desc := "()Z" } : Jvm.MethodName) ∈ kq_W := kq_of 296 (by decide +kernel) rfl
theorem kq_297 : Jvm.Cond.code ({ cls := "GlossRows$Reader", name := "hasPartLetters", desc := "()Z" } : Jvm.MethodName) prog_7_method_12_code (1 : Nat) (Option.some Jvm.ClassFile.FieldType.boolean) ∈ kq_W := kq_of 297 (by decide +kernel) rfl
theorem kq_298 : Jvm.Cond.methodLink "GlossRows$Reader" (99 : Nat) ({ cls := "GlossRows$Letters", name := "length", desc := "(J)I" } : Jvm.MethodName) ∈ kq_W := kq_of 298 (by decide +kernel) rfl
theorem kq_299 : Jvm.Cond.static ({ cls := "GlossRows$Letters", name := "length", desc := "(J)I" } : Jvm.MethodName) ∈ kq_W := kq_of 299 (by decide +kernel) rfl
theorem kq_300 : Jvm.Cond.code ({ cls := "GlossRows$Letters", name := "length", desc := "(J)I" } : Jvm.MethodName) prog_4_method_2_code (2 : Nat) (Option.some Jvm.ClassFile.FieldType.int) ∈ kq_W := kq_of 300 (by decide +kernel) rfl
theorem kq_301 : Jvm.Cond.constantLong "GlossRows$Letters" (9 : Nat) (15 : Int64) ∈ kq_W := kq_of 301 (by decide +kernel) rfl
theorem kq_302 : Jvm.Cond.methodLink "GlossRows$Reader" (63 : Nat) ({ cls := "GlossRows$Reader", name := "takesColon", desc := "()Z" } : Jvm.MethodName) ∈ kq_W := kq_of 302 (by decide +kernel) rfl
theorem kq_304 : Jvm.Cond.instanceMethod ({ cls := "GlossRows$Reader", name := "takesColon", desc := "()Z" } : Jvm.MethodName) ∈ kq_W := kq_of 304 (by decide +kernel) rfl
theorem kq_305 : Jvm.Cond.code ({ cls := "GlossRows$Reader", name := "takesColon", desc := "()Z" } : Jvm.MethodName) prog_7_method_6_code (1 : Nat) (Option.some Jvm.ClassFile.FieldType.boolean) ∈ kq_W := kq_of 305 (by decide +kernel) rfl
theorem kq_306 : Jvm.Cond.methodLink "GlossRows$Reader" (66 : Nat) ({ cls := "GlossRows$Letters", name := "isMark", desc := "(I)Z" } : Jvm.MethodName) ∈ kq_W := kq_of 306 (by decide +kernel) rfl
theorem kq_307 : Jvm.Cond.static ({ cls := "GlossRows$Letters", name := "isMark", desc := "(I)Z" } : Jvm.MethodName) ∈ kq_W := kq_of 307 (by decide +kernel) rfl
theorem kq_308 : Jvm.Cond.code ({ cls := "GlossRows$Letters", name := "isMark", desc := "(I)Z" } : Jvm.MethodName) prog_4_method_8_code (1 : Nat) (Option.some Jvm.ClassFile.FieldType.boolean) ∈ kq_W := kq_of 308 (by decide +kernel) rfl
theorem kq_309 : Jvm.Cond.methodLink "GlossRows$Reader" (71 : Nat) ({ cls := "GlossRows$Reader", name := "takesMarkOfGlosses", desc := "(I)Z" } : Jvm.MethodName) ∈ kq_W := kq_of 309 (by decide +kernel) rfl
theorem kq_311 : Jvm.Cond.instanceMethod ({ cls := "GlossRows$Reader", name := "takesMarkOfGlosses", desc := "(I)Z" } : Jvm.MethodName) ∈ kq_W := kq_of 311 (by decide +kernel) rfl
theorem kq_312 : Jvm.Cond.code ({ cls := "GlossRows$Reader", name := "takesMarkOfGlosses", desc := "(I)Z" } : Jvm.MethodName) prog_7_method_8_code (2 : Nat) (Option.some Jvm.ClassFile.FieldType.boolean) ∈ kq_W := kq_of 312 (by decide +kernel) rfl
theorem kq_313 : Jvm.Cond.methodLink "GlossRows$Reader" (74 : Nat) ({ cls := "GlossRows$Reader", name := "takesMarkOfParts", desc := "(I)Z" } : Jvm.MethodName) ∈ kq_W := kq_of 313 (by decide +kernel) rfl
theorem kq_315 : Jvm.Cond.instanceMethod ({ cls := "GlossRows$Reader", name := "takesMarkOfParts", desc := "(I)Z" } : Jvm.MethodName) ∈ kq_W := kq_of 315 (by decide +kernel) rfl
theorem kq_316 : Jvm.Cond.code ({ cls := "GlossRows$Reader", name := "takesMarkOfParts", desc := "(I)Z" } : Jvm.MethodName) prog_7_method_7_code (2 : Nat) (Option.some Jvm.ClassFile.FieldType.boolean) ∈ kq_W := kq_of 316 (by decide +kernel) rfl
theorem kq_317 : Jvm.Cond.methodLink "GlossRows$Reader" (77 : Nat) ({ cls := "GlossRows$Reader", name := "takesGlossLetter", desc := "(I)Z" } : Jvm.MethodName) ∈ kq_W := kq_of 317 (by decide +kernel) rfl
theorem kq_319 : Jvm.Cond.instanceMethod ({ cls := "GlossRows$Reader", name := "takesGlossLetter", desc := "(I)Z" } : Jvm.MethodName) ∈ kq_W := kq_of 319 (by decide +kernel) rfl
theorem kq_320 : Jvm.Cond.code ({ cls := "GlossRows$Reader", name := "takesGlossLetter", desc := "(I)Z" } : Jvm.MethodName) prog_7_method_10_code (2 : Nat) (Option.some Jvm.ClassFile.FieldType.boolean) ∈ kq_W := kq_of 320 (by decide +kernel) rfl
theorem kq_321 : Jvm.Cond.methodLink "GlossRows$Reader" (106 : Nat) ({ cls := "GlossRows$Letters", name := "isGlossLetter", desc := "(I)Z" } : Jvm.MethodName) ∈ kq_W := kq_of 321 (by decide +kernel) rfl
theorem kq_322 : Jvm.Cond.static ({ cls := "GlossRows$Letters", name := "isGlossLetter", desc := "(I)Z" } : Jvm.MethodName) ∈ kq_W := kq_of 322 (by decide +kernel) rfl
theorem kq_323 : Jvm.Cond.code ({ cls := "GlossRows$Letters", name := "isGlossLetter", desc := "(I)Z" } : Jvm.MethodName) prog_4_method_7_code (1 : Nat) (Option.some Jvm.ClassFile.FieldType.boolean) ∈ kq_W := kq_of 323 (by decide +kernel) rfl
theorem kq_324 : Jvm.Cond.methodLink "GlossRows$Letters" (21 : Nat) ({ cls := "GlossRows$Letters", name := "isLetter", desc := "(I)Z" } : Jvm.MethodName) ∈ kq_W := kq_of 324 (by decide +kernel) rfl
theorem kq_325 : Jvm.Cond.static ({ cls := "GlossRows$Letters", name := "isLetter", desc := "(I)Z" } : Jvm.MethodName) ∈ kq_W := kq_of 325 (by decide +kernel) rfl
theorem kq_326 : Jvm.Cond.code ({ cls := "GlossRows$Letters", name := "isLetter", desc := "(I)Z" } : Jvm.MethodName) prog_4_method_6_code (1 : Nat) (Option.some Jvm.ClassFile.FieldType.boolean) ∈ kq_W := kq_of 326 (by decide +kernel) rfl
theorem kq_327 : Jvm.Cond.methodLink "GlossRows$Reader" (102 : Nat) ({ cls := "GlossRows$Letters", name := "with", desc := "(JI)J" } : Jvm.MethodName) ∈ kq_W := kq_of 327 (by decide +kernel) rfl
theorem kq_328 : Jvm.Cond.static ({ cls := "GlossRows$Letters", name := "with", desc := "(JI)J" } : Jvm.MethodName) ∈ kq_W := kq_of 328 (by decide +kernel) rfl
theorem kq_329 : Jvm.Cond.code ({ cls := "GlossRows$Letters", name := "with", desc := "(JI)J" } : Jvm.MethodName) prog_4_method_4_code (4 : Nat) (Option.some Jvm.ClassFile.FieldType.long) ∈ kq_W := kq_of 329 (by decide +kernel) rfl
theorem kq_330 : Jvm.Cond.methodLink "GlossRows$Letters" (11 : Nat) ({ cls := "GlossRows$Letters", name := "length", desc := "(J)I" } : Jvm.MethodName) ∈ kq_W := kq_of 330 (by decide +kernel) rfl
theorem kq_331 : Jvm.Cond.methodLink "GlossRows$Letters" (17 : Nat) ({ cls := "GlossRows$Letters", name := "placeOf", desc := "(I)I" } : Jvm.MethodName) ∈ kq_W := kq_of 331 (by decide +kernel) rfl
theorem kq_332 : Jvm.Cond.static ({ cls := "GlossRows$Letters", name := "placeOf", desc := "(I)I" } : Jvm.MethodName) ∈ kq_W := kq_of 332 (by decide +kernel) rfl
theorem kq_333 : Jvm.Cond.code ({ cls := "GlossRows$Letters", name := "placeOf", desc := "(I)I" } : Jvm.MethodName) prog_4_method_5_code (1 : Nat) (Option.some Jvm.ClassFile.FieldType.int) ∈ kq_W := kq_of 333 (by decide +kernel) rfl
theorem kq_334 : Jvm.Cond.methodLink "GlossRows$Reader" (80 : Nat) ({ cls := "GlossRows$Reader", name := "takesLetter", desc := "(I)Z" } : Jvm.MethodName) ∈ kq_W := kq_of 334 (by decide +kernel) rfl
theorem kq_336 : Jvm.Cond.instanceMethod ({ cls := "GlossRows$Reader", name := "takesLetter", desc := "(I)Z" } : Jvm.MethodName) ∈ kq_W := kq_of 336 (by decide +kernel) rfl
theorem kq_337 : Jvm.Cond.code ({ cls := "GlossRows$Reader", name := "takesLetter", desc := "(I)Z" } : Jvm.MethodName) prog_7_method_9_code (2 : Nat) (Option.some Jvm.ClassFile.FieldType.boolean) ∈ kq_W := kq_of 337 (by decide +kernel) rfl
theorem kq_338 : Jvm.Cond.methodLink "GlossRows$Reader" (92 : Nat) ({ cls := "GlossRows$Letters", name := "isLetter", desc := "(I)Z" } : Jvm.MethodName) ∈ kq_W := kq_of 338 (by decide +kernel) rfl
theorem kq_339 : Jvm.Cond.methodLink "GlossRowsLaw" (178 : Nat) ({ cls := "GlossRows", name := "fillGaps", desc := "()I" } : Jvm.MethodName) ∈ kq_W := kq_of 339 (by decide +kernel) rfl
theorem kq_340 : Jvm.Cond.instanceMethod ({ cls := "GlossRows", name := "fillGaps", desc := "()I" } : Jvm.MethodName) ∈ kq_W := kq_of 340 (by decide +kernel) rfl
theorem kq_341 : Jvm.Cond.selects "GlossRows" ({ cls := "GlossRows", name := "fillGaps", desc := "()I" } : Jvm.MethodName) ({ cls := "GlossRows", name := "fillGaps", desc := "()I" } : Jvm.MethodName) ∈ kq_W := kq_of 341 (by decide +kernel) rfl
theorem kq_342 : Jvm.Cond.code ({ cls := "GlossRows", name := "fillGaps", desc := "()I" } : Jvm.MethodName) prog_1_method_22_code (1 : Nat) (Option.some Jvm.ClassFile.FieldType.int) ∈ kq_W := kq_of 342 (by decide +kernel) rfl
theorem kq_343 : Jvm.Cond.methodLink "GlossRows" (236 : Nat) ({ cls := "GlossRows$History", name := "remember", desc := "(LGlossRows$Page;)V" } : Jvm.MethodName) ∈ kq_W := kq_of 343 (by decide +kernel) rfl
theorem kq_344 : Jvm.Cond.instanceMethod ({ cls := "GlossRows$History", name := "remember", desc := "(LGlossRows$Page;)V" } : Jvm.MethodName) ∈ kq_W := kq_of 344 (by decide +kernel) rfl
theorem kq_345 : Jvm.Cond.selects "GlossRows$History" ({ cls := "GlossRows$History", name := "remember", desc := "(LGlossRows$Page;)V" } : Jvm.MethodName) ({ cls := "GlossRows$History", name := "remember", desc := "(LGlossRows$Page;)V" } : Jvm.MethodName) ∈ kq_W := kq_of 345 (by decide +kernel) rfl
theorem kq_346 : Jvm.Cond.code ({ cls := "GlossRows$History", name := "remember", desc := "(LGlossRows$Page;)V" } : Jvm.MethodName) prog_2_method_3_code (2 : Nat) (Option.none : Option Jvm.ClassFile.FieldType) ∈ kq_W := kq_of 346 (by decide +kernel) rfl
theorem kq_347 : Jvm.Cond.methodLink "GlossRows$History" (25 : Nat) ({ cls := "GlossRows$Page", name := "copyFrom", desc := "(LGlossRows$Page;)V" } : Jvm.MethodName) ∈ kq_W := kq_of 347 (by decide +kernel) rfl
theorem kq_348 : Jvm.Cond.instanceMethod ({ cls := "GlossRows$Page", name := "copyFrom", desc := "(LGlossRows$Page;)V" } : Jvm.MethodName) ∈ kq_W := kq_of 348 (by decide +kernel) rfl
theorem kq_349 : Jvm.Cond.selects "GlossRows$Page" ({ cls := "GlossRows$Page", name := "copyFrom", desc := "(LGlossRows$Page;)V" } : Jvm.MethodName) ({ cls := "GlossRows$Page", name := "copyFrom", desc := "(LGlossRows$Page;)V" } : Jvm.MethodName) ∈ kq_W := kq_of 349 (by decide +kernel) rfl
theorem kq_350 : Jvm.Cond.code ({ cls := "GlossRows$Page", name := "copyFrom", desc := "(LGlossRows$Page;)V" } : Jvm.MethodName) prog_6_method_3_code (3 : Nat) (Option.none : Option Jvm.ClassFile.FieldType) ∈ kq_W := kq_of 350 (by decide +kernel) rfl
theorem kq_351 : Jvm.Cond.methodLink "GlossRows$Page" (44 : Nat) ({ cls := "GlossRows$Word", name := "copyFrom", desc := "(LGlossRows$Word;)V" } : Jvm.MethodName) ∈ kq_W := kq_of 351 (by decide +kernel) rfl
theorem kq_352 : Jvm.Cond.instanceMethod ({ cls := "GlossRows$Word", name := "copyFrom", desc := "(LGlossRows$Word;)V" } : Jvm.MethodName) ∈ kq_W := kq_of 352 (by decide +kernel) rfl
theorem kq_353 : Jvm.Cond.selects "GlossRows$Word" ({ cls := "GlossRows$Word", name := "copyFrom", desc := "(LGlossRows$Word;)V" } : Jvm.MethodName) ({ cls := "GlossRows$Word", name := "copyFrom", desc := "(LGlossRows$Word;)V" } : Jvm.MethodName) ∈ kq_W := kq_of 353 (by decide +kernel) rfl
theorem kq_354 : Jvm.Cond.code ({ cls := "GlossRows$Word", name := "copyFrom", desc := "(LGlossRows$Word;)V" } : Jvm.MethodName) prog_9_method_3_code (3 : Nat) (Option.none : Option Jvm.ClassFile.FieldType) ∈ kq_W := kq_of 354 (by decide +kernel) rfl
theorem kq_355 : Jvm.Cond.methodLink "GlossRows$Page" (48 : Nat) ({ cls := "GlossRows$Lexicon", name := "copyFrom", desc := "(LGlossRows$Lexicon;)V" } : Jvm.MethodName) ∈ kq_W := kq_of 355 (by decide +kernel) rfl
theorem kq_356 : Jvm.Cond.instanceMethod ({ cls := "GlossRows$Lexicon", name := "copyFrom", desc := "(LGlossRows$Lexicon;)V" } : Jvm.MethodName) ∈ kq_W := kq_of 356 (by decide +kernel) rfl
theorem kq_357 : Jvm.Cond.selects "GlossRows$Lexicon" ({ cls := "GlossRows$Lexicon", name := "copyFrom", desc := "(LGlossRows$Lexicon;)V" } : Jvm.MethodName) ({ cls := "GlossRows$Lexicon", name := "copyFrom", desc := "(LGlossRows$Lexicon;)V" } : Jvm.MethodName) ∈ kq_W := kq_of 357 (by decide +kernel) rfl
theorem kq_358 : Jvm.Cond.code ({ cls := "GlossRows$Lexicon", name := "copyFrom", desc := "(LGlossRows$Lexicon;)V" } : Jvm.MethodName) prog_5_method_2_code (3 : Nat) (Option.none : Option Jvm.ClassFile.FieldType) ∈ kq_W := kq_of 358 (by decide +kernel) rfl
theorem kq_359 : Jvm.Cond.methodLink "GlossRows" (286 : Nat) ({ cls := "GlossRows$Page", name := "fill", desc := "()I" } : Jvm.MethodName) ∈ kq_W := kq_of 359 (by decide +kernel) rfl
theorem kq_360 : Jvm.Cond.instanceMethod ({ cls := "GlossRows$Page", name := "fill", desc := "()I" } : Jvm.MethodName) ∈ kq_W := kq_of 360 (by decide +kernel) rfl
theorem kq_361 : Jvm.Cond.selects "GlossRows$Page" ({ cls := "GlossRows$Page", name := "fill", desc := "()I" } : Jvm.MethodName) ({ cls := "GlossRows$Page", name := "fill", desc := "()I" } : Jvm.MethodName) ∈ kq_W := kq_of 361 (by decide +kernel) rfl
theorem kq_362 : Jvm.Cond.code ({ cls := "GlossRows$Page", name := "fill", desc := "()I" } : Jvm.MethodName) prog_6_method_12_code (5 : Nat) (Option.some Jvm.ClassFile.FieldType.int) ∈ kq_W := kq_of 362 (by decide +kernel) rfl
theorem kq_363 : Jvm.Cond.methodLink "GlossRows$Page" (82 : Nat) ({ cls := "GlossRows$Lexicon", name := "find", desc := "(J)I" } : Jvm.MethodName) ∈ kq_W := kq_of 363 (by decide +kernel) rfl
theorem kq_364 : Jvm.Cond.instanceMethod ({ cls := "GlossRows$Lexicon", name := "find", desc := "(J)I" } : Jvm.MethodName) ∈ kq_W := kq_of 364 (by decide +kernel) rfl
theorem kq_365 : Jvm.Cond.selects "GlossRows$Lexicon" ({ cls := "GlossRows$Lexicon", name := "find", desc := "(J)I" } : Jvm.MethodName) ({ cls := "GlossRows$Lexicon", name := "find", desc := "(J)I" } : Jvm.MethodName) ∈ kq_W := kq_of 365 (by decide +kernel) rfl
theorem kq_366 : Jvm.Cond.code ({ cls := "GlossRows$Lexicon", name := "find", desc := "(J)I" } : Jvm.MethodName) prog_5_method_3_code (4 : Nat) (Option.some Jvm.ClassFile.FieldType.int) ∈ kq_W := kq_of 366 (by decide +kernel) rfl
theorem kq_367 : Jvm.Cond.methodLink "GlossRowsLaw" (188 : Nat) ({ cls := "GlossRows", name := "mostUsed", desc := "()I" } : Jvm.MethodName) ∈ kq_W := kq_of 367 (by decide +kernel) rfl
theorem kq_368 : Jvm.Cond.instanceMethod ({ cls := "GlossRows", name := "mostUsed", desc := "()I" } : Jvm.MethodName) ∈ kq_W := kq_of 368 (by decide +kernel) rfl
theorem kq_369 : Jvm.Cond.selects "GlossRows" ({ cls := "GlossRows", name := "mostUsed", desc := "()I" } : Jvm.MethodName) ({ cls := "GlossRows", name := "mostUsed", desc := "()I" } : Jvm.MethodName) ∈ kq_W := kq_of 369 (by decide +kernel) rfl
theorem kq_370 : Jvm.Cond.code ({ cls := "GlossRows", name := "mostUsed", desc := "()I" } : Jvm.MethodName) prog_1_method_25_code (1 : Nat) (Option.some Jvm.ClassFile.FieldType.int) ∈ kq_W := kq_of 370 (by decide +kernel) rfl
theorem kq_371 : Jvm.Cond.methodLink "GlossRows" (298 : Nat) ({ cls := "GlossRows$Page", name := "placeOfMostUsed", desc := "()I" } : Jvm.MethodName) ∈ kq_W := kq_of 371 (by decide +kernel) rfl
theorem kq_372 : Jvm.Cond.instanceMethod ({ cls := "GlossRows$Page", name := "placeOfMostUsed", desc := "()I" } : Jvm.MethodName) ∈ kq_W := kq_of 372 (by decide +kernel) rfl
theorem kq_373 : Jvm.Cond.selects "GlossRows$Page" ({ cls := "GlossRows$Page", name := "placeOfMostUsed", desc := "()I" } : Jvm.MethodName) ({ cls := "GlossRows$Page", name := "placeOfMostUsed", desc := "()I" } : Jvm.MethodName) ∈ kq_W := kq_of 373 (by decide +kernel) rfl
theorem kq_374 : Jvm.Cond.code ({ cls := "GlossRows$Page", name := "placeOfMostUsed", desc := "()I" } : Jvm.MethodName) prog_6_method_18_code (10 : Nat) (Option.some Jvm.ClassFile.FieldType.int) ∈ kq_W := kq_of 374 (by decide +kernel) rfl
theorem kq_375 : Jvm.Cond.methodLink "GlossRows$Page" (95 : Nat) ({ cls := "GlossRows$Page", name := "countUses", desc := "(J)I" } : Jvm.MethodName) ∈ kq_W := kq_of 375 (by decide +kernel) rfl
theorem kq_377 : Jvm.Cond.instanceMethod ({ cls := "GlossRows$Page", name := "countUses", desc := "(J)I" } : Jvm.MethodName) ∈ kq_W := kq_of 377 (by decide +kernel) rfl
theorem kq_378 : Jvm.Cond.code ({ cls := "GlossRows$Page", name := "countUses", desc := "(J)I" } : Jvm.MethodName) prog_6_method_19_code (6 : Nat) (Option.some Jvm.ClassFile.FieldType.int) ∈ kq_W := kq_of 378 (by decide +kernel) rfl
theorem kq_379 : Jvm.Cond.methodLink "GlossRowsLaw" (195 : Nat) ({ cls := "GlossRows", name := "empty", desc := "()I" } : Jvm.MethodName) ∈ kq_W := kq_of 379 (by decide +kernel) rfl
theorem kq_380 : Jvm.Cond.instanceMethod ({ cls := "GlossRows", name := "empty", desc := "()I" } : Jvm.MethodName) ∈ kq_W := kq_of 380 (by decide +kernel) rfl
theorem kq_381 : Jvm.Cond.selects "GlossRows" ({ cls := "GlossRows", name := "empty", desc := "()I" } : Jvm.MethodName) ({ cls := "GlossRows", name := "empty", desc := "()I" } : Jvm.MethodName) ∈ kq_W := kq_of 381 (by decide +kernel) rfl
theorem kq_382 : Jvm.Cond.code ({ cls := "GlossRows", name := "empty", desc := "()I" } : Jvm.MethodName) prog_1_method_27_code (1 : Nat) (Option.some Jvm.ClassFile.FieldType.int) ∈ kq_W := kq_of 382 (by decide +kernel) rfl
theorem kq_383 : Jvm.Cond.methodLink "GlossRows" (104 : Nat) ({ cls := "GlossRows", name := "arranged", desc := "(LGlossRows$Page;)LGlossRows$Layout;" } : Jvm.MethodName) ∈ kq_W := kq_of 383 (by decide +kernel) rfl
theorem kq_385 : Jvm.Cond.instanceMethod ({ cls := "GlossRows", name := "arranged", desc := "(LGlossRows$Page;)LGlossRows$Layout;" } : Jvm.MethodName) ∈ kq_W := kq_of 385 (by decide +kernel) rfl
theorem kq_386 : Jvm.Cond.code ({ cls := "GlossRows", name := "arranged", desc := "(LGlossRows$Page;)LGlossRows$Layout;" } : Jvm.MethodName) prog_1_method_39_code (2 : Nat) (Option.some (Jvm.ClassFile.FieldType.object "GlossRows$Layout")) ∈ kq_W := kq_of 386 (by decide +kernel) rfl
theorem kq_387 : Jvm.Cond.methodLink "GlossRows" (303 : Nat) ({ cls := "GlossRows$Layout", name := "measure", desc := "(LGlossRows$Page;I)V" } : Jvm.MethodName) ∈ kq_W := kq_of 387 (by decide +kernel) rfl
theorem kq_388 : Jvm.Cond.instanceMethod ({ cls := "GlossRows$Layout", name := "measure", desc := "(LGlossRows$Page;I)V" } : Jvm.MethodName) ∈ kq_W := kq_of 388 (by decide +kernel) rfl
theorem kq_389 : Jvm.Cond.selects "GlossRows$Layout" ({ cls := "GlossRows$Layout", name := "measure", desc := "(LGlossRows$Page;I)V" } : Jvm.MethodName) ({ cls := "GlossRows$Layout", name := "measure", desc := "(LGlossRows$Page;I)V" } : Jvm.MethodName) ∈ kq_W := kq_of 389 (by decide +kernel) rfl
theorem kq_390 : Jvm.Cond.code ({ cls := "GlossRows$Layout", name := "measure", desc := "(LGlossRows$Page;I)V" } : Jvm.MethodName) prog_3_method_2_code (4 : Nat) (Option.none : Option Jvm.ClassFile.FieldType) ∈ kq_W := kq_of 390 (by decide +kernel) rfl
theorem kq_391 : Jvm.Cond.methodLink "GlossRows$Layout" (37 : Nat) ({ cls := "GlossRows$Word", name := "width", desc := "(I)I" } : Jvm.MethodName) ∈ kq_W := kq_of 391 (by decide +kernel) rfl
theorem kq_392 : Jvm.Cond.instanceMethod ({ cls := "GlossRows$Word", name := "width", desc := "(I)I" } : Jvm.MethodName) ∈ kq_W := kq_of 392 (by decide +kernel) rfl
theorem kq_393 : Jvm.Cond.selects "GlossRows$Word" ({ cls := "GlossRows$Word", name := "width", desc := "(I)I" } : Jvm.MethodName) ({ cls := "GlossRows$Word", name := "width", desc := "(I)I" } : Jvm.MethodName) ∈ kq_W := kq_of 393 (by decide +kernel) rfl
theorem kq_394 : Jvm.Cond.code ({ cls := "GlossRows$Word", name := "width", desc := "(I)I" } : Jvm.MethodName) prog_9_method_9_code (8 : Nat) (Option.some Jvm.ClassFile.FieldType.int) ∈ kq_W := kq_of 394 (by decide +kernel) rfl
theorem kq_395 : Jvm.Cond.methodLink "GlossRows$Word" (53 : Nat) ({ cls := "GlossRows$Letters", name := "length", desc := "(J)I" } : Jvm.MethodName) ∈ kq_W := kq_of 395 (by decide +kernel) rfl
theorem kq_396 : Jvm.Cond.methodLink "GlossRows$Word" (58 : Nat) ({ cls := "GlossRows$Word", name := "shownGloss", desc := "(I)J" } : Jvm.MethodName) ∈ kq_W := kq_of 396 (by decide +kernel) rfl
theorem kq_398 : Jvm.Cond.instanceMethod ({ cls := "GlossRows$Word", name := "shownGloss", desc := "(I)J" } : Jvm.MethodName) ∈ kq_W := kq_of 398 (by decide +kernel) rfl
theorem kq_399 : Jvm.Cond.code ({ cls := "GlossRows$Word", name := "shownGloss", desc := "(I)J" } : Jvm.MethodName) prog_9_method_12_code (2 : Nat) (Option.some Jvm.ClassFile.FieldType.long) ∈ kq_W := kq_of 399 (by decide +kernel) rfl
theorem kq_400 : Jvm.Cond.methodLink "GlossRows$Word" (69 : Nat) ({ cls := "GlossRows$Letters", name := "with", desc := "(JI)J" } : Jvm.MethodName) ∈ kq_W := kq_of 400 (by decide +kernel) rfl
theorem kq_401 : Jvm.Cond.methodLink "GlossRows$Word" (62 : Nat) ({ cls := "java/lang/Math", name := "max", desc := "(II)I" } : Jvm.MethodName) ∈ kq_W := kq_of 401 (by decide +kernel) rfl
theorem kq_402 : Jvm.Cond.static ({ cls := "java/lang/Math", name := "max", desc := "(II)I" } : Jvm.MethodName) ∈ kq_W := kq_of 402 (by decide +kernel) rfl
theorem kq_403 : Jvm.Cond.code ({ cls := "java/lang/Math", name := "max", desc := "(II)I" } : Jvm.MethodName) prog_16_method_65_code (2 : Nat) (Option.some Jvm.ClassFile.FieldType.int) ∈ kq_W := kq_of 403 (by decide +kernel) rfl
theorem kq_404 : Jvm.Cond.methodLink "GlossRows" (307 : Nat) ({ cls := "GlossRows$Layout", name := "wrap", desc := "(LGlossRows$Page;I)V" } : Jvm.MethodName) ∈ kq_W := kq_of 404 (by decide +kernel) rfl
theorem kq_405 : Jvm.Cond.instanceMethod ({ cls := "GlossRows$Layout", name := "wrap", desc := "(LGlossRows$Page;I)V" } : Jvm.MethodName) ∈ kq_W := kq_of 405 (by decide +kernel) rfl
theorem kq_406 : Jvm.Cond.selects "GlossRows$Layout" ({ cls := "GlossRows$Layout", name := "wrap", desc := "(LGlossRows$Page;I)V" } : Jvm.MethodName) ({ cls := "GlossRows$Layout", name := "wrap", desc := "(LGlossRows$Page;I)V" } : Jvm.MethodName) ∈ kq_W := kq_of 406 (by decide +kernel) rfl
theorem kq_407 : Jvm.Cond.code ({ cls := "GlossRows$Layout", name := "wrap", desc := "(LGlossRows$Page;I)V" } : Jvm.MethodName) prog_3_method_3_code (8 : Nat) (Option.none : Option Jvm.ClassFile.FieldType) ∈ kq_W := kq_of 407 (by decide +kernel) rfl
theorem kq_408 : Jvm.Cond.methodLink "GlossRows$Layout" (59 : Nat) ({ cls := "GlossRows$Layout", name := "rowsOfFree", desc := "(II)I" } : Jvm.MethodName) ∈ kq_W := kq_of 408 (by decide +kernel) rfl
theorem kq_409 : Jvm.Cond.static ({ cls := "GlossRows$Layout", name := "rowsOfFree", desc := "(II)I" } : Jvm.MethodName) ∈ kq_W := kq_of 409 (by decide +kernel) rfl
theorem kq_410 : Jvm.Cond.code ({ cls := "GlossRows$Layout", name := "rowsOfFree", desc := "(II)I" } : Jvm.MethodName) prog_3_method_4_code (2 : Nat) (Option.some Jvm.ClassFile.FieldType.int) ∈ kq_W := kq_of 410 (by decide +kernel) rfl
theorem kq_411 : Jvm.Cond.methodLink "GlossRows" (310 : Nat) ({ cls := "GlossRows$Layout", name := "countEmpty", desc := "(LGlossRows$Page;I)I" } : Jvm.MethodName) ∈ kq_W := kq_of 411 (by decide +kernel) rfl
theorem kq_412 : Jvm.Cond.instanceMethod ({ cls := "GlossRows$Layout", name := "countEmpty", desc := "(LGlossRows$Page;I)I" } : Jvm.MethodName) ∈ kq_W := kq_of 412 (by decide +kernel) rfl
theorem kq_413 : Jvm.Cond.selects "GlossRows$Layout" ({ cls := "GlossRows$Layout", name := "countEmpty", desc := "(LGlossRows$Page;I)I" } : Jvm.MethodName) ({ cls := "GlossRows$Layout", name := "countEmpty", desc := "(LGlossRows$Page;I)I" } : Jvm.MethodName) ∈ kq_W := kq_of 413 (by decide +kernel) rfl
theorem kq_414 : Jvm.Cond.code ({ cls := "GlossRows$Layout", name := "countEmpty", desc := "(LGlossRows$Page;I)I" } : Jvm.MethodName) prog_3_method_6_code (6 : Nat) (Option.some Jvm.ClassFile.FieldType.int) ∈ kq_W := kq_of 414 (by decide +kernel) rfl
theorem kq_415 : Jvm.Cond.methodLink "GlossRows$Layout" (63 : Nat) ({ cls := "java/lang/Math", name := "max", desc := "(II)I" } : Jvm.MethodName) ∈ kq_W := kq_of 415 (by decide +kernel) rfl
theorem kq_416 : Jvm.Cond.methodLink "GlossRowsLaw" (105 : Nat) ({ cls := "GlossRowsLaw", name := "append", desc := "(LGlossRows;I[J)I" } : Jvm.MethodName) ∈ kq_W := kq_of 416 (by decide +kernel) rfl
theorem kq_417 : Jvm.Cond.static ({ cls := "GlossRowsLaw", name := "append", desc := "(LGlossRows;I[J)I" } : Jvm.MethodName) ∈ kq_W := kq_of 417 (by decide +kernel) rfl
theorem kq_419 : Jvm.Cond.classLink "GlossRowsLaw" (13 : Nat) "java/lang/IllegalArgumentException" ∈ kq_W := kq_of 419 (by decide +kernel) rfl
theorem kq_420 : Jvm.Cond.classLink "GlossRowsLaw" (15 : Nat) "java/lang/IllegalStateException" ∈ kq_W := kq_of 420 (by decide +kernel) rfl
theorem kq_421 : Jvm.Cond.methodLink "GlossRowsLaw" (7 : Nat) ({ cls := "GlossRows", name := "append", desc := "(I)I" } : Jvm.MethodName) ∈ kq_W := kq_of 421 (by decide +kernel) rfl
theorem kq_422 : Jvm.Cond.instanceMethod ({ cls := "GlossRows", name := "append", desc := "(I)I" } : Jvm.MethodName) ∈ kq_W := kq_of 422 (by decide +kernel) rfl
theorem kq_423 : Jvm.Cond.selects "GlossRows" ({ cls := "GlossRows", name := "append", desc := "(I)I" } : Jvm.MethodName) ({ cls := "GlossRows", name := "append", desc := "(I)I" } : Jvm.MethodName) ∈ kq_W := kq_of 423 (by decide +kernel) rfl
theorem kq_424 : Jvm.Cond.code ({ cls := "GlossRows", name := "append", desc := "(I)I" } : Jvm.MethodName) prog_1_method_2_code (2 : Nat) (Option.some Jvm.ClassFile.FieldType.int) ∈ kq_W := kq_of 424 (by decide +kernel) rfl
theorem kq_425 : Jvm.Cond.classLink "GlossRows" (55 : Nat) "java/lang/IllegalArgumentException" ∈ kq_W := kq_of 425 (by decide +kernel) rfl
theorem kq_426 : Jvm.Cond.instantiable "java/lang/IllegalArgumentException" (6 : Nat) ∈ kq_W := kq_of 426 (by decide +kernel) rfl
theorem kq_434 : Jvm.Cond.selects "java/lang/IllegalArgumentException" ({ cls := "java/lang/Throwable", name := "fillInStackTrace", desc := "(I)Ljava/lang/Throwable;" } : Jvm.MethodName) ({ cls := "java/lang/Throwable", name := "fillInStackTrace", desc := "(I)Ljava/lang/Throwable;" } : Jvm.MethodName) ∈ kq_W := kq_of 434 (by decide +kernel) rfl
theorem kq_435 : Jvm.Cond.selects "java/lang/IllegalArgumentException" ({ cls := "java/lang/Throwable", name := "fillInStackTrace", desc := "()Ljava/lang/Throwable;" } : Jvm.MethodName) ({ cls := "java/lang/Throwable", name := "fillInStackTrace", desc := "()Ljava/lang/Throwable;" } : Jvm.MethodName) ∈ kq_W := kq_of 435 (by decide +kernel) rfl
theorem kq_436 : Jvm.Cond.lays "java/lang/IllegalArgumentException" "java/lang/Throwable" "cause" "Ljava/lang/Throwable;" ∈ kq_W := kq_of 436 (by decide +kernel) rfl
theorem kq_437 : Jvm.Cond.lays "java/lang/Throwable" "java/lang/Throwable" "cause" "Ljava/lang/Throwable;" ∈ kq_W := kq_of 437 (by decide +kernel) rfl
theorem kq_438 : Jvm.Cond.lays "java/lang/IllegalArgumentException" "java/lang/Throwable" "stackTrace" "[Ljava/lang/StackTraceElement;" ∈ kq_W := kq_of 438 (by decide +kernel) rfl
theorem kq_439 : Jvm.Cond.lays "java/lang/Throwable" "java/lang/Throwable" "stackTrace" "[Ljava/lang/StackTraceElement;" ∈ kq_W := kq_of 439 (by decide +kernel) rfl
theorem kq_440 : Jvm.Cond.lays "java/lang/IllegalArgumentException" "java/lang/Throwable" "suppressedExceptions" "Ljava/util/List;" ∈ kq_W := kq_of 440 (by decide +kernel) rfl
theorem kq_441 : Jvm.Cond.lays "java/lang/Throwable" "java/lang/Throwable" "suppressedExceptions" "Ljava/util/List;" ∈ kq_W := kq_of 441 (by decide +kernel) rfl
theorem kq_442 : Jvm.Cond.lays "java/lang/IllegalArgumentException" "java/lang/Throwable" "detailMessage" "Ljava/lang/String;" ∈ kq_W := kq_of 442 (by decide +kernel) rfl
theorem kq_443 : Jvm.Cond.lays "java/lang/Throwable" "java/lang/Throwable" "detailMessage" "Ljava/lang/String;" ∈ kq_W := kq_of 443 (by decide +kernel) rfl
theorem kq_444 : Jvm.Cond.lays "java/lang/IllegalArgumentException" "java/lang/Throwable" "backtrace" "Ljava/lang/Object;" ∈ kq_W := kq_of 444 (by decide +kernel) rfl
theorem kq_445 : Jvm.Cond.lays "java/lang/Throwable" "java/lang/Throwable" "backtrace" "Ljava/lang/Object;" ∈ kq_W := kq_of 445 (by decide +kernel) rfl
theorem kq_446 : Jvm.Cond.fieldLink "java/lang/Throwable" (198 : Nat) "java/lang/Throwable" "backtrace" "Ljava/lang/Object;" ∈ kq_W := kq_of 446 (by decide +kernel) rfl
theorem kq_448 : Jvm.Cond.instanceMethod ({ cls := "java/lang/Throwable", name := "<init>", desc := "()V" } : Jvm.MethodName) ∈ kq_W := kq_of 448 (by decide +kernel) rfl
theorem kq_449 : Jvm.Cond.code ({ cls := "java/lang/Throwable", name := "<init>", desc := "()V" } : Jvm.MethodName) prog_19_method_1_code (1 : Nat) (Option.none : Option Jvm.ClassFile.FieldType) ∈ kq_W := kq_of 449 (by decide +kernel) rfl
theorem kq_450 : Jvm.Cond.methodLink "java/lang/Throwable" (1 : Nat) ({ cls := "java/lang/Object", name := "<init>", desc := "()V" } : Jvm.MethodName) ∈ kq_W := kq_of 450 (by decide +kernel) rfl
theorem kq_451 : Jvm.Cond.fieldLink "java/lang/Throwable" (13 : Nat) "java/lang/Throwable" "UNASSIGNED_STACK" "[Ljava/lang/StackTraceElement;" ∈ kq_W := kq_of 451 (by decide +kernel) rfl
theorem kq_453 : Jvm.Cond.fieldLink "java/lang/Throwable" (20 : Nat) "java/lang/Throwable" "SUPPRESSED_SENTINEL" "Ljava/util/List;" ∈ kq_W := kq_of 453 (by decide +kernel) rfl
theorem kq_455 : Jvm.Cond.methodLink "java/lang/Throwable" (27 : Nat) ({ cls := "java/lang/Throwable", name := "fillInStackTrace", desc := "()Ljava/lang/Throwable;" } : Jvm.MethodName) ∈ kq_W := kq_of 455 (by decide +kernel) rfl
theorem kq_456 : Jvm.Cond.instanceMethod ({ cls := "java/lang/Throwable", name := "fillInStackTrace", desc := "()Ljava/lang/Throwable;" } : Jvm.MethodName) ∈ kq_W := kq_of 456 (by decide +kernel) rfl
theorem kq_458 : Jvm.Cond.selects "java/lang/IllegalStateException" ({ cls := "java/lang/Throwable", name := "fillInStackTrace", desc := "()Ljava/lang/Throwable;" } : Jvm.MethodName) ({ cls := "java/lang/Throwable", name := "fillInStackTrace", desc := "()Ljava/lang/Throwable;" } : Jvm.MethodName) ∈ kq_W := kq_of 458 (by decide +kernel) rfl
theorem kq_459 : Jvm.Cond.selects "java/lang/IndexOutOfBoundsException" ({ cls := "java/lang/Throwable", name := "fillInStackTrace", desc := "()Ljava/lang/Throwable;" } : Jvm.MethodName) ({ cls := "java/lang/Throwable", name := "fillInStackTrace", desc := "()Ljava/lang/Throwable;" } : Jvm.MethodName) ∈ kq_W := kq_of 459 (by decide +kernel) rfl
theorem kq_461 : Jvm.Cond.methodLink "java/lang/Throwable" (202 : Nat) ({ cls := "java/lang/Throwable", name := "fillInStackTrace", desc := "(I)Ljava/lang/Throwable;" } : Jvm.MethodName) ∈ kq_W := kq_of 461 (by decide +kernel) rfl
theorem kq_463 : Jvm.Cond.instanceMethod ({ cls := "java/lang/Throwable", name := "fillInStackTrace", desc := "(I)Ljava/lang/Throwable;" } : Jvm.MethodName) ∈ kq_W := kq_of 463 (by decide +kernel) rfl
theorem kq_464 : Jvm.Cond.instantiable "java/lang/Throwable" (6 : Nat) ∈ kq_W := kq_of 464 (by decide +kernel) rfl
theorem kq_467 : Jvm.Cond.methodLink "GlossRows" (59 : Nat) ({ cls := "java/lang/IllegalArgumentException", name := "<init>", desc := "(Ljava/lang/String;)V" } : Jvm.MethodName) ∈ kq_W := kq_of 467 (by decide +kernel) rfl
theorem kq_468 : Jvm.Cond.instanceMethod ({ cls := "java/lang/IllegalArgumentException", name := "<init>", desc := "(Ljava/lang/String;)V" } : Jvm.MethodName) ∈ kq_W := kq_of 468 (by decide +kernel) rfl
theorem kq_469 : Jvm.Cond.code ({ cls := "java/lang/IllegalArgumentException", name := "<init>", desc := "(Ljava/lang/String;)V" } : Jvm.MethodName) prog_13_method_2_code (2 : Nat) (Option.none : Option Jvm.ClassFile.FieldType) ∈ kq_W := kq_of 469 (by decide +kernel) rfl
theorem kq_470 : Jvm.Cond.methodLink "java/lang/IllegalArgumentException" (7 : Nat) ({ cls := "java/lang/RuntimeException", name := "<init>", desc := "(Ljava/lang/String;)V" } : Jvm.MethodName) ∈ kq_W := kq_of 470 (by decide +kernel) rfl
theorem kq_471 : Jvm.Cond.instanceMethod ({ cls := "java/lang/RuntimeException", name := "<init>", desc := "(Ljava/lang/String;)V" } : Jvm.MethodName) ∈ kq_W := kq_of 471 (by decide +kernel) rfl
theorem kq_472 : Jvm.Cond.code ({ cls := "java/lang/RuntimeException", name := "<init>", desc := "(Ljava/lang/String;)V" } : Jvm.MethodName) prog_17_method_2_code (2 : Nat) (Option.none : Option Jvm.ClassFile.FieldType) ∈ kq_W := kq_of 472 (by decide +kernel) rfl
theorem kq_473 : Jvm.Cond.methodLink "java/lang/RuntimeException" (7 : Nat) ({ cls := "java/lang/Exception", name := "<init>", desc := "(Ljava/lang/String;)V" } : Jvm.MethodName) ∈ kq_W := kq_of 473 (by decide +kernel) rfl
theorem kq_474 : Jvm.Cond.instanceMethod ({ cls := "java/lang/Exception", name := "<init>", desc := "(Ljava/lang/String;)V" } : Jvm.MethodName) ∈ kq_W := kq_of 474 (by decide +kernel) rfl
theorem kq_475 : Jvm.Cond.code ({ cls := "java/lang/Exception", name := "<init>", desc := "(Ljava/lang/String;)V" } : Jvm.MethodName) prog_12_method_2_code (2 : Nat) (Option.none : Option Jvm.ClassFile.FieldType) ∈ kq_W := kq_of 475 (by decide +kernel) rfl
theorem kq_476 : Jvm.Cond.methodLink "java/lang/Exception" (7 : Nat) ({ cls := "java/lang/Throwable", name := "<init>", desc := "(Ljava/lang/String;)V" } : Jvm.MethodName) ∈ kq_W := kq_of 476 (by decide +kernel) rfl
theorem kq_477 : Jvm.Cond.instanceMethod ({ cls := "java/lang/Throwable", name := "<init>", desc := "(Ljava/lang/String;)V" } : Jvm.MethodName) ∈ kq_W := kq_of 477 (by decide +kernel) rfl
theorem kq_478 : Jvm.Cond.code ({ cls := "java/lang/Throwable", name := "<init>", desc := "(Ljava/lang/String;)V" } : Jvm.MethodName) prog_19_method_2_code (2 : Nat) (Option.none : Option Jvm.ClassFile.FieldType) ∈ kq_W := kq_of 478 (by decide +kernel) rfl
theorem kq_479 : Jvm.Cond.fieldLink "java/lang/Throwable" (198 : Nat) "java/lang/Throwable" "backtrace" "Ljava/lang/Object;" ∈ kq_W := kq_of 479 (by decide +kernel) rfl
theorem kq_480 : Jvm.Cond.fieldLink "java/lang/Throwable" (31 : Nat) "java/lang/Throwable" "detailMessage" "Ljava/lang/String;" ∈ kq_W := kq_of 480 (by decide +kernel) rfl
theorem kq_481 : Jvm.Cond.fieldLink "java/lang/Throwable" (7 : Nat) "java/lang/Throwable" "cause" "Ljava/lang/Throwable;" ∈ kq_W := kq_of 481 (by decide +kernel) rfl
theorem kq_482 : Jvm.Cond.fieldLink "java/lang/Throwable" (17 : Nat) "java/lang/Throwable" "stackTrace" "[Ljava/lang/StackTraceElement;" ∈ kq_W := kq_of 482 (by decide +kernel) rfl
theorem kq_483 : Jvm.Cond.fieldLink "java/lang/Throwable" (24 : Nat) "java/lang/Throwable" "suppressedExceptions" "Ljava/util/List;" ∈ kq_W := kq_of 483 (by decide +kernel) rfl
theorem kq_488 : Jvm.Cond.lays "java/lang/IllegalArgumentException" "java/lang/Throwable" "depth" "I" ∈ kq_W := kq_of 488 (by decide +kernel) rfl
theorem kq_493 : Jvm.Cond.classLink "GlossRows" (66 : Nat) "java/lang/IllegalStateException" ∈ kq_W := kq_of 493 (by decide +kernel) rfl
theorem kq_494 : Jvm.Cond.instantiable "java/lang/IllegalStateException" (6 : Nat) ∈ kq_W := kq_of 494 (by decide +kernel) rfl
theorem kq_496 : Jvm.Cond.selects "java/lang/IllegalStateException" ({ cls := "java/lang/Throwable", name := "fillInStackTrace", desc := "(I)Ljava/lang/Throwable;" } : Jvm.MethodName) ({ cls := "java/lang/Throwable", name := "fillInStackTrace", desc := "(I)Ljava/lang/Throwable;" } : Jvm.MethodName) ∈ kq_W := kq_of 496 (by decide +kernel) rfl
theorem kq_497 : Jvm.Cond.lays "java/lang/IllegalStateException" "java/lang/Throwable" "cause" "Ljava/lang/Throwable;" ∈ kq_W := kq_of 497 (by decide +kernel) rfl
theorem kq_498 : Jvm.Cond.lays "java/lang/IllegalStateException" "java/lang/Throwable" "stackTrace" "[Ljava/lang/StackTraceElement;" ∈ kq_W := kq_of 498 (by decide +kernel) rfl
theorem kq_499 : Jvm.Cond.lays "java/lang/IllegalStateException" "java/lang/Throwable" "suppressedExceptions" "Ljava/util/List;" ∈ kq_W := kq_of 499 (by decide +kernel) rfl
theorem kq_500 : Jvm.Cond.lays "java/lang/IllegalStateException" "java/lang/Throwable" "detailMessage" "Ljava/lang/String;" ∈ kq_W := kq_of 500 (by decide +kernel) rfl
theorem kq_501 : Jvm.Cond.lays "java/lang/IllegalStateException" "java/lang/Throwable" "backtrace" "Ljava/lang/Object;" ∈ kq_W := kq_of 501 (by decide +kernel) rfl
theorem kq_503 : Jvm.Cond.methodLink "GlossRows" (70 : Nat) ({ cls := "java/lang/IllegalStateException", name := "<init>", desc := "(Ljava/lang/String;)V" } : Jvm.MethodName) ∈ kq_W := kq_of 503 (by decide +kernel) rfl
theorem kq_504 : Jvm.Cond.instanceMethod ({ cls := "java/lang/IllegalStateException", name := "<init>", desc := "(Ljava/lang/String;)V" } : Jvm.MethodName) ∈ kq_W := kq_of 504 (by decide +kernel) rfl
theorem kq_505 : Jvm.Cond.code ({ cls := "java/lang/IllegalStateException", name := "<init>", desc := "(Ljava/lang/String;)V" } : Jvm.MethodName) prog_14_method_2_code (2 : Nat) (Option.none : Option Jvm.ClassFile.FieldType) ∈ kq_W := kq_of 505 (by decide +kernel) rfl
theorem kq_506 : Jvm.Cond.methodLink "java/lang/IllegalStateException" (7 : Nat) ({ cls := "java/lang/RuntimeException", name := "<init>", desc := "(Ljava/lang/String;)V" } : Jvm.MethodName) ∈ kq_W := kq_of 506 (by decide +kernel) rfl
theorem kq_507 : Jvm.Cond.lays "java/lang/IllegalStateException" "java/lang/Throwable" "depth" "I" ∈ kq_W := kq_of 507 (by decide +kernel) rfl
theorem kq_509 : Jvm.Cond.methodLink "GlossRows" (71 : Nat) ({ cls := "GlossRows$Text", name := "add", desc := "(I)V" } : Jvm.MethodName) ∈ kq_W := kq_of 509 (by decide +kernel) rfl
theorem kq_510 : Jvm.Cond.instanceMethod ({ cls := "GlossRows$Text", name := "add", desc := "(I)V" } : Jvm.MethodName) ∈ kq_W := kq_of 510 (by decide +kernel) rfl
theorem kq_511 : Jvm.Cond.selects "GlossRows$Text" ({ cls := "GlossRows$Text", name := "add", desc := "(I)V" } : Jvm.MethodName) ({ cls := "GlossRows$Text", name := "add", desc := "(I)V" } : Jvm.MethodName) ∈ kq_W := kq_of 511 (by decide +kernel) rfl
theorem kq_512 : Jvm.Cond.code ({ cls := "GlossRows$Text", name := "add", desc := "(I)V" } : Jvm.MethodName) prog_8_method_2_code (2 : Nat) (Option.none : Option Jvm.ClassFile.FieldType) ∈ kq_W := kq_of 512 (by decide +kernel) rfl
theorem kq_513 : Jvm.Cond.methodLink "GlossRowsLaw" (122 : Nat) ({ cls := "GlossRowsLaw", name := "load", desc := "(LGlossRows;[J)I" } : Jvm.MethodName) ∈ kq_W := kq_of 513 (by decide +kernel) rfl
theorem kq_514 : Jvm.Cond.static ({ cls := "GlossRowsLaw", name := "load", desc := "(LGlossRows;[J)I" } : Jvm.MethodName) ∈ kq_W := kq_of 514 (by decide +kernel) rfl
theorem kq_516 : Jvm.Cond.methodLink "GlossRowsLaw" (17 : Nat) ({ cls := "GlossRows", name := "load", desc := "()I" } : Jvm.MethodName) ∈ kq_W := kq_of 516 (by decide +kernel) rfl
theorem kq_517 : Jvm.Cond.instanceMethod ({ cls := "GlossRows", name := "load", desc := "()I" } : Jvm.MethodName) ∈ kq_W := kq_of 517 (by decide +kernel) rfl
theorem kq_518 : Jvm.Cond.selects "GlossRows" ({ cls := "GlossRows", name := "load", desc := "()I" } : Jvm.MethodName) ({ cls := "GlossRows", name := "load", desc := "()I" } : Jvm.MethodName) ∈ kq_W := kq_of 518 (by decide +kernel) rfl
theorem kq_519 : Jvm.Cond.code ({ cls := "GlossRows", name := "load", desc := "()I" } : Jvm.MethodName) prog_1_method_5_code (2 : Nat) (Option.some Jvm.ClassFile.FieldType.int) ∈ kq_W := kq_of 519 (by decide +kernel) rfl
theorem kq_521 : Jvm.Cond.methodLink "GlossRows" (81 : Nat) ({ cls := "GlossRows$Page", name := "reset", desc := "()V" } : Jvm.MethodName) ∈ kq_W := kq_of 521 (by decide +kernel) rfl
theorem kq_522 : Jvm.Cond.methodLink "GlossRows" (84 : Nat) ({ cls := "GlossRows$Page", name := "addWords", desc := "(LGlossRows$Reader;I)V" } : Jvm.MethodName) ∈ kq_W := kq_of 522 (by decide +kernel) rfl
theorem kq_523 : Jvm.Cond.instanceMethod ({ cls := "GlossRows$Page", name := "addWords", desc := "(LGlossRows$Reader;I)V" } : Jvm.MethodName) ∈ kq_W := kq_of 523 (by decide +kernel) rfl
theorem kq_524 : Jvm.Cond.selects "GlossRows$Page" ({ cls := "GlossRows$Page", name := "addWords", desc := "(LGlossRows$Reader;I)V" } : Jvm.MethodName) ({ cls := "GlossRows$Page", name := "addWords", desc := "(LGlossRows$Reader;I)V" } : Jvm.MethodName) ∈ kq_W := kq_of 524 (by decide +kernel) rfl
theorem kq_525 : Jvm.Cond.code ({ cls := "GlossRows$Page", name := "addWords", desc := "(LGlossRows$Reader;I)V" } : Jvm.MethodName) prog_6_method_6_code (5 : Nat) (Option.none : Option Jvm.ClassFile.FieldType) ∈ kq_W := kq_of 525 (by decide +kernel) rfl
theorem kq_526 : Jvm.Cond.methodLink "GlossRows" (88 : Nat) ({ cls := "GlossRows$History", name := "clear", desc := "()V" } : Jvm.MethodName) ∈ kq_W := kq_of 526 (by decide +kernel) rfl
theorem kq_527 : Jvm.Cond.instanceMethod ({ cls := "GlossRows$History", name := "clear", desc := "()V" } : Jvm.MethodName) ∈ kq_W := kq_of 527 (by decide +kernel) rfl
theorem kq_528 : Jvm.Cond.selects "GlossRows$History" ({ cls := "GlossRows$History", name := "clear", desc := "()V" } : Jvm.MethodName) ({ cls := "GlossRows$History", name := "clear", desc := "()V" } : Jvm.MethodName) ∈ kq_W := kq_of 528 (by decide +kernel) rfl
theorem kq_529 : Jvm.Cond.code ({ cls := "GlossRows$History", name := "clear", desc := "()V" } : Jvm.MethodName) prog_2_method_2_code (1 : Nat) (Option.none : Option Jvm.ClassFile.FieldType) ∈ kq_W := kq_of 529 (by decide +kernel) rfl
theorem kq_530 : Jvm.Cond.methodLink "GlossRowsLaw" (126 : Nat) ({ cls := "GlossRowsLaw", name := "about", desc := "(LGlossRows;I[J)I" } : Jvm.MethodName) ∈ kq_W := kq_of 530 (by decide +kernel) rfl
theorem kq_531 : Jvm.Cond.static ({ cls := "GlossRowsLaw", name := "about", desc := "(LGlossRows;I[J)I" } : Jvm.MethodName) ∈ kq_W := kq_of 531 (by decide +kernel) rfl
theorem kq_533 : Jvm.Cond.methodLink "GlossRowsLaw" (21 : Nat) ({ cls := "GlossRows", name := "about", desc := "(I)I" } : Jvm.MethodName) ∈ kq_W := kq_of 533 (by decide +kernel) rfl
theorem kq_534 : Jvm.Cond.instanceMethod ({ cls := "GlossRows", name := "about", desc := "(I)I" } : Jvm.MethodName) ∈ kq_W := kq_of 534 (by decide +kernel) rfl
theorem kq_535 : Jvm.Cond.selects "GlossRows" ({ cls := "GlossRows", name := "about", desc := "(I)I" } : Jvm.MethodName) ({ cls := "GlossRows", name := "about", desc := "(I)I" } : Jvm.MethodName) ∈ kq_W := kq_of 535 (by decide +kernel) rfl
theorem kq_536 : Jvm.Cond.code ({ cls := "GlossRows", name := "about", desc := "(I)I" } : Jvm.MethodName) prog_1_method_6_code (2 : Nat) (Option.some Jvm.ClassFile.FieldType.int) ∈ kq_W := kq_of 536 (by decide +kernel) rfl
theorem kq_537 : Jvm.Cond.methodLink "GlossRows" (94 : Nat) ({ cls := "GlossRows$Page", name := "countParts", desc := "()I" } : Jvm.MethodName) ∈ kq_W := kq_of 537 (by decide +kernel) rfl
theorem kq_538 : Jvm.Cond.instanceMethod ({ cls := "GlossRows$Page", name := "countParts", desc := "()I" } : Jvm.MethodName) ∈ kq_W := kq_of 538 (by decide +kernel) rfl
theorem kq_539 : Jvm.Cond.selects "GlossRows$Page" ({ cls := "GlossRows$Page", name := "countParts", desc := "()I" } : Jvm.MethodName) ({ cls := "GlossRows$Page", name := "countParts", desc := "()I" } : Jvm.MethodName) ∈ kq_W := kq_of 539 (by decide +kernel) rfl
theorem kq_540 : Jvm.Cond.code ({ cls := "GlossRows$Page", name := "countParts", desc := "()I" } : Jvm.MethodName) prog_6_method_13_code (3 : Nat) (Option.some Jvm.ClassFile.FieldType.int) ∈ kq_W := kq_of 540 (by decide +kernel) rfl
theorem kq_541 : Jvm.Cond.methodLink "GlossRows" (98 : Nat) ({ cls := "GlossRows$Page", name := "countGaps", desc := "()I" } : Jvm.MethodName) ∈ kq_W := kq_of 541 (by decide +kernel) rfl
theorem kq_542 : Jvm.Cond.instanceMethod ({ cls := "GlossRows$Page", name := "countGaps", desc := "()I" } : Jvm.MethodName) ∈ kq_W := kq_of 542 (by decide +kernel) rfl
theorem kq_543 : Jvm.Cond.selects "GlossRows$Page" ({ cls := "GlossRows$Page", name := "countGaps", desc := "()I" } : Jvm.MethodName) ({ cls := "GlossRows$Page", name := "countGaps", desc := "()I" } : Jvm.MethodName) ∈ kq_W := kq_of 543 (by decide +kernel) rfl
theorem kq_544 : Jvm.Cond.code ({ cls := "GlossRows$Page", name := "countGaps", desc := "()I" } : Jvm.MethodName) prog_6_method_14_code (3 : Nat) (Option.some Jvm.ClassFile.FieldType.int) ∈ kq_W := kq_of 544 (by decide +kernel) rfl
theorem kq_545 : Jvm.Cond.methodLink "GlossRows$Page" (87 : Nat) ({ cls := "GlossRows$Word", name := "countGaps", desc := "()I" } : Jvm.MethodName) ∈ kq_W := kq_of 545 (by decide +kernel) rfl
theorem kq_546 : Jvm.Cond.instanceMethod ({ cls := "GlossRows$Word", name := "countGaps", desc := "()I" } : Jvm.MethodName) ∈ kq_W := kq_of 546 (by decide +kernel) rfl
theorem kq_547 : Jvm.Cond.selects "GlossRows$Word" ({ cls := "GlossRows$Word", name := "countGaps", desc := "()I" } : Jvm.MethodName) ({ cls := "GlossRows$Word", name := "countGaps", desc := "()I" } : Jvm.MethodName) ∈ kq_W := kq_of 547 (by decide +kernel) rfl
theorem kq_548 : Jvm.Cond.code ({ cls := "GlossRows$Word", name := "countGaps", desc := "()I" } : Jvm.MethodName) prog_9_method_8_code (3 : Nat) (Option.some Jvm.ClassFile.FieldType.int) ∈ kq_W := kq_of 548 (by decide +kernel) rfl
theorem kq_549 : Jvm.Cond.methodLink "GlossRows" (101 : Nat) ({ cls := "GlossRows$Page", name := "countSentences", desc := "()I" } : Jvm.MethodName) ∈ kq_W := kq_of 549 (by decide +kernel) rfl
theorem kq_550 : Jvm.Cond.instanceMethod ({ cls := "GlossRows$Page", name := "countSentences", desc := "()I" } : Jvm.MethodName) ∈ kq_W := kq_of 550 (by decide +kernel) rfl
theorem kq_551 : Jvm.Cond.selects "GlossRows$Page" ({ cls := "GlossRows$Page", name := "countSentences", desc := "()I" } : Jvm.MethodName) ({ cls := "GlossRows$Page", name := "countSentences", desc := "()I" } : Jvm.MethodName) ∈ kq_W := kq_of 551 (by decide +kernel) rfl
theorem kq_552 : Jvm.Cond.code ({ cls := "GlossRows$Page", name := "countSentences", desc := "()I" } : Jvm.MethodName) prog_6_method_15_code (3 : Nat) (Option.some Jvm.ClassFile.FieldType.int) ∈ kq_W := kq_of 552 (by decide +kernel) rfl
theorem kq_553 : Jvm.Cond.methodLink "GlossRows" (117 : Nat) ({ cls := "GlossRows$Layout", name := "countWider", desc := "(LGlossRows$Page;I)I" } : Jvm.MethodName) ∈ kq_W := kq_of 553 (by decide +kernel) rfl
theorem kq_554 : Jvm.Cond.instanceMethod ({ cls := "GlossRows$Layout", name := "countWider", desc := "(LGlossRows$Page;I)I" } : Jvm.MethodName) ∈ kq_W := kq_of 554 (by decide +kernel) rfl
theorem kq_555 : Jvm.Cond.selects "GlossRows$Layout" ({ cls := "GlossRows$Layout", name := "countWider", desc := "(LGlossRows$Page;I)I" } : Jvm.MethodName) ({ cls := "GlossRows$Layout", name := "countWider", desc := "(LGlossRows$Page;I)I" } : Jvm.MethodName) ∈ kq_W := kq_of 555 (by decide +kernel) rfl
theorem kq_556 : Jvm.Cond.code ({ cls := "GlossRows$Layout", name := "countWider", desc := "(LGlossRows$Page;I)I" } : Jvm.MethodName) prog_3_method_5_code (5 : Nat) (Option.some Jvm.ClassFile.FieldType.int) ∈ kq_W := kq_of 556 (by decide +kernel) rfl
theorem kq_557 : Jvm.Cond.methodLink "GlossRows" (130 : Nat) ({ cls := "GlossRows$Page", name := "countDiffering", desc := "()I" } : Jvm.MethodName) ∈ kq_W := kq_of 557 (by decide +kernel) rfl
theorem kq_558 : Jvm.Cond.instanceMethod ({ cls := "GlossRows$Page", name := "countDiffering", desc := "()I" } : Jvm.MethodName) ∈ kq_W := kq_of 558 (by decide +kernel) rfl
theorem kq_559 : Jvm.Cond.selects "GlossRows$Page" ({ cls := "GlossRows$Page", name := "countDiffering", desc := "()I" } : Jvm.MethodName) ({ cls := "GlossRows$Page", name := "countDiffering", desc := "()I" } : Jvm.MethodName) ∈ kq_W := kq_of 559 (by decide +kernel) rfl
theorem kq_560 : Jvm.Cond.code ({ cls := "GlossRows$Page", name := "countDiffering", desc := "()I" } : Jvm.MethodName) prog_6_method_16_code (7 : Nat) (Option.some Jvm.ClassFile.FieldType.int) ∈ kq_W := kq_of 560 (by decide +kernel) rfl
theorem kq_562 : Jvm.Cond.methodLink "GlossRowsLaw" (129 : Nat) ({ cls := "GlossRowsLaw", name := "word", desc := "(LGlossRows;II[J)I" } : Jvm.MethodName) ∈ kq_W := kq_of 562 (by decide +kernel) rfl
theorem kq_563 : Jvm.Cond.static ({ cls := "GlossRowsLaw", name := "word", desc := "(LGlossRows;II[J)I" } : Jvm.MethodName) ∈ kq_W := kq_of 563 (by decide +kernel) rfl
theorem kq_565 : Jvm.Cond.classLink "GlossRowsLaw" (28 : Nat) "java/lang/IndexOutOfBoundsException" ∈ kq_W := kq_of 565 (by decide +kernel) rfl
theorem kq_566 : Jvm.Cond.methodLink "GlossRowsLaw" (24 : Nat) ({ cls := "GlossRows", name := "word", desc := "(II)I" } : Jvm.MethodName) ∈ kq_W := kq_of 566 (by decide +kernel) rfl
theorem kq_567 : Jvm.Cond.instanceMethod ({ cls := "GlossRows", name := "word", desc := "(II)I" } : Jvm.MethodName) ∈ kq_W := kq_of 567 (by decide +kernel) rfl
theorem kq_568 : Jvm.Cond.selects "GlossRows" ({ cls := "GlossRows", name := "word", desc := "(II)I" } : Jvm.MethodName) ({ cls := "GlossRows", name := "word", desc := "(II)I" } : Jvm.MethodName) ∈ kq_W := kq_of 568 (by decide +kernel) rfl
theorem kq_569 : Jvm.Cond.code ({ cls := "GlossRows", name := "word", desc := "(II)I" } : Jvm.MethodName) prog_1_method_7_code (3 : Nat) (Option.some Jvm.ClassFile.FieldType.int) ∈ kq_W := kq_of 569 (by decide +kernel) rfl
theorem kq_570 : Jvm.Cond.methodLink "GlossRows" (141 : Nat) ({ cls := "GlossRows", name := "requireWord", desc := "(I)V" } : Jvm.MethodName) ∈ kq_W := kq_of 570 (by decide +kernel) rfl
theorem kq_572 : Jvm.Cond.instanceMethod ({ cls := "GlossRows", name := "requireWord", desc := "(I)V" } : Jvm.MethodName) ∈ kq_W := kq_of 572 (by decide +kernel) rfl
theorem kq_573 : Jvm.Cond.code ({ cls := "GlossRows", name := "requireWord", desc := "(I)V" } : Jvm.MethodName) prog_1_method_33_code (2 : Nat) (Option.none : Option Jvm.ClassFile.FieldType) ∈ kq_W := kq_of 573 (by decide +kernel) rfl
theorem kq_574 : Jvm.Cond.methodLink "GlossRows" (346 : Nat) ({ cls := "GlossRows$Page", name := "hasWord", desc := "(I)Z" } : Jvm.MethodName) ∈ kq_W := kq_of 574 (by decide +kernel) rfl
theorem kq_575 : Jvm.Cond.instanceMethod ({ cls := "GlossRows$Page", name := "hasWord", desc := "(I)Z" } : Jvm.MethodName) ∈ kq_W := kq_of 575 (by decide +kernel) rfl
theorem kq_576 : Jvm.Cond.selects "GlossRows$Page" ({ cls := "GlossRows$Page", name := "hasWord", desc := "(I)Z" } : Jvm.MethodName) ({ cls := "GlossRows$Page", name := "hasWord", desc := "(I)Z" } : Jvm.MethodName) ∈ kq_W := kq_of 576 (by decide +kernel) rfl
theorem kq_577 : Jvm.Cond.code ({ cls := "GlossRows$Page", name := "hasWord", desc := "(I)Z" } : Jvm.MethodName) prog_6_method_4_code (2 : Nat) (Option.some Jvm.ClassFile.FieldType.boolean) ∈ kq_W := kq_of 577 (by decide +kernel) rfl
theorem kq_578 : Jvm.Cond.classLink "GlossRows" (228 : Nat) "java/lang/IndexOutOfBoundsException" ∈ kq_W := kq_of 578 (by decide +kernel) rfl
theorem kq_579 : Jvm.Cond.instantiable "java/lang/IndexOutOfBoundsException" (6 : Nat) ∈ kq_W := kq_of 579 (by decide +kernel) rfl
theorem kq_581 : Jvm.Cond.selects "java/lang/IndexOutOfBoundsException" ({ cls := "java/lang/Throwable", name := "fillInStackTrace", desc := "(I)Ljava/lang/Throwable;" } : Jvm.MethodName) ({ cls := "java/lang/Throwable", name := "fillInStackTrace", desc := "(I)Ljava/lang/Throwable;" } : Jvm.MethodName) ∈ kq_W := kq_of 581 (by decide +kernel) rfl
theorem kq_582 : Jvm.Cond.lays "java/lang/IndexOutOfBoundsException" "java/lang/Throwable" "cause" "Ljava/lang/Throwable;" ∈ kq_W := kq_of 582 (by decide +kernel) rfl
theorem kq_583 : Jvm.Cond.lays "java/lang/IndexOutOfBoundsException" "java/lang/Throwable" "stackTrace" "[Ljava/lang/StackTraceElement;" ∈ kq_W := kq_of 583 (by decide +kernel) rfl
theorem kq_584 : Jvm.Cond.lays "java/lang/IndexOutOfBoundsException" "java/lang/Throwable" "suppressedExceptions" "Ljava/util/List;" ∈ kq_W := kq_of 584 (by decide +kernel) rfl
theorem kq_585 : Jvm.Cond.lays "java/lang/IndexOutOfBoundsException" "java/lang/Throwable" "detailMessage" "Ljava/lang/String;" ∈ kq_W := kq_of 585 (by decide +kernel) rfl
theorem kq_586 : Jvm.Cond.lays "java/lang/IndexOutOfBoundsException" "java/lang/Throwable" "backtrace" "Ljava/lang/Object;" ∈ kq_W := kq_of 586 (by decide +kernel) rfl
theorem kq_588 : Jvm.Cond.methodLink "GlossRows" (232 : Nat) ({ cls := "java/lang/IndexOutOfBoundsException", name := "<init>", desc := "(Ljava/lang/String;)V" } : Jvm.MethodName) ∈ kq_W := kq_of 588 (by decide +kernel) rfl
theorem kq_589 : Jvm.Cond.instanceMethod ({ cls := "java/lang/IndexOutOfBoundsException", name := "<init>", desc := "(Ljava/lang/String;)V" } : Jvm.MethodName) ∈ kq_W := kq_of 589 (by decide +kernel) rfl
theorem kq_590 : Jvm.Cond.code ({ cls := "java/lang/IndexOutOfBoundsException", name := "<init>", desc := "(Ljava/lang/String;)V" } : Jvm.MethodName) prog_15_method_2_code (2 : Nat) (Option.none : Option Jvm.ClassFile.FieldType) ∈ kq_W := kq_of 590 (by decide +kernel) rfl
theorem kq_591 : Jvm.Cond.methodLink "java/lang/IndexOutOfBoundsException" (7 : Nat) ({ cls := "java/lang/RuntimeException", name := "<init>", desc := "(Ljava/lang/String;)V" } : Jvm.MethodName) ∈ kq_W := kq_of 591 (by decide +kernel) rfl
theorem kq_592 : Jvm.Cond.lays "java/lang/IndexOutOfBoundsException" "java/lang/Throwable" "depth" "I" ∈ kq_W := kq_of 592 (by decide +kernel) rfl
theorem kq_594 : Jvm.Cond.methodLink "GlossRows" (151 : Nat) ({ cls := "GlossRows$Word", name := "width", desc := "(I)I" } : Jvm.MethodName) ∈ kq_W := kq_of 594 (by decide +kernel) rfl
theorem kq_595 : Jvm.Cond.methodLink "GlossRows" (168 : Nat) ({ cls := "GlossRows$Word", name := "countGaps", desc := "()I" } : Jvm.MethodName) ∈ kq_W := kq_of 595 (by decide +kernel) rfl
theorem kq_597 : Jvm.Cond.methodLink "GlossRowsLaw" (133 : Nat) ({ cls := "GlossRowsLaw", name := "part", desc := "(LGlossRows;III[J)I" } : Jvm.MethodName) ∈ kq_W := kq_of 597 (by decide +kernel) rfl
theorem kq_598 : Jvm.Cond.static ({ cls := "GlossRowsLaw", name := "part", desc := "(LGlossRows;III[J)I" } : Jvm.MethodName) ∈ kq_W := kq_of 598 (by decide +kernel) rfl
theorem kq_600 : Jvm.Cond.methodLink "GlossRowsLaw" (30 : Nat) ({ cls := "GlossRows", name := "part", desc := "(III)I" } : Jvm.MethodName) ∈ kq_W := kq_of 600 (by decide +kernel) rfl
theorem kq_601 : Jvm.Cond.instanceMethod ({ cls := "GlossRows", name := "part", desc := "(III)I" } : Jvm.MethodName) ∈ kq_W := kq_of 601 (by decide +kernel) rfl
theorem kq_602 : Jvm.Cond.selects "GlossRows" ({ cls := "GlossRows", name := "part", desc := "(III)I" } : Jvm.MethodName) ({ cls := "GlossRows", name := "part", desc := "(III)I" } : Jvm.MethodName) ∈ kq_W := kq_of 602 (by decide +kernel) rfl
theorem kq_603 : Jvm.Cond.code ({ cls := "GlossRows", name := "part", desc := "(III)I" } : Jvm.MethodName) prog_1_method_8_code (4 : Nat) (Option.some Jvm.ClassFile.FieldType.int) ∈ kq_W := kq_of 603 (by decide +kernel) rfl
theorem kq_604 : Jvm.Cond.methodLink "GlossRows" (174 : Nat) ({ cls := "GlossRows", name := "requirePart", desc := "(II)V" } : Jvm.MethodName) ∈ kq_W := kq_of 604 (by decide +kernel) rfl
theorem kq_606 : Jvm.Cond.instanceMethod ({ cls := "GlossRows", name := "requirePart", desc := "(II)V" } : Jvm.MethodName) ∈ kq_W := kq_of 606 (by decide +kernel) rfl
theorem kq_607 : Jvm.Cond.code ({ cls := "GlossRows", name := "requirePart", desc := "(II)V" } : Jvm.MethodName) prog_1_method_34_code (3 : Nat) (Option.none : Option Jvm.ClassFile.FieldType) ∈ kq_W := kq_of 607 (by decide +kernel) rfl
theorem kq_608 : Jvm.Cond.methodLink "GlossRows" (351 : Nat) ({ cls := "GlossRows$Page", name := "hasPart", desc := "(II)Z" } : Jvm.MethodName) ∈ kq_W := kq_of 608 (by decide +kernel) rfl
theorem kq_609 : Jvm.Cond.instanceMethod ({ cls := "GlossRows$Page", name := "hasPart", desc := "(II)Z" } : Jvm.MethodName) ∈ kq_W := kq_of 609 (by decide +kernel) rfl
theorem kq_610 : Jvm.Cond.selects "GlossRows$Page" ({ cls := "GlossRows$Page", name := "hasPart", desc := "(II)Z" } : Jvm.MethodName) ({ cls := "GlossRows$Page", name := "hasPart", desc := "(II)Z" } : Jvm.MethodName) ∈ kq_W := kq_of 610 (by decide +kernel) rfl
theorem kq_611 : Jvm.Cond.code ({ cls := "GlossRows$Page", name := "hasPart", desc := "(II)Z" } : Jvm.MethodName) prog_6_method_5_code (3 : Nat) (Option.some Jvm.ClassFile.FieldType.boolean) ∈ kq_W := kq_of 611 (by decide +kernel) rfl
theorem kq_612 : Jvm.Cond.methodLink "GlossRows$Page" (51 : Nat) ({ cls := "GlossRows$Page", name := "hasWord", desc := "(I)Z" } : Jvm.MethodName) ∈ kq_W := kq_of 612 (by decide +kernel) rfl
theorem kq_614 : Jvm.Cond.methodLink "GlossRows" (182 : Nat) ({ cls := "GlossRows$Letters", name := "length", desc := "(J)I" } : Jvm.MethodName) ∈ kq_W := kq_of 614 (by decide +kernel) rfl
theorem kq_615 : Jvm.Cond.methodLink "GlossRows" (193 : Nat) ({ cls := "GlossRows$Lexicon", name := "find", desc := "(J)I" } : Jvm.MethodName) ∈ kq_W := kq_of 615 (by decide +kernel) rfl
theorem kq_617 : Jvm.Cond.methodLink "GlossRowsLaw" (137 : Nat) ({ cls := "GlossRowsLaw", name := "letter", desc := "(LGlossRows;IIZI[J)I" } : Jvm.MethodName) ∈ kq_W := kq_of 617 (by decide +kernel) rfl
theorem kq_618 : Jvm.Cond.static ({ cls := "GlossRowsLaw", name := "letter", desc := "(LGlossRows;IIZI[J)I" } : Jvm.MethodName) ∈ kq_W := kq_of 618 (by decide +kernel) rfl
theorem kq_620 : Jvm.Cond.methodLink "GlossRowsLaw" (34 : Nat) ({ cls := "GlossRows", name := "letter", desc := "(IIZI)I" } : Jvm.MethodName) ∈ kq_W := kq_of 620 (by decide +kernel) rfl
theorem kq_621 : Jvm.Cond.instanceMethod ({ cls := "GlossRows", name := "letter", desc := "(IIZI)I" } : Jvm.MethodName) ∈ kq_W := kq_of 621 (by decide +kernel) rfl
theorem kq_622 : Jvm.Cond.selects "GlossRows" ({ cls := "GlossRows", name := "letter", desc := "(IIZI)I" } : Jvm.MethodName) ({ cls := "GlossRows", name := "letter", desc := "(IIZI)I" } : Jvm.MethodName) ∈ kq_W := kq_of 622 (by decide +kernel) rfl
theorem kq_623 : Jvm.Cond.code ({ cls := "GlossRows", name := "letter", desc := "(IIZI)I" } : Jvm.MethodName) prog_1_method_9_code (5 : Nat) (Option.some Jvm.ClassFile.FieldType.int) ∈ kq_W := kq_of 623 (by decide +kernel) rfl
theorem kq_624 : Jvm.Cond.methodLink "GlossRows" (198 : Nat) ({ cls := "GlossRows", name := "requireNotNegative", desc := "(I)V" } : Jvm.MethodName) ∈ kq_W := kq_of 624 (by decide +kernel) rfl
theorem kq_626 : Jvm.Cond.instanceMethod ({ cls := "GlossRows", name := "requireNotNegative", desc := "(I)V" } : Jvm.MethodName) ∈ kq_W := kq_of 626 (by decide +kernel) rfl
theorem kq_627 : Jvm.Cond.code ({ cls := "GlossRows", name := "requireNotNegative", desc := "(I)V" } : Jvm.MethodName) prog_1_method_38_code (2 : Nat) (Option.none : Option Jvm.ClassFile.FieldType) ∈ kq_W := kq_of 627 (by decide +kernel) rfl
theorem kq_629 : Jvm.Cond.methodLink "GlossRows" (201 : Nat) ({ cls := "GlossRows$Letters", name := "code", desc := "(JI)I" } : Jvm.MethodName) ∈ kq_W := kq_of 629 (by decide +kernel) rfl
theorem kq_630 : Jvm.Cond.static ({ cls := "GlossRows$Letters", name := "code", desc := "(JI)I" } : Jvm.MethodName) ∈ kq_W := kq_of 630 (by decide +kernel) rfl
theorem kq_631 : Jvm.Cond.code ({ cls := "GlossRows$Letters", name := "code", desc := "(JI)I" } : Jvm.MethodName) prog_4_method_3_code (3 : Nat) (Option.some Jvm.ClassFile.FieldType.int) ∈ kq_W := kq_of 631 (by decide +kernel) rfl
theorem kq_632 : Jvm.Cond.methodLink "GlossRowsLaw" (141 : Nat) ({ cls := "GlossRowsLaw", name := "entry", desc := "(LGlossRows;IZI[J)I" } : Jvm.MethodName) ∈ kq_W := kq_of 632 (by decide +kernel) rfl
theorem kq_633 : Jvm.Cond.static ({ cls := "GlossRowsLaw", name := "entry", desc := "(LGlossRows;IZI[J)I" } : Jvm.MethodName) ∈ kq_W := kq_of 633 (by decide +kernel) rfl
theorem kq_635 : Jvm.Cond.methodLink "GlossRowsLaw" (38 : Nat) ({ cls := "GlossRows", name := "entry", desc := "(IZI)I" } : Jvm.MethodName) ∈ kq_W := kq_of 635 (by decide +kernel) rfl
theorem kq_636 : Jvm.Cond.instanceMethod ({ cls := "GlossRows", name := "entry", desc := "(IZI)I" } : Jvm.MethodName) ∈ kq_W := kq_of 636 (by decide +kernel) rfl
theorem kq_637 : Jvm.Cond.selects "GlossRows" ({ cls := "GlossRows", name := "entry", desc := "(IZI)I" } : Jvm.MethodName) ({ cls := "GlossRows", name := "entry", desc := "(IZI)I" } : Jvm.MethodName) ∈ kq_W := kq_of 637 (by decide +kernel) rfl
theorem kq_638 : Jvm.Cond.code ({ cls := "GlossRows", name := "entry", desc := "(IZI)I" } : Jvm.MethodName) prog_1_method_10_code (4 : Nat) (Option.some Jvm.ClassFile.FieldType.int) ∈ kq_W := kq_of 638 (by decide +kernel) rfl
theorem kq_639 : Jvm.Cond.methodLink "GlossRows" (205 : Nat) ({ cls := "GlossRows", name := "requireEntry", desc := "(I)V" } : Jvm.MethodName) ∈ kq_W := kq_of 639 (by decide +kernel) rfl
theorem kq_641 : Jvm.Cond.instanceMethod ({ cls := "GlossRows", name := "requireEntry", desc := "(I)V" } : Jvm.MethodName) ∈ kq_W := kq_of 641 (by decide +kernel) rfl
theorem kq_642 : Jvm.Cond.code ({ cls := "GlossRows", name := "requireEntry", desc := "(I)V" } : Jvm.MethodName) prog_1_method_35_code (2 : Nat) (Option.none : Option Jvm.ClassFile.FieldType) ∈ kq_W := kq_of 642 (by decide +kernel) rfl
theorem kq_644 : Jvm.Cond.methodLink "GlossRowsLaw" (145 : Nat) ({ cls := "GlossRowsLaw", name := "row", desc := "(LGlossRows;II[J)I" } : Jvm.MethodName) ∈ kq_W := kq_of 644 (by decide +kernel) rfl
theorem kq_645 : Jvm.Cond.static ({ cls := "GlossRowsLaw", name := "row", desc := "(LGlossRows;II[J)I" } : Jvm.MethodName) ∈ kq_W := kq_of 645 (by decide +kernel) rfl
theorem kq_647 : Jvm.Cond.methodLink "GlossRowsLaw" (42 : Nat) ({ cls := "GlossRows", name := "row", desc := "(II)I" } : Jvm.MethodName) ∈ kq_W := kq_of 647 (by decide +kernel) rfl
theorem kq_648 : Jvm.Cond.instanceMethod ({ cls := "GlossRows", name := "row", desc := "(II)I" } : Jvm.MethodName) ∈ kq_W := kq_of 648 (by decide +kernel) rfl
theorem kq_649 : Jvm.Cond.selects "GlossRows" ({ cls := "GlossRows", name := "row", desc := "(II)I" } : Jvm.MethodName) ({ cls := "GlossRows", name := "row", desc := "(II)I" } : Jvm.MethodName) ∈ kq_W := kq_of 649 (by decide +kernel) rfl
theorem kq_650 : Jvm.Cond.code ({ cls := "GlossRows", name := "row", desc := "(II)I" } : Jvm.MethodName) prog_1_method_11_code (3 : Nat) (Option.some Jvm.ClassFile.FieldType.int) ∈ kq_W := kq_of 650 (by decide +kernel) rfl
theorem kq_651 : Jvm.Cond.methodLink "GlossRows" (210 : Nat) ({ cls := "GlossRows", name := "requireRow", desc := "(I)V" } : Jvm.MethodName) ∈ kq_W := kq_of 651 (by decide +kernel) rfl
theorem kq_653 : Jvm.Cond.instanceMethod ({ cls := "GlossRows", name := "requireRow", desc := "(I)V" } : Jvm.MethodName) ∈ kq_W := kq_of 653 (by decide +kernel) rfl
theorem kq_654 : Jvm.Cond.code ({ cls := "GlossRows", name := "requireRow", desc := "(I)V" } : Jvm.MethodName) prog_1_method_36_code (2 : Nat) (Option.none : Option Jvm.ClassFile.FieldType) ∈ kq_W := kq_of 654 (by decide +kernel) rfl
theorem kq_656 : Jvm.Cond.methodLink "GlossRows" (213 : Nat) ({ cls := "GlossRows$Layout", name := "kindOfRow", desc := "(LGlossRows$Page;I)I" } : Jvm.MethodName) ∈ kq_W := kq_of 656 (by decide +kernel) rfl
theorem kq_657 : Jvm.Cond.instanceMethod ({ cls := "GlossRows$Layout", name := "kindOfRow", desc := "(LGlossRows$Page;I)I" } : Jvm.MethodName) ∈ kq_W := kq_of 657 (by decide +kernel) rfl
theorem kq_658 : Jvm.Cond.selects "GlossRows$Layout" ({ cls := "GlossRows$Layout", name := "kindOfRow", desc := "(LGlossRows$Page;I)I" } : Jvm.MethodName) ({ cls := "GlossRows$Layout", name := "kindOfRow", desc := "(LGlossRows$Page;I)I" } : Jvm.MethodName) ∈ kq_W := kq_of 658 (by decide +kernel) rfl
theorem kq_659 : Jvm.Cond.code ({ cls := "GlossRows$Layout", name := "kindOfRow", desc := "(LGlossRows$Page;I)I" } : Jvm.MethodName) prog_3_method_7_code (3 : Nat) (Option.some Jvm.ClassFile.FieldType.int) ∈ kq_W := kq_of 659 (by decide +kernel) rfl
theorem kq_660 : Jvm.Cond.methodLink "GlossRows$Layout" (68 : Nat) ({ cls := "GlossRows$Layout", name := "lastWordOfRow", desc := "(LGlossRows$Page;I)I" } : Jvm.MethodName) ∈ kq_W := kq_of 660 (by decide +kernel) rfl
theorem kq_662 : Jvm.Cond.instanceMethod ({ cls := "GlossRows$Layout", name := "lastWordOfRow", desc := "(LGlossRows$Page;I)I" } : Jvm.MethodName) ∈ kq_W := kq_of 662 (by decide +kernel) rfl
theorem kq_663 : Jvm.Cond.code ({ cls := "GlossRows$Layout", name := "lastWordOfRow", desc := "(LGlossRows$Page;I)I" } : Jvm.MethodName) prog_3_method_12_code (5 : Nat) (Option.some Jvm.ClassFile.FieldType.int) ∈ kq_W := kq_of 663 (by decide +kernel) rfl
theorem kq_664 : Jvm.Cond.methodLink "GlossRows$Layout" (72 : Nat) ({ cls := "java/lang/Math", name := "min", desc := "(II)I" } : Jvm.MethodName) ∈ kq_W := kq_of 664 (by decide +kernel) rfl
theorem kq_665 : Jvm.Cond.static ({ cls := "java/lang/Math", name := "min", desc := "(II)I" } : Jvm.MethodName) ∈ kq_W := kq_of 665 (by decide +kernel) rfl
theorem kq_666 : Jvm.Cond.code ({ cls := "java/lang/Math", name := "min", desc := "(II)I" } : Jvm.MethodName) prog_16_method_69_code (2 : Nat) (Option.some Jvm.ClassFile.FieldType.int) ∈ kq_W := kq_of 666 (by decide +kernel) rfl
theorem kq_667 : Jvm.Cond.methodLink "GlossRows" (216 : Nat) ({ cls := "GlossRows$Layout", name := "lengthOfRow", desc := "(LGlossRows$Page;I)I" } : Jvm.MethodName) ∈ kq_W := kq_of 667 (by decide +kernel) rfl
theorem kq_668 : Jvm.Cond.instanceMethod ({ cls := "GlossRows$Layout", name := "lengthOfRow", desc := "(LGlossRows$Page;I)I" } : Jvm.MethodName) ∈ kq_W := kq_of 668 (by decide +kernel) rfl
theorem kq_669 : Jvm.Cond.selects "GlossRows$Layout" ({ cls := "GlossRows$Layout", name := "lengthOfRow", desc := "(LGlossRows$Page;I)I" } : Jvm.MethodName) ({ cls := "GlossRows$Layout", name := "lengthOfRow", desc := "(LGlossRows$Page;I)I" } : Jvm.MethodName) ∈ kq_W := kq_of 669 (by decide +kernel) rfl
theorem kq_670 : Jvm.Cond.code ({ cls := "GlossRows$Layout", name := "lengthOfRow", desc := "(LGlossRows$Page;I)I" } : Jvm.MethodName) prog_3_method_8_code (4 : Nat) (Option.some Jvm.ClassFile.FieldType.int) ∈ kq_W := kq_of 670 (by decide +kernel) rfl
theorem kq_671 : Jvm.Cond.methodLink "GlossRows$Layout" (75 : Nat) ({ cls := "GlossRows$Layout", name := "kindOfRow", desc := "(LGlossRows$Page;I)I" } : Jvm.MethodName) ∈ kq_W := kq_of 671 (by decide +kernel) rfl
theorem kq_672 : Jvm.Cond.methodLink "GlossRows$Layout" (80 : Nat) ({ cls := "GlossRows$Layout", name := "beginInFree", desc := "(LGlossRows$Page;I)I" } : Jvm.MethodName) ∈ kq_W := kq_of 672 (by decide +kernel) rfl
theorem kq_674 : Jvm.Cond.instanceMethod ({ cls := "GlossRows$Layout", name := "beginInFree", desc := "(LGlossRows$Page;I)I" } : Jvm.MethodName) ∈ kq_W := kq_of 674 (by decide +kernel) rfl
theorem kq_675 : Jvm.Cond.code ({ cls := "GlossRows$Layout", name := "beginInFree", desc := "(LGlossRows$Page;I)I" } : Jvm.MethodName) prog_3_method_11_code (3 : Nat) (Option.some Jvm.ClassFile.FieldType.int) ∈ kq_W := kq_of 675 (by decide +kernel) rfl
theorem kq_676 : Jvm.Cond.methodLink "GlossRows" (219 : Nat) ({ cls := "GlossRows$Layout", name := "sentenceOfRow", desc := "(LGlossRows$Page;I)I" } : Jvm.MethodName) ∈ kq_W := kq_of 676 (by decide +kernel) rfl
theorem kq_677 : Jvm.Cond.instanceMethod ({ cls := "GlossRows$Layout", name := "sentenceOfRow", desc := "(LGlossRows$Page;I)I" } : Jvm.MethodName) ∈ kq_W := kq_of 677 (by decide +kernel) rfl
theorem kq_678 : Jvm.Cond.selects "GlossRows$Layout" ({ cls := "GlossRows$Layout", name := "sentenceOfRow", desc := "(LGlossRows$Page;I)I" } : Jvm.MethodName) ({ cls := "GlossRows$Layout", name := "sentenceOfRow", desc := "(LGlossRows$Page;I)I" } : Jvm.MethodName) ∈ kq_W := kq_of 678 (by decide +kernel) rfl
theorem kq_679 : Jvm.Cond.code ({ cls := "GlossRows$Layout", name := "sentenceOfRow", desc := "(LGlossRows$Page;I)I" } : Jvm.MethodName) prog_3_method_9_code (3 : Nat) (Option.some Jvm.ClassFile.FieldType.int) ∈ kq_W := kq_of 679 (by decide +kernel) rfl
theorem kq_681 : Jvm.Cond.methodLink "GlossRowsLaw" (148 : Nat) ({ cls := "GlossRowsLaw", name := "at", desc := "(LGlossRows;II[J)I" } : Jvm.MethodName) ∈ kq_W := kq_of 681 (by decide +kernel) rfl
theorem kq_682 : Jvm.Cond.static ({ cls := "GlossRowsLaw", name := "at", desc := "(LGlossRows;II[J)I" } : Jvm.MethodName) ∈ kq_W := kq_of 682 (by decide +kernel) rfl
theorem kq_684 : Jvm.Cond.methodLink "GlossRowsLaw" (45 : Nat) ({ cls := "GlossRows", name := "at", desc := "(II)I" } : Jvm.MethodName) ∈ kq_W := kq_of 684 (by decide +kernel) rfl
theorem kq_685 : Jvm.Cond.instanceMethod ({ cls := "GlossRows", name := "at", desc := "(II)I" } : Jvm.MethodName) ∈ kq_W := kq_of 685 (by decide +kernel) rfl
theorem kq_686 : Jvm.Cond.selects "GlossRows" ({ cls := "GlossRows", name := "at", desc := "(II)I" } : Jvm.MethodName) ({ cls := "GlossRows", name := "at", desc := "(II)I" } : Jvm.MethodName) ∈ kq_W := kq_of 686 (by decide +kernel) rfl
theorem kq_687 : Jvm.Cond.code ({ cls := "GlossRows", name := "at", desc := "(II)I" } : Jvm.MethodName) prog_1_method_12_code (3 : Nat) (Option.some Jvm.ClassFile.FieldType.int) ∈ kq_W := kq_of 687 (by decide +kernel) rfl
theorem kq_688 : Jvm.Cond.methodLink "GlossRows" (224 : Nat) ({ cls := "GlossRows$Layout", name := "codeInRow", desc := "(LGlossRows$Page;II)I" } : Jvm.MethodName) ∈ kq_W := kq_of 688 (by decide +kernel) rfl
theorem kq_689 : Jvm.Cond.instanceMethod ({ cls := "GlossRows$Layout", name := "codeInRow", desc := "(LGlossRows$Page;II)I" } : Jvm.MethodName) ∈ kq_W := kq_of 689 (by decide +kernel) rfl
theorem kq_690 : Jvm.Cond.selects "GlossRows$Layout" ({ cls := "GlossRows$Layout", name := "codeInRow", desc := "(LGlossRows$Page;II)I" } : Jvm.MethodName) ({ cls := "GlossRows$Layout", name := "codeInRow", desc := "(LGlossRows$Page;II)I" } : Jvm.MethodName) ∈ kq_W := kq_of 690 (by decide +kernel) rfl
theorem kq_691 : Jvm.Cond.code ({ cls := "GlossRows$Layout", name := "codeInRow", desc := "(LGlossRows$Page;II)I" } : Jvm.MethodName) prog_3_method_10_code (7 : Nat) (Option.some Jvm.ClassFile.FieldType.int) ∈ kq_W := kq_of 691 (by decide +kernel) rfl
theorem kq_692 : Jvm.Cond.methodLink "GlossRows$Layout" (83 : Nat) ({ cls := "GlossRows$Layout", name := "lengthOfRow", desc := "(LGlossRows$Page;I)I" } : Jvm.MethodName) ∈ kq_W := kq_of 692 (by decide +kernel) rfl
theorem kq_693 : Jvm.Cond.methodLink "GlossRows$Layout" (86 : Nat) ({ cls := "GlossRows$Word", name := "codeOfFree", desc := "(I)I" } : Jvm.MethodName) ∈ kq_W := kq_of 693 (by decide +kernel) rfl
theorem kq_694 : Jvm.Cond.instanceMethod ({ cls := "GlossRows$Word", name := "codeOfFree", desc := "(I)I" } : Jvm.MethodName) ∈ kq_W := kq_of 694 (by decide +kernel) rfl
theorem kq_695 : Jvm.Cond.selects "GlossRows$Word" ({ cls := "GlossRows$Word", name := "codeOfFree", desc := "(I)I" } : Jvm.MethodName) ({ cls := "GlossRows$Word", name := "codeOfFree", desc := "(I)I" } : Jvm.MethodName) ∈ kq_W := kq_of 695 (by decide +kernel) rfl
theorem kq_696 : Jvm.Cond.code ({ cls := "GlossRows$Word", name := "codeOfFree", desc := "(I)I" } : Jvm.MethodName) prog_9_method_11_code (2 : Nat) (Option.some Jvm.ClassFile.FieldType.int) ∈ kq_W := kq_of 696 (by decide +kernel) rfl
theorem kq_697 : Jvm.Cond.methodLink "GlossRows$Layout" (92 : Nat) ({ cls := "GlossRows$Word", name := "codeShown", desc := "(III)I" } : Jvm.MethodName) ∈ kq_W := kq_of 697 (by decide +kernel) rfl
theorem kq_698 : Jvm.Cond.instanceMethod ({ cls := "GlossRows$Word", name := "codeShown", desc := "(III)I" } : Jvm.MethodName) ∈ kq_W := kq_of 698 (by decide +kernel) rfl
theorem kq_699 : Jvm.Cond.selects "GlossRows$Word" ({ cls := "GlossRows$Word", name := "codeShown", desc := "(III)I" } : Jvm.MethodName) ({ cls := "GlossRows$Word", name := "codeShown", desc := "(III)I" } : Jvm.MethodName) ∈ kq_W := kq_of 699 (by decide +kernel) rfl
theorem kq_700 : Jvm.Cond.code ({ cls := "GlossRows$Word", name := "codeShown", desc := "(III)I" } : Jvm.MethodName) prog_9_method_10_code (9 : Nat) (Option.some Jvm.ClassFile.FieldType.int) ∈ kq_W := kq_of 700 (by decide +kernel) rfl
theorem kq_701 : Jvm.Cond.methodLink "GlossRows$Word" (65 : Nat) ({ cls := "GlossRows$Letters", name := "code", desc := "(JI)I" } : Jvm.MethodName) ∈ kq_W := kq_of 701 (by decide +kernel) rfl
theorem kq_702 : Jvm.Cond.methodLink "GlossRowsLaw" (151 : Nat) ({ cls := "GlossRowsLaw", name := "insert", desc := "(LGlossRows;I[J)I" } : Jvm.MethodName) ∈ kq_W := kq_of 702 (by decide +kernel) rfl
theorem kq_703 : Jvm.Cond.static ({ cls := "GlossRowsLaw", name := "insert", desc := "(LGlossRows;I[J)I" } : Jvm.MethodName) ∈ kq_W := kq_of 703 (by decide +kernel) rfl
theorem kq_705 : Jvm.Cond.methodLink "GlossRowsLaw" (48 : Nat) ({ cls := "GlossRows", name := "insert", desc := "(I)I" } : Jvm.MethodName) ∈ kq_W := kq_of 705 (by decide +kernel) rfl
theorem kq_706 : Jvm.Cond.instanceMethod ({ cls := "GlossRows", name := "insert", desc := "(I)I" } : Jvm.MethodName) ∈ kq_W := kq_of 706 (by decide +kernel) rfl
theorem kq_707 : Jvm.Cond.selects "GlossRows" ({ cls := "GlossRows", name := "insert", desc := "(I)I" } : Jvm.MethodName) ({ cls := "GlossRows", name := "insert", desc := "(I)I" } : Jvm.MethodName) ∈ kq_W := kq_of 707 (by decide +kernel) rfl
theorem kq_708 : Jvm.Cond.code ({ cls := "GlossRows", name := "insert", desc := "(I)I" } : Jvm.MethodName) prog_1_method_13_code (2 : Nat) (Option.some Jvm.ClassFile.FieldType.int) ∈ kq_W := kq_of 708 (by decide +kernel) rfl
theorem kq_711 : Jvm.Cond.methodLink "GlossRowsLaw" (154 : Nat) ({ cls := "GlossRowsLaw", name := "remove", desc := "(LGlossRows;I[J)I" } : Jvm.MethodName) ∈ kq_W := kq_of 711 (by decide +kernel) rfl
theorem kq_712 : Jvm.Cond.static ({ cls := "GlossRowsLaw", name := "remove", desc := "(LGlossRows;I[J)I" } : Jvm.MethodName) ∈ kq_W := kq_of 712 (by decide +kernel) rfl
theorem kq_714 : Jvm.Cond.methodLink "GlossRowsLaw" (51 : Nat) ({ cls := "GlossRows", name := "remove", desc := "(I)I" } : Jvm.MethodName) ∈ kq_W := kq_of 714 (by decide +kernel) rfl
theorem kq_715 : Jvm.Cond.instanceMethod ({ cls := "GlossRows", name := "remove", desc := "(I)I" } : Jvm.MethodName) ∈ kq_W := kq_of 715 (by decide +kernel) rfl
theorem kq_716 : Jvm.Cond.selects "GlossRows" ({ cls := "GlossRows", name := "remove", desc := "(I)I" } : Jvm.MethodName) ({ cls := "GlossRows", name := "remove", desc := "(I)I" } : Jvm.MethodName) ∈ kq_W := kq_of 716 (by decide +kernel) rfl
theorem kq_717 : Jvm.Cond.code ({ cls := "GlossRows", name := "remove", desc := "(I)I" } : Jvm.MethodName) prog_1_method_14_code (2 : Nat) (Option.some Jvm.ClassFile.FieldType.int) ∈ kq_W := kq_of 717 (by decide +kernel) rfl
theorem kq_718 : Jvm.Cond.methodLink "GlossRows" (240 : Nat) ({ cls := "GlossRows$Page", name := "dropWord", desc := "(I)V" } : Jvm.MethodName) ∈ kq_W := kq_of 718 (by decide +kernel) rfl
theorem kq_719 : Jvm.Cond.instanceMethod ({ cls := "GlossRows$Page", name := "dropWord", desc := "(I)V" } : Jvm.MethodName) ∈ kq_W := kq_of 719 (by decide +kernel) rfl
theorem kq_720 : Jvm.Cond.selects "GlossRows$Page" ({ cls := "GlossRows$Page", name := "dropWord", desc := "(I)V" } : Jvm.MethodName) ({ cls := "GlossRows$Page", name := "dropWord", desc := "(I)V" } : Jvm.MethodName) ∈ kq_W := kq_of 720 (by decide +kernel) rfl
theorem kq_721 : Jvm.Cond.code ({ cls := "GlossRows$Page", name := "dropWord", desc := "(I)V" } : Jvm.MethodName) prog_6_method_7_code (3 : Nat) (Option.none : Option Jvm.ClassFile.FieldType) ∈ kq_W := kq_of 721 (by decide +kernel) rfl
theorem kq_722 : Jvm.Cond.methodLink "GlossRowsLaw" (157 : Nat) ({ cls := "GlossRowsLaw", name := "end", desc := "(LGlossRows;I[J)I" } : Jvm.MethodName) ∈ kq_W := kq_of 722 (by decide +kernel) rfl
theorem kq_723 : Jvm.Cond.static ({ cls := "GlossRowsLaw", name := "end", desc := "(LGlossRows;I[J)I" } : Jvm.MethodName) ∈ kq_W := kq_of 723 (by decide +kernel) rfl
theorem kq_725 : Jvm.Cond.methodLink "GlossRowsLaw" (54 : Nat) ({ cls := "GlossRows", name := "end", desc := "(I)I" } : Jvm.MethodName) ∈ kq_W := kq_of 725 (by decide +kernel) rfl
theorem kq_726 : Jvm.Cond.instanceMethod ({ cls := "GlossRows", name := "end", desc := "(I)I" } : Jvm.MethodName) ∈ kq_W := kq_of 726 (by decide +kernel) rfl
theorem kq_727 : Jvm.Cond.selects "GlossRows" ({ cls := "GlossRows", name := "end", desc := "(I)I" } : Jvm.MethodName) ({ cls := "GlossRows", name := "end", desc := "(I)I" } : Jvm.MethodName) ∈ kq_W := kq_of 727 (by decide +kernel) rfl
theorem kq_728 : Jvm.Cond.code ({ cls := "GlossRows", name := "end", desc := "(I)I" } : Jvm.MethodName) prog_1_method_15_code (2 : Nat) (Option.some Jvm.ClassFile.FieldType.int) ∈ kq_W := kq_of 728 (by decide +kernel) rfl
theorem kq_729 : Jvm.Cond.methodLink "GlossRowsLaw" (160 : Nat) ({ cls := "GlossRowsLaw", name := "join", desc := "(LGlossRows;I[J)I" } : Jvm.MethodName) ∈ kq_W := kq_of 729 (by decide +kernel) rfl
theorem kq_730 : Jvm.Cond.static ({ cls := "GlossRowsLaw", name := "join", desc := "(LGlossRows;I[J)I" } : Jvm.MethodName) ∈ kq_W := kq_of 730 (by decide +kernel) rfl
theorem kq_732 : Jvm.Cond.methodLink "GlossRowsLaw" (57 : Nat) ({ cls := "GlossRows", name := "join", desc := "(I)I" } : Jvm.MethodName) ∈ kq_W := kq_of 732 (by decide +kernel) rfl
theorem kq_733 : Jvm.Cond.instanceMethod ({ cls := "GlossRows", name := "join", desc := "(I)I" } : Jvm.MethodName) ∈ kq_W := kq_of 733 (by decide +kernel) rfl
theorem kq_734 : Jvm.Cond.selects "GlossRows" ({ cls := "GlossRows", name := "join", desc := "(I)I" } : Jvm.MethodName) ({ cls := "GlossRows", name := "join", desc := "(I)I" } : Jvm.MethodName) ∈ kq_W := kq_of 734 (by decide +kernel) rfl
theorem kq_735 : Jvm.Cond.code ({ cls := "GlossRows", name := "join", desc := "(I)I" } : Jvm.MethodName) prog_1_method_16_code (2 : Nat) (Option.some Jvm.ClassFile.FieldType.int) ∈ kq_W := kq_of 735 (by decide +kernel) rfl
theorem kq_736 : Jvm.Cond.methodLink "GlossRows" (243 : Nat) ({ cls := "GlossRows$Word", name := "dropEnd", desc := "()V" } : Jvm.MethodName) ∈ kq_W := kq_of 736 (by decide +kernel) rfl
theorem kq_737 : Jvm.Cond.instanceMethod ({ cls := "GlossRows$Word", name := "dropEnd", desc := "()V" } : Jvm.MethodName) ∈ kq_W := kq_of 737 (by decide +kernel) rfl
theorem kq_738 : Jvm.Cond.selects "GlossRows$Word" ({ cls := "GlossRows$Word", name := "dropEnd", desc := "()V" } : Jvm.MethodName) ({ cls := "GlossRows$Word", name := "dropEnd", desc := "()V" } : Jvm.MethodName) ∈ kq_W := kq_of 738 (by decide +kernel) rfl
theorem kq_739 : Jvm.Cond.code ({ cls := "GlossRows$Word", name := "dropEnd", desc := "()V" } : Jvm.MethodName) prog_9_method_5_code (1 : Nat) (Option.none : Option Jvm.ClassFile.FieldType) ∈ kq_W := kq_of 739 (by decide +kernel) rfl
theorem kq_740 : Jvm.Cond.methodLink "GlossRowsLaw" (163 : Nat) ({ cls := "GlossRowsLaw", name := "setFree", desc := "(LGlossRows;I[J)I" } : Jvm.MethodName) ∈ kq_W := kq_of 740 (by decide +kernel) rfl
theorem kq_741 : Jvm.Cond.static ({ cls := "GlossRowsLaw", name := "setFree", desc := "(LGlossRows;I[J)I" } : Jvm.MethodName) ∈ kq_W := kq_of 741 (by decide +kernel) rfl
theorem kq_743 : Jvm.Cond.methodLink "GlossRowsLaw" (60 : Nat) ({ cls := "GlossRows", name := "setFree", desc := "(I)I" } : Jvm.MethodName) ∈ kq_W := kq_of 743 (by decide +kernel) rfl
theorem kq_744 : Jvm.Cond.instanceMethod ({ cls := "GlossRows", name := "setFree", desc := "(I)I" } : Jvm.MethodName) ∈ kq_W := kq_of 744 (by decide +kernel) rfl
theorem kq_745 : Jvm.Cond.selects "GlossRows" ({ cls := "GlossRows", name := "setFree", desc := "(I)I" } : Jvm.MethodName) ({ cls := "GlossRows", name := "setFree", desc := "(I)I" } : Jvm.MethodName) ∈ kq_W := kq_of 745 (by decide +kernel) rfl
theorem kq_746 : Jvm.Cond.code ({ cls := "GlossRows", name := "setFree", desc := "(I)I" } : Jvm.MethodName) prog_1_method_17_code (2 : Nat) (Option.some Jvm.ClassFile.FieldType.int) ∈ kq_W := kq_of 746 (by decide +kernel) rfl
theorem kq_747 : Jvm.Cond.methodLink "GlossRows" (246 : Nat) ({ cls := "GlossRows$Text", name := "isFreeLine", desc := "()Z" } : Jvm.MethodName) ∈ kq_W := kq_of 747 (by decide +kernel) rfl
theorem kq_748 : Jvm.Cond.instanceMethod ({ cls := "GlossRows$Text", name := "isFreeLine", desc := "()Z" } : Jvm.MethodName) ∈ kq_W := kq_of 748 (by decide +kernel) rfl
theorem kq_749 : Jvm.Cond.selects "GlossRows$Text" ({ cls := "GlossRows$Text", name := "isFreeLine", desc := "()Z" } : Jvm.MethodName) ({ cls := "GlossRows$Text", name := "isFreeLine", desc := "()Z" } : Jvm.MethodName) ∈ kq_W := kq_of 749 (by decide +kernel) rfl
theorem kq_750 : Jvm.Cond.code ({ cls := "GlossRows$Text", name := "isFreeLine", desc := "()Z" } : Jvm.MethodName) prog_8_method_3_code (2 : Nat) (Option.some Jvm.ClassFile.FieldType.boolean) ∈ kq_W := kq_of 750 (by decide +kernel) rfl
theorem kq_752 : Jvm.Cond.methodLink "GlossRows" (252 : Nat) ({ cls := "GlossRows$Word", name := "takeFree", desc := "(LGlossRows$Text;)V" } : Jvm.MethodName) ∈ kq_W := kq_of 752 (by decide +kernel) rfl
theorem kq_753 : Jvm.Cond.instanceMethod ({ cls := "GlossRows$Word", name := "takeFree", desc := "(LGlossRows$Text;)V" } : Jvm.MethodName) ∈ kq_W := kq_of 753 (by decide +kernel) rfl
theorem kq_754 : Jvm.Cond.selects "GlossRows$Word" ({ cls := "GlossRows$Word", name := "takeFree", desc := "(LGlossRows$Text;)V" } : Jvm.MethodName) ({ cls := "GlossRows$Word", name := "takeFree", desc := "(LGlossRows$Text;)V" } : Jvm.MethodName) ∈ kq_W := kq_of 754 (by decide +kernel) rfl
theorem kq_755 : Jvm.Cond.code ({ cls := "GlossRows$Word", name := "takeFree", desc := "(LGlossRows$Text;)V" } : Jvm.MethodName) prog_9_method_7_code (3 : Nat) (Option.none : Option Jvm.ClassFile.FieldType) ∈ kq_W := kq_of 755 (by decide +kernel) rfl
theorem kq_756 : Jvm.Cond.methodLink "GlossRows$Word" (44 : Nat) ({ cls := "java/lang/Math", name := "min", desc := "(II)I" } : Jvm.MethodName) ∈ kq_W := kq_of 756 (by decide +kernel) rfl
theorem kq_757 : Jvm.Cond.methodLink "GlossRowsLaw" (166 : Nat) ({ cls := "GlossRowsLaw", name := "setGloss", desc := "(LGlossRows;II[J)I" } : Jvm.MethodName) ∈ kq_W := kq_of 757 (by decide +kernel) rfl
theorem kq_758 : Jvm.Cond.static ({ cls := "GlossRowsLaw", name := "setGloss", desc := "(LGlossRows;II[J)I" } : Jvm.MethodName) ∈ kq_W := kq_of 758 (by decide +kernel) rfl
theorem kq_760 : Jvm.Cond.methodLink "GlossRowsLaw" (63 : Nat) ({ cls := "GlossRows", name := "setGloss", desc := "(II)I" } : Jvm.MethodName) ∈ kq_W := kq_of 760 (by decide +kernel) rfl
theorem kq_761 : Jvm.Cond.instanceMethod ({ cls := "GlossRows", name := "setGloss", desc := "(II)I" } : Jvm.MethodName) ∈ kq_W := kq_of 761 (by decide +kernel) rfl
theorem kq_762 : Jvm.Cond.selects "GlossRows" ({ cls := "GlossRows", name := "setGloss", desc := "(II)I" } : Jvm.MethodName) ({ cls := "GlossRows", name := "setGloss", desc := "(II)I" } : Jvm.MethodName) ∈ kq_W := kq_of 762 (by decide +kernel) rfl
theorem kq_763 : Jvm.Cond.code ({ cls := "GlossRows", name := "setGloss", desc := "(II)I" } : Jvm.MethodName) prog_1_method_18_code (3 : Nat) (Option.some Jvm.ClassFile.FieldType.int) ∈ kq_W := kq_of 763 (by decide +kernel) rfl
theorem kq_764 : Jvm.Cond.methodLink "GlossRows" (256 : Nat) ({ cls := "GlossRows$Text", name := "isGloss", desc := "()Z" } : Jvm.MethodName) ∈ kq_W := kq_of 764 (by decide +kernel) rfl
theorem kq_765 : Jvm.Cond.instanceMethod ({ cls := "GlossRows$Text", name := "isGloss", desc := "()Z" } : Jvm.MethodName) ∈ kq_W := kq_of 765 (by decide +kernel) rfl
theorem kq_766 : Jvm.Cond.selects "GlossRows$Text" ({ cls := "GlossRows$Text", name := "isGloss", desc := "()Z" } : Jvm.MethodName) ({ cls := "GlossRows$Text", name := "isGloss", desc := "()Z" } : Jvm.MethodName) ∈ kq_W := kq_of 766 (by decide +kernel) rfl
theorem kq_767 : Jvm.Cond.code ({ cls := "GlossRows$Text", name := "isGloss", desc := "()Z" } : Jvm.MethodName) prog_8_method_4_code (2 : Nat) (Option.some Jvm.ClassFile.FieldType.boolean) ∈ kq_W := kq_of 767 (by decide +kernel) rfl
theorem kq_768 : Jvm.Cond.methodLink "GlossRows$Text" (19 : Nat) ({ cls := "GlossRows$Letters", name := "isGlossLetter", desc := "(I)Z" } : Jvm.MethodName) ∈ kq_W := kq_of 768 (by decide +kernel) rfl
theorem kq_770 : Jvm.Cond.methodLink "GlossRows" (261 : Nat) ({ cls := "GlossRows$Text", name := "letters", desc := "()J" } : Jvm.MethodName) ∈ kq_W := kq_of 770 (by decide +kernel) rfl
theorem kq_771 : Jvm.Cond.instanceMethod ({ cls := "GlossRows$Text", name := "letters", desc := "()J" } : Jvm.MethodName) ∈ kq_W := kq_of 771 (by decide +kernel) rfl
theorem kq_772 : Jvm.Cond.selects "GlossRows$Text" ({ cls := "GlossRows$Text", name := "letters", desc := "()J" } : Jvm.MethodName) ({ cls := "GlossRows$Text", name := "letters", desc := "()J" } : Jvm.MethodName) ∈ kq_W := kq_of 772 (by decide +kernel) rfl
theorem kq_773 : Jvm.Cond.code ({ cls := "GlossRows$Text", name := "letters", desc := "()J" } : Jvm.MethodName) prog_8_method_5_code (4 : Nat) (Option.some Jvm.ClassFile.FieldType.long) ∈ kq_W := kq_of 773 (by decide +kernel) rfl
theorem kq_774 : Jvm.Cond.methodLink "GlossRows$Text" (25 : Nat) ({ cls := "GlossRows$Letters", name := "with", desc := "(JI)J" } : Jvm.MethodName) ∈ kq_W := kq_of 774 (by decide +kernel) rfl
theorem kq_775 : Jvm.Cond.methodLink "GlossRowsLaw" (169 : Nat) ({ cls := "GlossRowsLaw", name := "set", desc := "(LGlossRows;II[J)I" } : Jvm.MethodName) ∈ kq_W := kq_of 775 (by decide +kernel) rfl
theorem kq_776 : Jvm.Cond.static ({ cls := "GlossRowsLaw", name := "set", desc := "(LGlossRows;II[J)I" } : Jvm.MethodName) ∈ kq_W := kq_of 776 (by decide +kernel) rfl
theorem kq_778 : Jvm.Cond.methodLink "GlossRowsLaw" (66 : Nat) ({ cls := "GlossRows", name := "set", desc := "(II)I" } : Jvm.MethodName) ∈ kq_W := kq_of 778 (by decide +kernel) rfl
theorem kq_779 : Jvm.Cond.instanceMethod ({ cls := "GlossRows", name := "set", desc := "(II)I" } : Jvm.MethodName) ∈ kq_W := kq_of 779 (by decide +kernel) rfl
theorem kq_780 : Jvm.Cond.selects "GlossRows" ({ cls := "GlossRows", name := "set", desc := "(II)I" } : Jvm.MethodName) ({ cls := "GlossRows", name := "set", desc := "(II)I" } : Jvm.MethodName) ∈ kq_W := kq_of 780 (by decide +kernel) rfl
theorem kq_781 : Jvm.Cond.code ({ cls := "GlossRows", name := "set", desc := "(II)I" } : Jvm.MethodName) prog_1_method_19_code (3 : Nat) (Option.some Jvm.ClassFile.FieldType.int) ∈ kq_W := kq_of 781 (by decide +kernel) rfl
theorem kq_782 : Jvm.Cond.methodLink "GlossRows" (265 : Nat) ({ cls := "GlossRows$Page", name := "allows", desc := "(II)Z" } : Jvm.MethodName) ∈ kq_W := kq_of 782 (by decide +kernel) rfl
theorem kq_783 : Jvm.Cond.static ({ cls := "GlossRows$Page", name := "allows", desc := "(II)Z" } : Jvm.MethodName) ∈ kq_W := kq_of 783 (by decide +kernel) rfl
theorem kq_784 : Jvm.Cond.code ({ cls := "GlossRows$Page", name := "allows", desc := "(II)Z" } : Jvm.MethodName) prog_6_method_8_code (2 : Nat) (Option.some Jvm.ClassFile.FieldType.boolean) ∈ kq_W := kq_of 784 (by decide +kernel) rfl
theorem kq_786 : Jvm.Cond.methodLink "GlossRows" (271 : Nat) ({ cls := "GlossRows$Page", name := "change", desc := "(II)I" } : Jvm.MethodName) ∈ kq_W := kq_of 786 (by decide +kernel) rfl
theorem kq_787 : Jvm.Cond.instanceMethod ({ cls := "GlossRows$Page", name := "change", desc := "(II)I" } : Jvm.MethodName) ∈ kq_W := kq_of 787 (by decide +kernel) rfl
theorem kq_788 : Jvm.Cond.selects "GlossRows$Page" ({ cls := "GlossRows$Page", name := "change", desc := "(II)I" } : Jvm.MethodName) ({ cls := "GlossRows$Page", name := "change", desc := "(II)I" } : Jvm.MethodName) ∈ kq_W := kq_of 788 (by decide +kernel) rfl
theorem kq_789 : Jvm.Cond.code ({ cls := "GlossRows$Page", name := "change", desc := "(II)I" } : Jvm.MethodName) prog_6_method_9_code (4 : Nat) (Option.some Jvm.ClassFile.FieldType.int) ∈ kq_W := kq_of 789 (by decide +kernel) rfl
theorem kq_790 : Jvm.Cond.methodLink "GlossRowsLaw" (172 : Nat) ({ cls := "GlossRowsLaw", name := "learn", desc := "(LGlossRows;II[J)I" } : Jvm.MethodName) ∈ kq_W := kq_of 790 (by decide +kernel) rfl
theorem kq_791 : Jvm.Cond.static ({ cls := "GlossRowsLaw", name := "learn", desc := "(LGlossRows;II[J)I" } : Jvm.MethodName) ∈ kq_W := kq_of 791 (by decide +kernel) rfl
theorem kq_793 : Jvm.Cond.methodLink "GlossRowsLaw" (69 : Nat) ({ cls := "GlossRows", name := "learn", desc := "(II)I" } : Jvm.MethodName) ∈ kq_W := kq_of 793 (by decide +kernel) rfl
theorem kq_794 : Jvm.Cond.instanceMethod ({ cls := "GlossRows", name := "learn", desc := "(II)I" } : Jvm.MethodName) ∈ kq_W := kq_of 794 (by decide +kernel) rfl
theorem kq_795 : Jvm.Cond.selects "GlossRows" ({ cls := "GlossRows", name := "learn", desc := "(II)I" } : Jvm.MethodName) ({ cls := "GlossRows", name := "learn", desc := "(II)I" } : Jvm.MethodName) ∈ kq_W := kq_of 795 (by decide +kernel) rfl
theorem kq_796 : Jvm.Cond.code ({ cls := "GlossRows", name := "learn", desc := "(II)I" } : Jvm.MethodName) prog_1_method_20_code (3 : Nat) (Option.some Jvm.ClassFile.FieldType.int) ∈ kq_W := kq_of 796 (by decide +kernel) rfl
theorem kq_797 : Jvm.Cond.methodLink "GlossRows" (275 : Nat) ({ cls := "GlossRows$Page", name := "canLearn", desc := "(II)Z" } : Jvm.MethodName) ∈ kq_W := kq_of 797 (by decide +kernel) rfl
theorem kq_798 : Jvm.Cond.instanceMethod ({ cls := "GlossRows$Page", name := "canLearn", desc := "(II)Z" } : Jvm.MethodName) ∈ kq_W := kq_of 798 (by decide +kernel) rfl
theorem kq_799 : Jvm.Cond.selects "GlossRows$Page" ({ cls := "GlossRows$Page", name := "canLearn", desc := "(II)Z" } : Jvm.MethodName) ({ cls := "GlossRows$Page", name := "canLearn", desc := "(II)Z" } : Jvm.MethodName) ∈ kq_W := kq_of 799 (by decide +kernel) rfl
theorem kq_800 : Jvm.Cond.code ({ cls := "GlossRows$Page", name := "canLearn", desc := "(II)Z" } : Jvm.MethodName) prog_6_method_10_code (3 : Nat) (Option.some Jvm.ClassFile.FieldType.boolean) ∈ kq_W := kq_of 800 (by decide +kernel) rfl
theorem kq_801 : Jvm.Cond.methodLink "GlossRows$Page" (60 : Nat) ({ cls := "GlossRows$Page", name := "hasPart", desc := "(II)Z" } : Jvm.MethodName) ∈ kq_W := kq_of 801 (by decide +kernel) rfl
theorem kq_802 : Jvm.Cond.methodLink "GlossRows$Page" (71 : Nat) ({ cls := "GlossRows$Lexicon", name := "canTake", desc := "(J)Z" } : Jvm.MethodName) ∈ kq_W := kq_of 802 (by decide +kernel) rfl
theorem kq_803 : Jvm.Cond.instanceMethod ({ cls := "GlossRows$Lexicon", name := "canTake", desc := "(J)Z" } : Jvm.MethodName) ∈ kq_W := kq_of 803 (by decide +kernel) rfl
theorem kq_804 : Jvm.Cond.selects "GlossRows$Lexicon" ({ cls := "GlossRows$Lexicon", name := "canTake", desc := "(J)Z" } : Jvm.MethodName) ({ cls := "GlossRows$Lexicon", name := "canTake", desc := "(J)Z" } : Jvm.MethodName) ∈ kq_W := kq_of 804 (by decide +kernel) rfl
theorem kq_805 : Jvm.Cond.code ({ cls := "GlossRows$Lexicon", name := "canTake", desc := "(J)Z" } : Jvm.MethodName) prog_5_method_4_code (3 : Nat) (Option.some Jvm.ClassFile.FieldType.boolean) ∈ kq_W := kq_of 805 (by decide +kernel) rfl
theorem kq_806 : Jvm.Cond.methodLink "GlossRows$Lexicon" (22 : Nat) ({ cls := "GlossRows$Lexicon", name := "find", desc := "(J)I" } : Jvm.MethodName) ∈ kq_W := kq_of 806 (by decide +kernel) rfl
theorem kq_808 : Jvm.Cond.methodLink "GlossRows" (280 : Nat) ({ cls := "GlossRows$Page", name := "learnPart", desc := "(II)V" } : Jvm.MethodName) ∈ kq_W := kq_of 808 (by decide +kernel) rfl
theorem kq_809 : Jvm.Cond.instanceMethod ({ cls := "GlossRows$Page", name := "learnPart", desc := "(II)V" } : Jvm.MethodName) ∈ kq_W := kq_of 809 (by decide +kernel) rfl
theorem kq_810 : Jvm.Cond.selects "GlossRows$Page" ({ cls := "GlossRows$Page", name := "learnPart", desc := "(II)V" } : Jvm.MethodName) ({ cls := "GlossRows$Page", name := "learnPart", desc := "(II)V" } : Jvm.MethodName) ∈ kq_W := kq_of 810 (by decide +kernel) rfl
theorem kq_811 : Jvm.Cond.code ({ cls := "GlossRows$Page", name := "learnPart", desc := "(II)V" } : Jvm.MethodName) prog_6_method_11_code (3 : Nat) (Option.none : Option Jvm.ClassFile.FieldType) ∈ kq_W := kq_of 811 (by decide +kernel) rfl
theorem kq_812 : Jvm.Cond.methodLink "GlossRows$Page" (75 : Nat) ({ cls := "GlossRows$Page", name := "canLearn", desc := "(II)Z" } : Jvm.MethodName) ∈ kq_W := kq_of 812 (by decide +kernel) rfl
theorem kq_813 : Jvm.Cond.methodLink "GlossRows$Page" (78 : Nat) ({ cls := "GlossRows$Lexicon", name := "take", desc := "(JJ)V" } : Jvm.MethodName) ∈ kq_W := kq_of 813 (by decide +kernel) rfl
theorem kq_814 : Jvm.Cond.instanceMethod ({ cls := "GlossRows$Lexicon", name := "take", desc := "(JJ)V" } : Jvm.MethodName) ∈ kq_W := kq_of 814 (by decide +kernel) rfl
theorem kq_815 : Jvm.Cond.selects "GlossRows$Lexicon" ({ cls := "GlossRows$Lexicon", name := "take", desc := "(JJ)V" } : Jvm.MethodName) ({ cls := "GlossRows$Lexicon", name := "take", desc := "(JJ)V" } : Jvm.MethodName) ∈ kq_W := kq_of 815 (by decide +kernel) rfl
theorem kq_816 : Jvm.Cond.code ({ cls := "GlossRows$Lexicon", name := "take", desc := "(JJ)V" } : Jvm.MethodName) prog_5_method_5_code (6 : Nat) (Option.none : Option Jvm.ClassFile.FieldType) ∈ kq_W := kq_of 816 (by decide +kernel) rfl
theorem kq_817 : Jvm.Cond.methodLink "GlossRows$Lexicon" (26 : Nat) ({ cls := "GlossRows$Lexicon", name := "makePlaceFor", desc := "(J)I" } : Jvm.MethodName) ∈ kq_W := kq_of 817 (by decide +kernel) rfl
theorem kq_819 : Jvm.Cond.instanceMethod ({ cls := "GlossRows$Lexicon", name := "makePlaceFor", desc := "(J)I" } : Jvm.MethodName) ∈ kq_W := kq_of 819 (by decide +kernel) rfl
theorem kq_820 : Jvm.Cond.code ({ cls := "GlossRows$Lexicon", name := "makePlaceFor", desc := "(J)I" } : Jvm.MethodName) prog_5_method_6_code (4 : Nat) (Option.some Jvm.ClassFile.FieldType.int) ∈ kq_W := kq_of 820 (by decide +kernel) rfl
theorem kq_821 : Jvm.Cond.methodLink "GlossRowsLaw" (175 : Nat) ({ cls := "GlossRowsLaw", name := "forget", desc := "(LGlossRows;I[J)I" } : Jvm.MethodName) ∈ kq_W := kq_of 821 (by decide +kernel) rfl
theorem kq_822 : Jvm.Cond.static ({ cls := "GlossRowsLaw", name := "forget", desc := "(LGlossRows;I[J)I" } : Jvm.MethodName) ∈ kq_W := kq_of 822 (by decide +kernel) rfl
theorem kq_824 : Jvm.Cond.methodLink "GlossRowsLaw" (72 : Nat) ({ cls := "GlossRows", name := "forget", desc := "(I)I" } : Jvm.MethodName) ∈ kq_W := kq_of 824 (by decide +kernel) rfl
theorem kq_825 : Jvm.Cond.instanceMethod ({ cls := "GlossRows", name := "forget", desc := "(I)I" } : Jvm.MethodName) ∈ kq_W := kq_of 825 (by decide +kernel) rfl
theorem kq_826 : Jvm.Cond.selects "GlossRows" ({ cls := "GlossRows", name := "forget", desc := "(I)I" } : Jvm.MethodName) ({ cls := "GlossRows", name := "forget", desc := "(I)I" } : Jvm.MethodName) ∈ kq_W := kq_of 826 (by decide +kernel) rfl
theorem kq_827 : Jvm.Cond.code ({ cls := "GlossRows", name := "forget", desc := "(I)I" } : Jvm.MethodName) prog_1_method_21_code (2 : Nat) (Option.some Jvm.ClassFile.FieldType.int) ∈ kq_W := kq_of 827 (by decide +kernel) rfl
theorem kq_828 : Jvm.Cond.methodLink "GlossRows" (283 : Nat) ({ cls := "GlossRows$Lexicon", name := "drop", desc := "(I)V" } : Jvm.MethodName) ∈ kq_W := kq_of 828 (by decide +kernel) rfl
theorem kq_829 : Jvm.Cond.instanceMethod ({ cls := "GlossRows$Lexicon", name := "drop", desc := "(I)V" } : Jvm.MethodName) ∈ kq_W := kq_of 829 (by decide +kernel) rfl
theorem kq_830 : Jvm.Cond.selects "GlossRows$Lexicon" ({ cls := "GlossRows$Lexicon", name := "drop", desc := "(I)V" } : Jvm.MethodName) ({ cls := "GlossRows$Lexicon", name := "drop", desc := "(I)V" } : Jvm.MethodName) ∈ kq_W := kq_of 830 (by decide +kernel) rfl
theorem kq_831 : Jvm.Cond.code ({ cls := "GlossRows$Lexicon", name := "drop", desc := "(I)V" } : Jvm.MethodName) prog_5_method_7_code (3 : Nat) (Option.none : Option Jvm.ClassFile.FieldType) ∈ kq_W := kq_of 831 (by decide +kernel) rfl
theorem kq_832 : Jvm.Cond.methodLink "GlossRowsLaw" (182 : Nat) ({ cls := "GlossRowsLaw", name := "undo", desc := "(LGlossRows;[J)I" } : Jvm.MethodName) ∈ kq_W := kq_of 832 (by decide +kernel) rfl
theorem kq_833 : Jvm.Cond.static ({ cls := "GlossRowsLaw", name := "undo", desc := "(LGlossRows;[J)I" } : Jvm.MethodName) ∈ kq_W := kq_of 833 (by decide +kernel) rfl
theorem kq_835 : Jvm.Cond.methodLink "GlossRowsLaw" (75 : Nat) ({ cls := "GlossRows", name := "undo", desc := "()I" } : Jvm.MethodName) ∈ kq_W := kq_of 835 (by decide +kernel) rfl
theorem kq_836 : Jvm.Cond.instanceMethod ({ cls := "GlossRows", name := "undo", desc := "()I" } : Jvm.MethodName) ∈ kq_W := kq_of 836 (by decide +kernel) rfl
theorem kq_837 : Jvm.Cond.selects "GlossRows" ({ cls := "GlossRows", name := "undo", desc := "()I" } : Jvm.MethodName) ({ cls := "GlossRows", name := "undo", desc := "()I" } : Jvm.MethodName) ∈ kq_W := kq_of 837 (by decide +kernel) rfl
theorem kq_838 : Jvm.Cond.code ({ cls := "GlossRows", name := "undo", desc := "()I" } : Jvm.MethodName) prog_1_method_23_code (1 : Nat) (Option.some Jvm.ClassFile.FieldType.int) ∈ kq_W := kq_of 838 (by decide +kernel) rfl
theorem kq_840 : Jvm.Cond.methodLink "GlossRows" (292 : Nat) ({ cls := "GlossRows$History", name := "takeBack", desc := "(LGlossRows$Page;)V" } : Jvm.MethodName) ∈ kq_W := kq_of 840 (by decide +kernel) rfl
theorem kq_841 : Jvm.Cond.instanceMethod ({ cls := "GlossRows$History", name := "takeBack", desc := "(LGlossRows$Page;)V" } : Jvm.MethodName) ∈ kq_W := kq_of 841 (by decide +kernel) rfl
theorem kq_842 : Jvm.Cond.selects "GlossRows$History" ({ cls := "GlossRows$History", name := "takeBack", desc := "(LGlossRows$Page;)V" } : Jvm.MethodName) ({ cls := "GlossRows$History", name := "takeBack", desc := "(LGlossRows$Page;)V" } : Jvm.MethodName) ∈ kq_W := kq_of 842 (by decide +kernel) rfl
theorem kq_843 : Jvm.Cond.code ({ cls := "GlossRows$History", name := "takeBack", desc := "(LGlossRows$Page;)V" } : Jvm.MethodName) prog_2_method_4_code (2 : Nat) (Option.none : Option Jvm.ClassFile.FieldType) ∈ kq_W := kq_of 843 (by decide +kernel) rfl
theorem kq_844 : Jvm.Cond.methodLink "GlossRowsLaw" (185 : Nat) ({ cls := "GlossRowsLaw", name := "gap", desc := "(LGlossRows;I[J)I" } : Jvm.MethodName) ∈ kq_W := kq_of 844 (by decide +kernel) rfl
theorem kq_845 : Jvm.Cond.static ({ cls := "GlossRowsLaw", name := "gap", desc := "(LGlossRows;I[J)I" } : Jvm.MethodName) ∈ kq_W := kq_of 845 (by decide +kernel) rfl
theorem kq_847 : Jvm.Cond.methodLink "GlossRowsLaw" (78 : Nat) ({ cls := "GlossRows", name := "gap", desc := "(I)I" } : Jvm.MethodName) ∈ kq_W := kq_of 847 (by decide +kernel) rfl
theorem kq_848 : Jvm.Cond.instanceMethod ({ cls := "GlossRows", name := "gap", desc := "(I)I" } : Jvm.MethodName) ∈ kq_W := kq_of 848 (by decide +kernel) rfl
theorem kq_849 : Jvm.Cond.selects "GlossRows" ({ cls := "GlossRows", name := "gap", desc := "(I)I" } : Jvm.MethodName) ({ cls := "GlossRows", name := "gap", desc := "(I)I" } : Jvm.MethodName) ∈ kq_W := kq_of 849 (by decide +kernel) rfl
theorem kq_850 : Jvm.Cond.code ({ cls := "GlossRows", name := "gap", desc := "(I)I" } : Jvm.MethodName) prog_1_method_24_code (2 : Nat) (Option.some Jvm.ClassFile.FieldType.int) ∈ kq_W := kq_of 850 (by decide +kernel) rfl
theorem kq_851 : Jvm.Cond.methodLink "GlossRows" (295 : Nat) ({ cls := "GlossRows$Page", name := "placeOfGap", desc := "(I)I" } : Jvm.MethodName) ∈ kq_W := kq_of 851 (by decide +kernel) rfl
theorem kq_852 : Jvm.Cond.instanceMethod ({ cls := "GlossRows$Page", name := "placeOfGap", desc := "(I)I" } : Jvm.MethodName) ∈ kq_W := kq_of 852 (by decide +kernel) rfl
theorem kq_853 : Jvm.Cond.selects "GlossRows$Page" ({ cls := "GlossRows$Page", name := "placeOfGap", desc := "(I)I" } : Jvm.MethodName) ({ cls := "GlossRows$Page", name := "placeOfGap", desc := "(I)I" } : Jvm.MethodName) ∈ kq_W := kq_of 853 (by decide +kernel) rfl
theorem kq_854 : Jvm.Cond.code ({ cls := "GlossRows$Page", name := "placeOfGap", desc := "(I)I" } : Jvm.MethodName) prog_6_method_17_code (5 : Nat) (Option.some Jvm.ClassFile.FieldType.int) ∈ kq_W := kq_of 854 (by decide +kernel) rfl
theorem kq_855 : Jvm.Cond.methodLink "GlossRowsLaw" (192 : Nat) ({ cls := "GlossRowsLaw", name := "widthFor", desc := "(LGlossRows;I[J)I" } : Jvm.MethodName) ∈ kq_W := kq_of 855 (by decide +kernel) rfl
theorem kq_856 : Jvm.Cond.static ({ cls := "GlossRowsLaw", name := "widthFor", desc := "(LGlossRows;I[J)I" } : Jvm.MethodName) ∈ kq_W := kq_of 856 (by decide +kernel) rfl
theorem kq_858 : Jvm.Cond.methodLink "GlossRowsLaw" (81 : Nat) ({ cls := "GlossRows", name := "widthFor", desc := "(I)I" } : Jvm.MethodName) ∈ kq_W := kq_of 858 (by decide +kernel) rfl
theorem kq_859 : Jvm.Cond.instanceMethod ({ cls := "GlossRows", name := "widthFor", desc := "(I)I" } : Jvm.MethodName) ∈ kq_W := kq_of 859 (by decide +kernel) rfl
theorem kq_860 : Jvm.Cond.selects "GlossRows" ({ cls := "GlossRows", name := "widthFor", desc := "(I)I" } : Jvm.MethodName) ({ cls := "GlossRows", name := "widthFor", desc := "(I)I" } : Jvm.MethodName) ∈ kq_W := kq_of 860 (by decide +kernel) rfl
theorem kq_861 : Jvm.Cond.code ({ cls := "GlossRows", name := "widthFor", desc := "(I)I" } : Jvm.MethodName) prog_1_method_26_code (3 : Nat) (Option.some Jvm.ClassFile.FieldType.int) ∈ kq_W := kq_of 861 (by decide +kernel) rfl
theorem kq_863 : Jvm.Cond.methodLink "GlossRowsLaw" (199 : Nat) ({ cls := "GlossRowsLaw", name := "rowsWith", desc := "(LGlossRows;II[J)I" } : Jvm.MethodName) ∈ kq_W := kq_of 863 (by decide +kernel) rfl
theorem kq_864 : Jvm.Cond.static ({ cls := "GlossRowsLaw", name := "rowsWith", desc := "(LGlossRows;II[J)I" } : Jvm.MethodName) ∈ kq_W := kq_of 864 (by decide +kernel) rfl
theorem kq_866 : Jvm.Cond.methodLink "GlossRowsLaw" (84 : Nat) ({ cls := "GlossRows", name := "rowsWith", desc := "(II)I" } : Jvm.MethodName) ∈ kq_W := kq_of 866 (by decide +kernel) rfl
theorem kq_867 : Jvm.Cond.instanceMethod ({ cls := "GlossRows", name := "rowsWith", desc := "(II)I" } : Jvm.MethodName) ∈ kq_W := kq_of 867 (by decide +kernel) rfl
theorem kq_868 : Jvm.Cond.selects "GlossRows" ({ cls := "GlossRows", name := "rowsWith", desc := "(II)I" } : Jvm.MethodName) ({ cls := "GlossRows", name := "rowsWith", desc := "(II)I" } : Jvm.MethodName) ∈ kq_W := kq_of 868 (by decide +kernel) rfl
theorem kq_869 : Jvm.Cond.code ({ cls := "GlossRows", name := "rowsWith", desc := "(II)I" } : Jvm.MethodName) prog_1_method_28_code (3 : Nat) (Option.some Jvm.ClassFile.FieldType.int) ∈ kq_W := kq_of 869 (by decide +kernel) rfl
theorem kq_871 : Jvm.Cond.methodLink "GlossRowsLaw" (204 : Nat) ({ cls := "GlossRowsLaw", name := "runScript", desc := "(LGlossRows;IJ[J)I" } : Jvm.MethodName) ∈ kq_W := kq_of 871 (by decide +kernel) rfl
theorem kq_872 : Jvm.Cond.static ({ cls := "GlossRowsLaw", name := "runScript", desc := "(LGlossRows;IJ[J)I" } : Jvm.MethodName) ∈ kq_W := kq_of 872 (by decide +kernel) rfl
theorem kq_874 : Jvm.Cond.methodLink "GlossRowsLaw" (87 : Nat) ({ cls := "GlossRows", name := "runScript", desc := "(IJ)I" } : Jvm.MethodName) ∈ kq_W := kq_of 874 (by decide +kernel) rfl
theorem kq_875 : Jvm.Cond.instanceMethod ({ cls := "GlossRows", name := "runScript", desc := "(IJ)I" } : Jvm.MethodName) ∈ kq_W := kq_of 875 (by decide +kernel) rfl
theorem kq_876 : Jvm.Cond.selects "GlossRows" ({ cls := "GlossRows", name := "runScript", desc := "(IJ)I" } : Jvm.MethodName) ({ cls := "GlossRows", name := "runScript", desc := "(IJ)I" } : Jvm.MethodName) ∈ kq_W := kq_of 876 (by decide +kernel) rfl
theorem kq_877 : Jvm.Cond.code ({ cls := "GlossRows", name := "runScript", desc := "(IJ)I" } : Jvm.MethodName) prog_1_method_29_code (5 : Nat) (Option.some Jvm.ClassFile.FieldType.int) ∈ kq_W := kq_of 877 (by decide +kernel) rfl
theorem kq_879 : Jvm.Cond.methodLink "GlossRows" (317 : Nat) ({ cls := "GlossRows", name := "withoutLowest", desc := "(JI)J" } : Jvm.MethodName) ∈ kq_W := kq_of 879 (by decide +kernel) rfl
theorem kq_880 : Jvm.Cond.static ({ cls := "GlossRows", name := "withoutLowest", desc := "(JI)J" } : Jvm.MethodName) ∈ kq_W := kq_of 880 (by decide +kernel) rfl
theorem kq_881 : Jvm.Cond.code ({ cls := "GlossRows", name := "withoutLowest", desc := "(JI)J" } : Jvm.MethodName) prog_1_method_40_code (6 : Nat) (Option.some Jvm.ClassFile.FieldType.long) ∈ kq_W := kq_of 881 (by decide +kernel) rfl
theorem kq_882 : Jvm.Cond.constantLong "GlossRows" (326 : Nat) (10000 : Int64) ∈ kq_W := kq_of 882 (by decide +kernel) rfl
theorem kq_884 : Jvm.Cond.methodLink "GlossRows" (323 : Nat) ({ cls := "GlossRows$Page", name := "copyFrom", desc := "(LGlossRows$Page;)V" } : Jvm.MethodName) ∈ kq_W := kq_of 884 (by decide +kernel) rfl
theorem kq_885 : Jvm.Cond.methodLink "GlossRows" (328 : Nat) ({ cls := "GlossRows", name := "succeeds", desc := "(I)Z" } : Jvm.MethodName) ∈ kq_W := kq_of 885 (by decide +kernel) rfl
theorem kq_887 : Jvm.Cond.instanceMethod ({ cls := "GlossRows", name := "succeeds", desc := "(I)Z" } : Jvm.MethodName) ∈ kq_W := kq_of 887 (by decide +kernel) rfl
theorem kq_888 : Jvm.Cond.code ({ cls := "GlossRows", name := "succeeds", desc := "(I)Z" } : Jvm.MethodName) prog_1_method_41_code (5 : Nat) (Option.some Jvm.ClassFile.FieldType.boolean) ∈ kq_W := kq_of 888 (by decide +kernel) rfl
theorem kq_889 : Jvm.Cond.methodLink "GlossRows" (364 : Nat) ({ cls := "GlossRows", name := "learnsOnTrial", desc := "(II)Z" } : Jvm.MethodName) ∈ kq_W := kq_of 889 (by decide +kernel) rfl
theorem kq_891 : Jvm.Cond.instanceMethod ({ cls := "GlossRows", name := "learnsOnTrial", desc := "(II)Z" } : Jvm.MethodName) ∈ kq_W := kq_of 891 (by decide +kernel) rfl
theorem kq_892 : Jvm.Cond.code ({ cls := "GlossRows", name := "learnsOnTrial", desc := "(II)Z" } : Jvm.MethodName) prog_1_method_44_code (3 : Nat) (Option.some Jvm.ClassFile.FieldType.boolean) ∈ kq_W := kq_of 892 (by decide +kernel) rfl
theorem kq_893 : Jvm.Cond.methodLink "GlossRows" (367 : Nat) ({ cls := "GlossRows", name := "setsOnTrial", desc := "(II)Z" } : Jvm.MethodName) ∈ kq_W := kq_of 893 (by decide +kernel) rfl
theorem kq_895 : Jvm.Cond.instanceMethod ({ cls := "GlossRows", name := "setsOnTrial", desc := "(II)Z" } : Jvm.MethodName) ∈ kq_W := kq_of 895 (by decide +kernel) rfl
theorem kq_896 : Jvm.Cond.code ({ cls := "GlossRows", name := "setsOnTrial", desc := "(II)Z" } : Jvm.MethodName) prog_1_method_42_code (3 : Nat) (Option.some Jvm.ClassFile.FieldType.boolean) ∈ kq_W := kq_of 896 (by decide +kernel) rfl
theorem kq_897 : Jvm.Cond.methodLink "GlossRows" (370 : Nat) ({ cls := "GlossRows", name := "changesWordOfTrial", desc := "(II)Z" } : Jvm.MethodName) ∈ kq_W := kq_of 897 (by decide +kernel) rfl
theorem kq_899 : Jvm.Cond.instanceMethod ({ cls := "GlossRows", name := "changesWordOfTrial", desc := "(II)Z" } : Jvm.MethodName) ∈ kq_W := kq_of 899 (by decide +kernel) rfl
theorem kq_900 : Jvm.Cond.code ({ cls := "GlossRows", name := "changesWordOfTrial", desc := "(II)Z" } : Jvm.MethodName) prog_1_method_43_code (3 : Nat) (Option.some Jvm.ClassFile.FieldType.boolean) ∈ kq_W := kq_of 900 (by decide +kernel) rfl
theorem kq_901 : Jvm.Cond.methodLink "GlossRows" (373 : Nat) ({ cls := "GlossRows", name := "fillsTrial", desc := "()Z" } : Jvm.MethodName) ∈ kq_W := kq_of 901 (by decide +kernel) rfl
theorem kq_903 : Jvm.Cond.instanceMethod ({ cls := "GlossRows", name := "fillsTrial", desc := "()Z" } : Jvm.MethodName) ∈ kq_W := kq_of 903 (by decide +kernel) rfl
theorem kq_904 : Jvm.Cond.code ({ cls := "GlossRows", name := "fillsTrial", desc := "()Z" } : Jvm.MethodName) prog_1_method_45_code (1 : Nat) (Option.some Jvm.ClassFile.FieldType.boolean) ∈ kq_W := kq_of 904 (by decide +kernel) rfl
theorem kq_905 : Jvm.Cond.methodLink "GlossRowsLaw" (208 : Nat) ({ cls := "GlossRowsLaw", name := "simulate", desc := "(LGlossRows;JI[J)I" } : Jvm.MethodName) ∈ kq_W := kq_of 905 (by decide +kernel) rfl
theorem kq_906 : Jvm.Cond.static ({ cls := "GlossRowsLaw", name := "simulate", desc := "(LGlossRows;JI[J)I" } : Jvm.MethodName) ∈ kq_W := kq_of 906 (by decide +kernel) rfl
theorem kq_908 : Jvm.Cond.methodLink "GlossRowsLaw" (91 : Nat) ({ cls := "GlossRows", name := "simulate", desc := "(JI)I" } : Jvm.MethodName) ∈ kq_W := kq_of 908 (by decide +kernel) rfl
theorem kq_909 : Jvm.Cond.instanceMethod ({ cls := "GlossRows", name := "simulate", desc := "(JI)I" } : Jvm.MethodName) ∈ kq_W := kq_of 909 (by decide +kernel) rfl
theorem kq_910 : Jvm.Cond.selects "GlossRows" ({ cls := "GlossRows", name := "simulate", desc := "(JI)I" } : Jvm.MethodName) ({ cls := "GlossRows", name := "simulate", desc := "(JI)I" } : Jvm.MethodName) ∈ kq_W := kq_of 910 (by decide +kernel) rfl
theorem kq_911 : Jvm.Cond.code ({ cls := "GlossRows", name := "simulate", desc := "(JI)I" } : Jvm.MethodName) prog_1_method_30_code (8 : Nat) (Option.some Jvm.ClassFile.FieldType.int) ∈ kq_W := kq_of 911 (by decide +kernel) rfl
theorem kq_913 : Jvm.Cond.constantLong "GlossRows" (334 : Nat) (6364136223846793005 : Int64) ∈ kq_W := kq_of 913 (by decide +kernel) rfl
theorem kq_914 : Jvm.Cond.constantLong "GlossRows" (336 : Nat) (1442695040888963407 : Int64) ∈ kq_W := kq_of 914 (by decide +kernel) rfl
theorem kq_915 : Jvm.Cond.methodLink "GlossRows" (338 : Nat) ({ cls := "GlossRows", name := "playRound", desc := "(I)V" } : Jvm.MethodName) ∈ kq_W := kq_of 915 (by decide +kernel) rfl
theorem kq_917 : Jvm.Cond.instanceMethod ({ cls := "GlossRows", name := "playRound", desc := "(I)V" } : Jvm.MethodName) ∈ kq_W := kq_of 917 (by decide +kernel) rfl
theorem kq_918 : Jvm.Cond.code ({ cls := "GlossRows", name := "playRound", desc := "(I)V" } : Jvm.MethodName) prog_1_method_46_code (3 : Nat) (Option.none : Option Jvm.ClassFile.FieldType) ∈ kq_W := kq_of 918 (by decide +kernel) rfl
theorem kq_919 : Jvm.Cond.methodLink "GlossRows" (376 : Nat) ({ cls := "GlossRows$Word", name := "turnEnd", desc := "()V" } : Jvm.MethodName) ∈ kq_W := kq_of 919 (by decide +kernel) rfl
theorem kq_920 : Jvm.Cond.instanceMethod ({ cls := "GlossRows$Word", name := "turnEnd", desc := "()V" } : Jvm.MethodName) ∈ kq_W := kq_of 920 (by decide +kernel) rfl
theorem kq_921 : Jvm.Cond.selects "GlossRows$Word" ({ cls := "GlossRows$Word", name := "turnEnd", desc := "()V" } : Jvm.MethodName) ({ cls := "GlossRows$Word", name := "turnEnd", desc := "()V" } : Jvm.MethodName) ∈ kq_W := kq_of 921 (by decide +kernel) rfl
theorem kq_922 : Jvm.Cond.code ({ cls := "GlossRows$Word", name := "turnEnd", desc := "()V" } : Jvm.MethodName) prog_9_method_6_code (1 : Nat) (Option.none : Option Jvm.ClassFile.FieldType) ∈ kq_W := kq_of 922 (by decide +kernel) rfl
theorem kq_923 : Jvm.Cond.methodLink "GlossRows$Word" (36 : Nat) ({ cls := "GlossRows$Word", name := "dropEnd", desc := "()V" } : Jvm.MethodName) ∈ kq_W := kq_of 923 (by decide +kernel) rfl
theorem kq_924 : Jvm.Cond.methodLink "GlossRowsLaw" (212 : Nat) ({ cls := "GlossRowsLaw", name := "save", desc := "(LGlossRows;I[J)I" } : Jvm.MethodName) ∈ kq_W := kq_of 924 (by decide +kernel) rfl
theorem kq_925 : Jvm.Cond.static ({ cls := "GlossRowsLaw", name := "save", desc := "(LGlossRows;I[J)I" } : Jvm.MethodName) ∈ kq_W := kq_of 925 (by decide +kernel) rfl
theorem kq_927 : Jvm.Cond.methodLink "GlossRowsLaw" (95 : Nat) ({ cls := "GlossRows", name := "save", desc := "(I)I" } : Jvm.MethodName) ∈ kq_W := kq_of 927 (by decide +kernel) rfl
theorem kq_928 : Jvm.Cond.instanceMethod ({ cls := "GlossRows", name := "save", desc := "(I)I" } : Jvm.MethodName) ∈ kq_W := kq_of 928 (by decide +kernel) rfl
theorem kq_929 : Jvm.Cond.selects "GlossRows" ({ cls := "GlossRows", name := "save", desc := "(I)I" } : Jvm.MethodName) ({ cls := "GlossRows", name := "save", desc := "(I)I" } : Jvm.MethodName) ∈ kq_W := kq_of 929 (by decide +kernel) rfl
theorem kq_930 : Jvm.Cond.code ({ cls := "GlossRows", name := "save", desc := "(I)I" } : Jvm.MethodName) prog_1_method_31_code (2 : Nat) (Option.some Jvm.ClassFile.FieldType.int) ∈ kq_W := kq_of 930 (by decide +kernel) rfl
theorem kq_931 : Jvm.Cond.methodLink "GlossRows" (341 : Nat) ({ cls := "GlossRows", name := "requireSlot", desc := "(I)V" } : Jvm.MethodName) ∈ kq_W := kq_of 931 (by decide +kernel) rfl
theorem kq_933 : Jvm.Cond.instanceMethod ({ cls := "GlossRows", name := "requireSlot", desc := "(I)V" } : Jvm.MethodName) ∈ kq_W := kq_of 933 (by decide +kernel) rfl
theorem kq_934 : Jvm.Cond.code ({ cls := "GlossRows", name := "requireSlot", desc := "(I)V" } : Jvm.MethodName) prog_1_method_37_code (2 : Nat) (Option.none : Option Jvm.ClassFile.FieldType) ∈ kq_W := kq_of 934 (by decide +kernel) rfl
theorem kq_936 : Jvm.Cond.methodLink "GlossRowsLaw" (215 : Nat) ({ cls := "GlossRowsLaw", name := "restore", desc := "(LGlossRows;I[J)I" } : Jvm.MethodName) ∈ kq_W := kq_of 936 (by decide +kernel) rfl
theorem kq_937 : Jvm.Cond.static ({ cls := "GlossRowsLaw", name := "restore", desc := "(LGlossRows;I[J)I" } : Jvm.MethodName) ∈ kq_W := kq_of 937 (by decide +kernel) rfl
theorem kq_939 : Jvm.Cond.methodLink "GlossRowsLaw" (98 : Nat) ({ cls := "GlossRows", name := "restore", desc := "(I)I" } : Jvm.MethodName) ∈ kq_W := kq_of 939 (by decide +kernel) rfl
theorem kq_940 : Jvm.Cond.instanceMethod ({ cls := "GlossRows", name := "restore", desc := "(I)I" } : Jvm.MethodName) ∈ kq_W := kq_of 940 (by decide +kernel) rfl
theorem kq_941 : Jvm.Cond.selects "GlossRows" ({ cls := "GlossRows", name := "restore", desc := "(I)I" } : Jvm.MethodName) ({ cls := "GlossRows", name := "restore", desc := "(I)I" } : Jvm.MethodName) ∈ kq_W := kq_of 941 (by decide +kernel) rfl
theorem kq_942 : Jvm.Cond.code ({ cls := "GlossRows", name := "restore", desc := "(I)I" } : Jvm.MethodName) prog_1_method_32_code (2 : Nat) (Option.some Jvm.ClassFile.FieldType.int) ∈ kq_W := kq_of 942 (by decide +kernel) rfl
theorem kq_944 : Jvm.Cond.classLink "GlossRowsLaw" (102 : Nat) "GlossRowsModel" ∈ kq_W := kq_of 944 (by decide +kernel) rfl
theorem kq_945 : Jvm.Cond.instantiable "GlossRowsModel" (22 : Nat) ∈ kq_W := kq_of 945 (by decide +kernel) rfl
theorem kq_946 : Jvm.Cond.methodLink "GlossRowsLaw" (104 : Nat) ({ cls := "GlossRowsModel", name := "<init>", desc := "()V" } : Jvm.MethodName) ∈ kq_W := kq_of 946 (by decide +kernel) rfl
theorem kq_947 : Jvm.Cond.instanceMethod ({ cls := "GlossRowsModel", name := "<init>", desc := "()V" } : Jvm.MethodName) ∈ kq_W := kq_of 947 (by decide +kernel) rfl
theorem kq_948 : Jvm.Cond.code ({ cls := "GlossRowsModel", name := "<init>", desc := "()V" } : Jvm.MethodName) prog_11_method_1_code (1 : Nat) (Option.none : Option Jvm.ClassFile.FieldType) ∈ kq_W := kq_of 948 (by decide +kernel) rfl
theorem kq_949 : Jvm.Cond.methodLink "GlossRowsModel" (1 : Nat) ({ cls := "java/lang/Object", name := "<init>", desc := "()V" } : Jvm.MethodName) ∈ kq_W := kq_of 949 (by decide +kernel) rfl
theorem kq_950 : Jvm.Cond.methodLink "GlossRowsModel" (57 : Nat) ({ cls := "GlossRowsModel", name := "clean", desc := "([J)V" } : Jvm.MethodName) ∈ kq_W := kq_of 950 (by decide +kernel) rfl
theorem kq_951 : Jvm.Cond.static ({ cls := "GlossRowsModel", name := "clean", desc := "([J)V" } : Jvm.MethodName) ∈ kq_W := kq_of 951 (by decide +kernel) rfl
theorem kq_952 : Jvm.Cond.code ({ cls := "GlossRowsModel", name := "clean", desc := "([J)V" } : Jvm.MethodName) prog_11_method_2_code (2 : Nat) (Option.none : Option Jvm.ClassFile.FieldType) ∈ kq_W := kq_of 952 (by decide +kernel) rfl
theorem kq_953 : Jvm.Cond.constantLong "GlossRowsModel" (61 : Nat) (30 : Int64) ∈ kq_W := kq_of 953 (by decide +kernel) rfl
theorem kq_954 : Jvm.Cond.constantLong "GlossRowsModel" (63 : Nat) (2 : Int64) ∈ kq_W := kq_of 954 (by decide +kernel) rfl
theorem kq_955 : Jvm.Cond.fieldLink "GlossRowsModel" (65 : Nat) "GlossRowsModel" "refusal" "I" ∈ kq_W := kq_of 955 (by decide +kernel) rfl
theorem kq_956 : Jvm.Cond.fieldLink "GlossRowsModel" (7 : Nat) "GlossRowsModel" "script" "[I" ∈ kq_W := kq_of 956 (by decide +kernel) rfl
theorem kq_957 : Jvm.Cond.fieldLink "GlossRowsModel" (159 : Nat) "GlossRowsModel" "scriptSize" "I" ∈ kq_W := kq_of 957 (by decide +kernel) rfl
theorem kq_958 : Jvm.Cond.fieldLink "GlossRowsModel" (154 : Nat) "GlossRowsModel" "readMany" "I" ∈ kq_W := kq_of 958 (by decide +kernel) rfl
theorem kq_959 : Jvm.Cond.fieldLink "GlossRowsModel" (13 : Nat) "GlossRowsModel" "read" "[J" ∈ kq_W := kq_of 959 (by decide +kernel) rfl
theorem kq_960 : Jvm.Cond.fieldLink "GlossRowsModel" (17 : Nat) "GlossRowsModel" "now" "[J" ∈ kq_W := kq_of 960 (by decide +kernel) rfl
theorem kq_961 : Jvm.Cond.fieldLink "GlossRowsModel" (20 : Nat) "GlossRowsModel" "trial" "[J" ∈ kq_W := kq_of 961 (by decide +kernel) rfl
theorem kq_962 : Jvm.Cond.fieldLink "GlossRowsModel" (23 : Nat) "GlossRowsModel" "diary" "[J" ∈ kq_W := kq_of 962 (by decide +kernel) rfl
theorem kq_963 : Jvm.Cond.fieldLink "GlossRowsModel" (71 : Nat) "GlossRowsModel" "acts" "I" ∈ kq_W := kq_of 963 (by decide +kernel) rfl
theorem kq_964 : Jvm.Cond.fieldLink "GlossRowsModel" (26 : Nat) "GlossRowsModel" "kept" "[J" ∈ kq_W := kq_of 964 (by decide +kernel) rfl
theorem kq_965 : Jvm.Cond.fieldLink "GlossRowsModel" (29 : Nat) "GlossRowsModel" "isKept" "[Z" ∈ kq_W := kq_of 965 (by decide +kernel) rfl
theorem kq_966 : Jvm.Cond.fieldLink "GlossRowsModel" (119 : Nat) "GlossRowsModel" "lines" "I" ∈ kq_W := kq_of 966 (by decide +kernel) rfl
theorem kq_967 : Jvm.Cond.fieldLink "GlossRowsModel" (116 : Nat) "GlossRowsModel" "rows" "I" ∈ kq_W := kq_of 967 (by decide +kernel) rfl
theorem kq_968 : Jvm.Cond.fieldLink "GlossRowsModel" (122 : Nat) "GlossRowsModel" "sentences" "I" ∈ kq_W := kq_of 968 (by decide +kernel) rfl
theorem kq_969 : Jvm.Cond.fieldLink "GlossRowsModel" (33 : Nat) "GlossRowsModel" "lineOf" "[I" ∈ kq_W := kq_of 969 (by decide +kernel) rfl
theorem kq_970 : Jvm.Cond.fieldLink "GlossRowsModel" (36 : Nat) "GlossRowsModel" "columnOf" "[I" ∈ kq_W := kq_of 970 (by decide +kernel) rfl
theorem kq_971 : Jvm.Cond.fieldLink "GlossRowsModel" (39 : Nat) "GlossRowsModel" "widthOf" "[I" ∈ kq_W := kq_of 971 (by decide +kernel) rfl
theorem kq_972 : Jvm.Cond.fieldLink "GlossRowsModel" (42 : Nat) "GlossRowsModel" "sentenceOf" "[I" ∈ kq_W := kq_of 972 (by decide +kernel) rfl
theorem kq_973 : Jvm.Cond.fieldLink "GlossRowsModel" (45 : Nat) "GlossRowsModel" "lengthOf" "[I" ∈ kq_W := kq_of 973 (by decide +kernel) rfl
theorem kq_974 : Jvm.Cond.fieldLink "GlossRowsModel" (48 : Nat) "GlossRowsModel" "rowKind" "[I" ∈ kq_W := kq_of 974 (by decide +kernel) rfl
theorem kq_975 : Jvm.Cond.fieldLink "GlossRowsModel" (51 : Nat) "GlossRowsModel" "rowOf" "[I" ∈ kq_W := kq_of 975 (by decide +kernel) rfl
theorem kq_976 : Jvm.Cond.fieldLink "GlossRowsModel" (54 : Nat) "GlossRowsModel" "rowFrom" "[I" ∈ kq_W := kq_of 976 (by decide +kernel) rfl
theorem kq_977 : Jvm.Cond.lays "GlossRowsModel" "GlossRowsModel" "refusal" "I" ∈ kq_W := kq_of 977 (by decide +kernel) rfl
theorem kq_979 : Jvm.Cond.laysFinal "GlossRowsModel" "GlossRowsModel" "script" "[I" ∈ kq_W := kq_of 979 (by decide +kernel) rfl
theorem kq_981 : Jvm.Cond.lays "GlossRowsModel" "GlossRowsModel" "scriptSize" "I" ∈ kq_W := kq_of 981 (by decide +kernel) rfl
theorem kq_983 : Jvm.Cond.lays "GlossRowsModel" "GlossRowsModel" "readMany" "I" ∈ kq_W := kq_of 983 (by decide +kernel) rfl
theorem kq_985 : Jvm.Cond.laysFinal "GlossRowsModel" "GlossRowsModel" "read" "[J" ∈ kq_W := kq_of 985 (by decide +kernel) rfl
theorem kq_987 : Jvm.Cond.laysFinal "GlossRowsModel" "GlossRowsModel" "now" "[J" ∈ kq_W := kq_of 987 (by decide +kernel) rfl
theorem kq_989 : Jvm.Cond.laysFinal "GlossRowsModel" "GlossRowsModel" "trial" "[J" ∈ kq_W := kq_of 989 (by decide +kernel) rfl
theorem kq_991 : Jvm.Cond.laysFinal "GlossRowsModel" "GlossRowsModel" "diary" "[J" ∈ kq_W := kq_of 991 (by decide +kernel) rfl
theorem kq_993 : Jvm.Cond.lays "GlossRowsModel" "GlossRowsModel" "acts" "I" ∈ kq_W := kq_of 993 (by decide +kernel) rfl
theorem kq_995 : Jvm.Cond.laysFinal "GlossRowsModel" "GlossRowsModel" "kept" "[J" ∈ kq_W := kq_of 995 (by decide +kernel) rfl
theorem kq_997 : Jvm.Cond.laysFinal "GlossRowsModel" "GlossRowsModel" "isKept" "[Z" ∈ kq_W := kq_of 997 (by decide +kernel) rfl
theorem kq_999 : Jvm.Cond.lays "GlossRowsModel" "GlossRowsModel" "lines" "I" ∈ kq_W := kq_of 999 (by decide +kernel) rfl
theorem kq_1001 : Jvm.Cond.lays "GlossRowsModel" "GlossRowsModel" "rows" "I" ∈ kq_W := kq_of 1001 (by decide +kernel) rfl
theorem kq_1003 : Jvm.Cond.lays "GlossRowsModel" "GlossRowsModel" "sentences" "I" ∈ kq_W := kq_of 1003 (by decide +kernel) rfl
theorem kq_1005 : Jvm.Cond.laysFinal "GlossRowsModel" "GlossRowsModel" "lineOf" "[I" ∈ kq_W := kq_of 1005 (by decide +kernel) rfl
theorem kq_1007 : Jvm.Cond.laysFinal "GlossRowsModel" "GlossRowsModel" "columnOf" "[I" ∈ kq_W := kq_of 1007 (by decide +kernel) rfl
theorem kq_1009 : Jvm.Cond.laysFinal "GlossRowsModel" "GlossRowsModel" "widthOf" "[I" ∈ kq_W := kq_of 1009 (by decide +kernel) rfl
theorem kq_1011 : Jvm.Cond.laysFinal "GlossRowsModel" "GlossRowsModel" "sentenceOf" "[I" ∈ kq_W := kq_of 1011 (by decide +kernel) rfl
theorem kq_1013 : Jvm.Cond.laysFinal "GlossRowsModel" "GlossRowsModel" "lengthOf" "[I" ∈ kq_W := kq_of 1013 (by decide +kernel) rfl
theorem kq_1015 : Jvm.Cond.laysFinal "GlossRowsModel" "GlossRowsModel" "rowKind" "[I" ∈ kq_W := kq_of 1015 (by decide +kernel) rfl
theorem kq_1017 : Jvm.Cond.laysFinal "GlossRowsModel" "GlossRowsModel" "rowOf" "[I" ∈ kq_W := kq_of 1017 (by decide +kernel) rfl
theorem kq_1019 : Jvm.Cond.laysFinal "GlossRowsModel" "GlossRowsModel" "rowFrom" "[I" ∈ kq_W := kq_of 1019 (by decide +kernel) rfl
theorem kq_1022 : Jvm.Cond.methodLink "GlossRowsLaw" (111 : Nat) ({ cls := "GlossRowsModel", name := "thrown", desc := "()I" } : Jvm.MethodName) ∈ kq_W := kq_of 1022 (by decide +kernel) rfl
theorem kq_1023 : Jvm.Cond.instanceMethod ({ cls := "GlossRowsModel", name := "thrown", desc := "()I" } : Jvm.MethodName) ∈ kq_W := kq_of 1023 (by decide +kernel) rfl
theorem kq_1024 : Jvm.Cond.selects "GlossRowsModel" ({ cls := "GlossRowsModel", name := "thrown", desc := "()I" } : Jvm.MethodName) ({ cls := "GlossRowsModel", name := "thrown", desc := "()I" } : Jvm.MethodName) ∈ kq_W := kq_of 1024 (by decide +kernel) rfl
theorem kq_1025 : Jvm.Cond.code ({ cls := "GlossRowsModel", name := "thrown", desc := "()I" } : Jvm.MethodName) prog_11_method_3_code (1 : Nat) (Option.some Jvm.ClassFile.FieldType.int) ∈ kq_W := kq_of 1025 (by decide +kernel) rfl
theorem kq_1026 : Jvm.Cond.methodLink "GlossRowsLaw" (110 : Nat) ({ cls := "GlossRowsModel", name := "append", desc := "(I)I" } : Jvm.MethodName) ∈ kq_W := kq_of 1026 (by decide +kernel) rfl
theorem kq_1027 : Jvm.Cond.instanceMethod ({ cls := "GlossRowsModel", name := "append", desc := "(I)I" } : Jvm.MethodName) ∈ kq_W := kq_of 1027 (by decide +kernel) rfl
theorem kq_1028 : Jvm.Cond.selects "GlossRowsModel" ({ cls := "GlossRowsModel", name := "append", desc := "(I)I" } : Jvm.MethodName) ({ cls := "GlossRowsModel", name := "append", desc := "(I)I" } : Jvm.MethodName) ∈ kq_W := kq_of 1028 (by decide +kernel) rfl
theorem kq_1029 : Jvm.Cond.code ({ cls := "GlossRowsModel", name := "append", desc := "(I)I" } : Jvm.MethodName) prog_11_method_38_code (2 : Nat) (Option.some Jvm.ClassFile.FieldType.int) ∈ kq_W := kq_of 1029 (by decide +kernel) rfl
theorem kq_1030 : Jvm.Cond.constantLong "GlossRowsModel" (157 : Nat) (255 : Int64) ∈ kq_W := kq_of 1030 (by decide +kernel) rfl
theorem kq_1031 : Jvm.Cond.methodLink "GlossRowsModel" (90 : Nat) ({ cls := "GlossRowsModel", name := "in", desc := "(JJJ)Z" } : Jvm.MethodName) ∈ kq_W := kq_of 1031 (by decide +kernel) rfl
theorem kq_1032 : Jvm.Cond.static ({ cls := "GlossRowsModel", name := "in", desc := "(JJJ)Z" } : Jvm.MethodName) ∈ kq_W := kq_of 1032 (by decide +kernel) rfl
theorem kq_1033 : Jvm.Cond.code ({ cls := "GlossRowsModel", name := "in", desc := "(JJJ)Z" } : Jvm.MethodName) prog_11_method_5_code (6 : Nat) (Option.some Jvm.ClassFile.FieldType.boolean) ∈ kq_W := kq_of 1033 (by decide +kernel) rfl
theorem kq_1034 : Jvm.Cond.methodLink "GlossRowsModel" (162 : Nat) ({ cls := "GlossRowsModel", name := "refused", desc := "(I)Z" } : Jvm.MethodName) ∈ kq_W := kq_of 1034 (by decide +kernel) rfl
theorem kq_1036 : Jvm.Cond.instanceMethod ({ cls := "GlossRowsModel", name := "refused", desc := "(I)Z" } : Jvm.MethodName) ∈ kq_W := kq_of 1036 (by decide +kernel) rfl
theorem kq_1037 : Jvm.Cond.code ({ cls := "GlossRowsModel", name := "refused", desc := "(I)Z" } : Jvm.MethodName) prog_11_method_4_code (2 : Nat) (Option.some Jvm.ClassFile.FieldType.boolean) ∈ kq_W := kq_of 1037 (by decide +kernel) rfl
theorem kq_1038 : Jvm.Cond.methodLink "GlossRowsLaw" (117 : Nat) ({ cls := "GlossRowsModel", name := "clearText", desc := "()I" } : Jvm.MethodName) ∈ kq_W := kq_of 1038 (by decide +kernel) rfl
theorem kq_1039 : Jvm.Cond.instanceMethod ({ cls := "GlossRowsModel", name := "clearText", desc := "()I" } : Jvm.MethodName) ∈ kq_W := kq_of 1039 (by decide +kernel) rfl
theorem kq_1040 : Jvm.Cond.selects "GlossRowsModel" ({ cls := "GlossRowsModel", name := "clearText", desc := "()I" } : Jvm.MethodName) ({ cls := "GlossRowsModel", name := "clearText", desc := "()I" } : Jvm.MethodName) ∈ kq_W := kq_of 1040 (by decide +kernel) rfl
theorem kq_1041 : Jvm.Cond.code ({ cls := "GlossRowsModel", name := "clearText", desc := "()I" } : Jvm.MethodName) prog_11_method_39_code (2 : Nat) (Option.some Jvm.ClassFile.FieldType.int) ∈ kq_W := kq_of 1041 (by decide +kernel) rfl
theorem kq_1042 : Jvm.Cond.methodLink "GlossRowsLaw" (121 : Nat) ({ cls := "GlossRowsModel", name := "errorPosition", desc := "()I" } : Jvm.MethodName) ∈ kq_W := kq_of 1042 (by decide +kernel) rfl
theorem kq_1043 : Jvm.Cond.instanceMethod ({ cls := "GlossRowsModel", name := "errorPosition", desc := "()I" } : Jvm.MethodName) ∈ kq_W := kq_of 1043 (by decide +kernel) rfl
theorem kq_1044 : Jvm.Cond.selects "GlossRowsModel" ({ cls := "GlossRowsModel", name := "errorPosition", desc := "()I" } : Jvm.MethodName) ({ cls := "GlossRowsModel", name := "errorPosition", desc := "()I" } : Jvm.MethodName) ∈ kq_W := kq_of 1044 (by decide +kernel) rfl
theorem kq_1045 : Jvm.Cond.code ({ cls := "GlossRowsModel", name := "errorPosition", desc := "()I" } : Jvm.MethodName) prog_11_method_45_code (1 : Nat) (Option.some Jvm.ClassFile.FieldType.int) ∈ kq_W := kq_of 1045 (by decide +kernel) rfl
theorem kq_1046 : Jvm.Cond.methodLink "GlossRowsModel" (186 : Nat) ({ cls := "GlossRowsModel", name := "readText", desc := "()I" } : Jvm.MethodName) ∈ kq_W := kq_of 1046 (by decide +kernel) rfl
theorem kq_1048 : Jvm.Cond.instanceMethod ({ cls := "GlossRowsModel", name := "readText", desc := "()I" } : Jvm.MethodName) ∈ kq_W := kq_of 1048 (by decide +kernel) rfl
theorem kq_1049 : Jvm.Cond.code ({ cls := "GlossRowsModel", name := "readText", desc := "()I" } : Jvm.MethodName) prog_11_method_44_code (10 : Nat) (Option.some Jvm.ClassFile.FieldType.int) ∈ kq_W := kq_of 1049 (by decide +kernel) rfl
theorem kq_1050 : Jvm.Cond.methodLink "GlossRowsModel" (173 : Nat) ({ cls := "GlossRowsModel", name := "begin", desc := "()V" } : Jvm.MethodName) ∈ kq_W := kq_of 1050 (by decide +kernel) rfl
theorem kq_1052 : Jvm.Cond.instanceMethod ({ cls := "GlossRowsModel", name := "begin", desc := "()V" } : Jvm.MethodName) ∈ kq_W := kq_of 1052 (by decide +kernel) rfl
theorem kq_1053 : Jvm.Cond.code ({ cls := "GlossRowsModel", name := "begin", desc := "()V" } : Jvm.MethodName) prog_11_method_43_code (2 : Nat) (Option.none : Option Jvm.ClassFile.FieldType) ∈ kq_W := kq_of 1053 (by decide +kernel) rfl
theorem kq_1054 : Jvm.Cond.methodLink "GlossRowsModel" (176 : Nat) ({ cls := "GlossRowsModel", name := "isGlossLetter", desc := "(I)Z" } : Jvm.MethodName) ∈ kq_W := kq_of 1054 (by decide +kernel) rfl
theorem kq_1055 : Jvm.Cond.static ({ cls := "GlossRowsModel", name := "isGlossLetter", desc := "(I)Z" } : Jvm.MethodName) ∈ kq_W := kq_of 1055 (by decide +kernel) rfl
theorem kq_1056 : Jvm.Cond.code ({ cls := "GlossRowsModel", name := "isGlossLetter", desc := "(I)Z" } : Jvm.MethodName) prog_11_method_41_code (1 : Nat) (Option.some Jvm.ClassFile.FieldType.boolean) ∈ kq_W := kq_of 1056 (by decide +kernel) rfl
theorem kq_1057 : Jvm.Cond.methodLink "GlossRowsModel" (170 : Nat) ({ cls := "GlossRowsModel", name := "isLetter", desc := "(I)Z" } : Jvm.MethodName) ∈ kq_W := kq_of 1057 (by decide +kernel) rfl
theorem kq_1058 : Jvm.Cond.static ({ cls := "GlossRowsModel", name := "isLetter", desc := "(I)Z" } : Jvm.MethodName) ∈ kq_W := kq_of 1058 (by decide +kernel) rfl
theorem kq_1059 : Jvm.Cond.code ({ cls := "GlossRowsModel", name := "isLetter", desc := "(I)Z" } : Jvm.MethodName) prog_11_method_40_code (1 : Nat) (Option.some Jvm.ClassFile.FieldType.boolean) ∈ kq_W := kq_of 1059 (by decide +kernel) rfl
theorem kq_1060 : Jvm.Cond.constantLong "GlossRowsModel" (166 : Nat) (97 : Int64) ∈ kq_W := kq_of 1060 (by decide +kernel) rfl
theorem kq_1061 : Jvm.Cond.constantLong "GlossRowsModel" (168 : Nat) (122 : Int64) ∈ kq_W := kq_of 1061 (by decide +kernel) rfl
theorem kq_1062 : Jvm.Cond.methodLink "GlossRowsModel" (179 : Nat) ({ cls := "GlossRowsModel", name := "withLetter", desc := "(JII)J" } : Jvm.MethodName) ∈ kq_W := kq_of 1062 (by decide +kernel) rfl
theorem kq_1063 : Jvm.Cond.static ({ cls := "GlossRowsModel", name := "withLetter", desc := "(JII)J" } : Jvm.MethodName) ∈ kq_W := kq_of 1063 (by decide +kernel) rfl
theorem kq_1064 : Jvm.Cond.code ({ cls := "GlossRowsModel", name := "withLetter", desc := "(JII)J" } : Jvm.MethodName) prog_11_method_11_code (6 : Nat) (Option.some Jvm.ClassFile.FieldType.long) ∈ kq_W := kq_of 1064 (by decide +kernel) rfl
theorem kq_1065 : Jvm.Cond.constantLong "GlossRowsModel" (80 : Nat) (27 : Int64) ∈ kq_W := kq_of 1065 (by decide +kernel) rfl
theorem kq_1066 : Jvm.Cond.methodLink "GlossRowsModel" (183 : Nat) ({ cls := "GlossRowsModel", name := "isMark", desc := "(I)Z" } : Jvm.MethodName) ∈ kq_W := kq_of 1066 (by decide +kernel) rfl
theorem kq_1067 : Jvm.Cond.static ({ cls := "GlossRowsModel", name := "isMark", desc := "(I)Z" } : Jvm.MethodName) ∈ kq_W := kq_of 1067 (by decide +kernel) rfl
theorem kq_1068 : Jvm.Cond.code ({ cls := "GlossRowsModel", name := "isMark", desc := "(I)Z" } : Jvm.MethodName) prog_11_method_42_code (1 : Nat) (Option.some Jvm.ClassFile.FieldType.boolean) ∈ kq_W := kq_of 1068 (by decide +kernel) rfl
theorem kq_1069 : Jvm.Cond.methodLink "GlossRowsLaw" (125 : Nat) ({ cls := "GlossRowsModel", name := "load", desc := "()I" } : Jvm.MethodName) ∈ kq_W := kq_of 1069 (by decide +kernel) rfl
theorem kq_1070 : Jvm.Cond.instanceMethod ({ cls := "GlossRowsModel", name := "load", desc := "()I" } : Jvm.MethodName) ∈ kq_W := kq_of 1070 (by decide +kernel) rfl
theorem kq_1071 : Jvm.Cond.selects "GlossRowsModel" ({ cls := "GlossRowsModel", name := "load", desc := "()I" } : Jvm.MethodName) ({ cls := "GlossRowsModel", name := "load", desc := "()I" } : Jvm.MethodName) ∈ kq_W := kq_of 1071 (by decide +kernel) rfl
theorem kq_1072 : Jvm.Cond.code ({ cls := "GlossRowsModel", name := "load", desc := "()I" } : Jvm.MethodName) prog_11_method_46_code (1 : Nat) (Option.some Jvm.ClassFile.FieldType.int) ∈ kq_W := kq_of 1072 (by decide +kernel) rfl
theorem kq_1073 : Jvm.Cond.methodLink "GlossRowsModel" (190 : Nat) ({ cls := "GlossRowsModel", name := "insertOn", desc := "([JI)V" } : Jvm.MethodName) ∈ kq_W := kq_of 1073 (by decide +kernel) rfl
theorem kq_1075 : Jvm.Cond.instanceMethod ({ cls := "GlossRowsModel", name := "insertOn", desc := "([JI)V" } : Jvm.MethodName) ∈ kq_W := kq_of 1075 (by decide +kernel) rfl
theorem kq_1076 : Jvm.Cond.code ({ cls := "GlossRowsModel", name := "insertOn", desc := "([JI)V" } : Jvm.MethodName) prog_11_method_37_code (4 : Nat) (Option.none : Option Jvm.ClassFile.FieldType) ∈ kq_W := kq_of 1076 (by decide +kernel) rfl
theorem kq_1077 : Jvm.Cond.methodLink "GlossRowsModel" (86 : Nat) ({ cls := "GlossRowsModel", name := "many", desc := "([J)I" } : Jvm.MethodName) ∈ kq_W := kq_of 1077 (by decide +kernel) rfl
theorem kq_1078 : Jvm.Cond.static ({ cls := "GlossRowsModel", name := "many", desc := "([J)I" } : Jvm.MethodName) ∈ kq_W := kq_of 1078 (by decide +kernel) rfl
theorem kq_1079 : Jvm.Cond.code ({ cls := "GlossRowsModel", name := "many", desc := "([J)I" } : Jvm.MethodName) prog_11_method_17_code (1 : Nat) (Option.some Jvm.ClassFile.FieldType.int) ∈ kq_W := kq_of 1079 (by decide +kernel) rfl
theorem kq_1080 : Jvm.Cond.methodLink "GlossRowsModel" (74 : Nat) ({ cls := "GlossRowsModel", name := "copy", desc := "([JI[JII)V" } : Jvm.MethodName) ∈ kq_W := kq_of 1080 (by decide +kernel) rfl
theorem kq_1081 : Jvm.Cond.static ({ cls := "GlossRowsModel", name := "copy", desc := "([JI[JII)V" } : Jvm.MethodName) ∈ kq_W := kq_of 1081 (by decide +kernel) rfl
theorem kq_1082 : Jvm.Cond.code ({ cls := "GlossRowsModel", name := "copy", desc := "([JI[JII)V" } : Jvm.MethodName) prog_11_method_6_code (6 : Nat) (Option.none : Option Jvm.ClassFile.FieldType) ∈ kq_W := kq_of 1082 (by decide +kernel) rfl
theorem kq_1083 : Jvm.Cond.methodLink "GlossRowsLaw" (128 : Nat) ({ cls := "GlossRowsModel", name := "about", desc := "(I)I" } : Jvm.MethodName) ∈ kq_W := kq_of 1083 (by decide +kernel) rfl
theorem kq_1084 : Jvm.Cond.instanceMethod ({ cls := "GlossRowsModel", name := "about", desc := "(I)I" } : Jvm.MethodName) ∈ kq_W := kq_of 1084 (by decide +kernel) rfl
theorem kq_1085 : Jvm.Cond.selects "GlossRowsModel" ({ cls := "GlossRowsModel", name := "about", desc := "(I)I" } : Jvm.MethodName) ({ cls := "GlossRowsModel", name := "about", desc := "(I)I" } : Jvm.MethodName) ∈ kq_W := kq_of 1085 (by decide +kernel) rfl
theorem kq_1086 : Jvm.Cond.code ({ cls := "GlossRowsModel", name := "about", desc := "(I)I" } : Jvm.MethodName) prog_11_method_48_code (4 : Nat) (Option.some Jvm.ClassFile.FieldType.int) ∈ kq_W := kq_of 1086 (by decide +kernel) rfl
theorem kq_1087 : Jvm.Cond.constantLong "GlossRowsModel" (194 : Nat) (11 : Int64) ∈ kq_W := kq_of 1087 (by decide +kernel) rfl
theorem kq_1088 : Jvm.Cond.methodLink "GlossRowsModel" (196 : Nat) ({ cls := "GlossRowsModel", name := "layNow", desc := "()V" } : Jvm.MethodName) ∈ kq_W := kq_of 1088 (by decide +kernel) rfl
theorem kq_1090 : Jvm.Cond.instanceMethod ({ cls := "GlossRowsModel", name := "layNow", desc := "()V" } : Jvm.MethodName) ∈ kq_W := kq_of 1090 (by decide +kernel) rfl
theorem kq_1091 : Jvm.Cond.code ({ cls := "GlossRowsModel", name := "layNow", desc := "()V" } : Jvm.MethodName) prog_11_method_49_code (1 : Nat) (Option.none : Option Jvm.ClassFile.FieldType) ∈ kq_W := kq_of 1091 (by decide +kernel) rfl
theorem kq_1092 : Jvm.Cond.methodLink "GlossRowsModel" (132 : Nat) ({ cls := "GlossRowsModel", name := "layOut", desc := "([JII)V" } : Jvm.MethodName) ∈ kq_W := kq_of 1092 (by decide +kernel) rfl
theorem kq_1094 : Jvm.Cond.instanceMethod ({ cls := "GlossRowsModel", name := "layOut", desc := "([JII)V" } : Jvm.MethodName) ∈ kq_W := kq_of 1094 (by decide +kernel) rfl
theorem kq_1095 : Jvm.Cond.code ({ cls := "GlossRowsModel", name := "layOut", desc := "([JII)V" } : Jvm.MethodName) prog_11_method_24_code (13 : Nat) (Option.none : Option Jvm.ClassFile.FieldType) ∈ kq_W := kq_of 1095 (by decide +kernel) rfl
theorem kq_1096 : Jvm.Cond.methodLink "GlossRowsModel" (125 : Nat) ({ cls := "GlossRowsModel", name := "wide", desc := "([JII)I" } : Jvm.MethodName) ∈ kq_W := kq_of 1096 (by decide +kernel) rfl
theorem kq_1097 : Jvm.Cond.static ({ cls := "GlossRowsModel", name := "wide", desc := "([JII)I" } : Jvm.MethodName) ∈ kq_W := kq_of 1097 (by decide +kernel) rfl
theorem kq_1098 : Jvm.Cond.code ({ cls := "GlossRowsModel", name := "wide", desc := "([JII)I" } : Jvm.MethodName) prog_11_method_22_code (10 : Nat) (Option.some Jvm.ClassFile.FieldType.int) ∈ kq_W := kq_of 1098 (by decide +kernel) rfl
theorem kq_1099 : Jvm.Cond.methodLink "GlossRowsModel" (98 : Nat) ({ cls := "GlossRowsModel", name := "parts", desc := "([JI)I" } : Jvm.MethodName) ∈ kq_W := kq_of 1099 (by decide +kernel) rfl
theorem kq_1100 : Jvm.Cond.static ({ cls := "GlossRowsModel", name := "parts", desc := "([JI)I" } : Jvm.MethodName) ∈ kq_W := kq_of 1100 (by decide +kernel) rfl
theorem kq_1101 : Jvm.Cond.code ({ cls := "GlossRowsModel", name := "parts", desc := "([JI)I" } : Jvm.MethodName) prog_11_method_16_code (2 : Nat) (Option.some Jvm.ClassFile.FieldType.int) ∈ kq_W := kq_of 1101 (by decide +kernel) rfl
theorem kq_1102 : Jvm.Cond.methodLink "GlossRowsModel" (82 : Nat) ({ cls := "GlossRowsModel", name := "cell", desc := "(II)I" } : Jvm.MethodName) ∈ kq_W := kq_of 1102 (by decide +kernel) rfl
theorem kq_1103 : Jvm.Cond.static ({ cls := "GlossRowsModel", name := "cell", desc := "(II)I" } : Jvm.MethodName) ∈ kq_W := kq_of 1103 (by decide +kernel) rfl
theorem kq_1104 : Jvm.Cond.code ({ cls := "GlossRowsModel", name := "cell", desc := "(II)I" } : Jvm.MethodName) prog_11_method_12_code (2 : Nat) (Option.some Jvm.ClassFile.FieldType.int) ∈ kq_W := kq_of 1104 (by decide +kernel) rfl
theorem kq_1105 : Jvm.Cond.methodLink "GlossRowsModel" (109 : Nat) ({ cls := "GlossRowsModel", name := "partAt", desc := "(II)I" } : Jvm.MethodName) ∈ kq_W := kq_of 1105 (by decide +kernel) rfl
theorem kq_1106 : Jvm.Cond.static ({ cls := "GlossRowsModel", name := "partAt", desc := "(II)I" } : Jvm.MethodName) ∈ kq_W := kq_of 1106 (by decide +kernel) rfl
theorem kq_1107 : Jvm.Cond.code ({ cls := "GlossRowsModel", name := "partAt", desc := "(II)I" } : Jvm.MethodName) prog_11_method_14_code (2 : Nat) (Option.some Jvm.ClassFile.FieldType.int) ∈ kq_W := kq_of 1107 (by decide +kernel) rfl
theorem kq_1108 : Jvm.Cond.methodLink "GlossRowsModel" (105 : Nat) ({ cls := "GlossRowsModel", name := "lettersOf", desc := "(J)I" } : Jvm.MethodName) ∈ kq_W := kq_of 1108 (by decide +kernel) rfl
theorem kq_1109 : Jvm.Cond.static ({ cls := "GlossRowsModel", name := "lettersOf", desc := "(J)I" } : Jvm.MethodName) ∈ kq_W := kq_of 1109 (by decide +kernel) rfl
theorem kq_1110 : Jvm.Cond.code ({ cls := "GlossRowsModel", name := "lettersOf", desc := "(J)I" } : Jvm.MethodName) prog_11_method_9_code (3 : Nat) (Option.some Jvm.ClassFile.FieldType.int) ∈ kq_W := kq_of 1110 (by decide +kernel) rfl
theorem kq_1111 : Jvm.Cond.constantLong "GlossRowsModel" (78 : Nat) (31 : Int64) ∈ kq_W := kq_of 1111 (by decide +kernel) rfl
theorem kq_1112 : Jvm.Cond.methodLink "GlossRowsModel" (112 : Nat) ({ cls := "GlossRowsModel", name := "shownLength", desc := "([JII)I" } : Jvm.MethodName) ∈ kq_W := kq_of 1112 (by decide +kernel) rfl
theorem kq_1113 : Jvm.Cond.static ({ cls := "GlossRowsModel", name := "shownLength", desc := "([JII)I" } : Jvm.MethodName) ∈ kq_W := kq_of 1113 (by decide +kernel) rfl
theorem kq_1114 : Jvm.Cond.code ({ cls := "GlossRowsModel", name := "shownLength", desc := "([JII)I" } : Jvm.MethodName) prog_11_method_21_code (5 : Nat) (Option.some Jvm.ClassFile.FieldType.int) ∈ kq_W := kq_of 1114 (by decide +kernel) rfl
theorem kq_1115 : Jvm.Cond.methodLink "GlossRowsModel" (102 : Nat) ({ cls := "GlossRowsModel", name := "glossAt", desc := "(II)I" } : Jvm.MethodName) ∈ kq_W := kq_of 1115 (by decide +kernel) rfl
theorem kq_1116 : Jvm.Cond.static ({ cls := "GlossRowsModel", name := "glossAt", desc := "(II)I" } : Jvm.MethodName) ∈ kq_W := kq_of 1116 (by decide +kernel) rfl
theorem kq_1117 : Jvm.Cond.code ({ cls := "GlossRowsModel", name := "glossAt", desc := "(II)I" } : Jvm.MethodName) prog_11_method_15_code (2 : Nat) (Option.some Jvm.ClassFile.FieldType.int) ∈ kq_W := kq_of 1117 (by decide +kernel) rfl
theorem kq_1118 : Jvm.Cond.methodLink "GlossRowsModel" (128 : Nat) ({ cls := "GlossRowsModel", name := "addRow", desc := "(III)V" } : Jvm.MethodName) ∈ kq_W := kq_of 1118 (by decide +kernel) rfl
theorem kq_1120 : Jvm.Cond.instanceMethod ({ cls := "GlossRowsModel", name := "addRow", desc := "(III)V" } : Jvm.MethodName) ∈ kq_W := kq_of 1120 (by decide +kernel) rfl
theorem kq_1121 : Jvm.Cond.code ({ cls := "GlossRowsModel", name := "addRow", desc := "(III)V" } : Jvm.MethodName) prog_11_method_23_code (4 : Nat) (Option.none : Option Jvm.ClassFile.FieldType) ∈ kq_W := kq_of 1121 (by decide +kernel) rfl
theorem kq_1122 : Jvm.Cond.methodLink "GlossRowsModel" (199 : Nat) ({ cls := "GlossRowsModel", name := "gaps", desc := "([J)I" } : Jvm.MethodName) ∈ kq_W := kq_of 1122 (by decide +kernel) rfl
theorem kq_1123 : Jvm.Cond.static ({ cls := "GlossRowsModel", name := "gaps", desc := "([J)I" } : Jvm.MethodName) ∈ kq_W := kq_of 1123 (by decide +kernel) rfl
theorem kq_1124 : Jvm.Cond.code ({ cls := "GlossRowsModel", name := "gaps", desc := "([J)I" } : Jvm.MethodName) prog_11_method_34_code (3 : Nat) (Option.some Jvm.ClassFile.FieldType.int) ∈ kq_W := kq_of 1124 (by decide +kernel) rfl
theorem kq_1125 : Jvm.Cond.methodLink "GlossRowsModel" (151 : Nat) ({ cls := "GlossRowsModel", name := "gapsOf", desc := "([JI)I" } : Jvm.MethodName) ∈ kq_W := kq_of 1125 (by decide +kernel) rfl
theorem kq_1126 : Jvm.Cond.static ({ cls := "GlossRowsModel", name := "gapsOf", desc := "([JI)I" } : Jvm.MethodName) ∈ kq_W := kq_of 1126 (by decide +kernel) rfl
theorem kq_1127 : Jvm.Cond.code ({ cls := "GlossRowsModel", name := "gapsOf", desc := "([JI)I" } : Jvm.MethodName) prog_11_method_33_code (4 : Nat) (Option.some Jvm.ClassFile.FieldType.int) ∈ kq_W := kq_of 1127 (by decide +kernel) rfl
theorem kq_1128 : Jvm.Cond.methodLink "GlossRowsModel" (202 : Nat) ({ cls := "GlossRowsModel", name := "unlike", desc := "([J)I" } : Jvm.MethodName) ∈ kq_W := kq_of 1128 (by decide +kernel) rfl
theorem kq_1129 : Jvm.Cond.static ({ cls := "GlossRowsModel", name := "unlike", desc := "([J)I" } : Jvm.MethodName) ∈ kq_W := kq_of 1129 (by decide +kernel) rfl
theorem kq_1130 : Jvm.Cond.code ({ cls := "GlossRowsModel", name := "unlike", desc := "([J)I" } : Jvm.MethodName) prog_11_method_47_code (7 : Nat) (Option.some Jvm.ClassFile.FieldType.int) ∈ kq_W := kq_of 1130 (by decide +kernel) rfl
theorem kq_1131 : Jvm.Cond.methodLink "GlossRowsModel" (145 : Nat) ({ cls := "GlossRowsModel", name := "entryOf", desc := "([JJ)I" } : Jvm.MethodName) ∈ kq_W := kq_of 1131 (by decide +kernel) rfl
theorem kq_1132 : Jvm.Cond.static ({ cls := "GlossRowsModel", name := "entryOf", desc := "([JJ)I" } : Jvm.MethodName) ∈ kq_W := kq_of 1132 (by decide +kernel) rfl
theorem kq_1133 : Jvm.Cond.code ({ cls := "GlossRowsModel", name := "entryOf", desc := "([JJ)I" } : Jvm.MethodName) prog_11_method_29_code (4 : Nat) (Option.some Jvm.ClassFile.FieldType.int) ∈ kq_W := kq_of 1133 (by decide +kernel) rfl
theorem kq_1134 : Jvm.Cond.methodLink "GlossRowsLaw" (132 : Nat) ({ cls := "GlossRowsModel", name := "word", desc := "(II)I" } : Jvm.MethodName) ∈ kq_W := kq_of 1134 (by decide +kernel) rfl
theorem kq_1135 : Jvm.Cond.instanceMethod ({ cls := "GlossRowsModel", name := "word", desc := "(II)I" } : Jvm.MethodName) ∈ kq_W := kq_of 1135 (by decide +kernel) rfl
theorem kq_1136 : Jvm.Cond.selects "GlossRowsModel" ({ cls := "GlossRowsModel", name := "word", desc := "(II)I" } : Jvm.MethodName) ({ cls := "GlossRowsModel", name := "word", desc := "(II)I" } : Jvm.MethodName) ∈ kq_W := kq_of 1136 (by decide +kernel) rfl
theorem kq_1137 : Jvm.Cond.code ({ cls := "GlossRowsModel", name := "word", desc := "(II)I" } : Jvm.MethodName) prog_11_method_50_code (3 : Nat) (Option.some Jvm.ClassFile.FieldType.int) ∈ kq_W := kq_of 1137 (by decide +kernel) rfl
theorem kq_1138 : Jvm.Cond.methodLink "GlossRowsModel" (205 : Nat) ({ cls := "GlossRowsModel", name := "isWord", desc := "(I)Z" } : Jvm.MethodName) ∈ kq_W := kq_of 1138 (by decide +kernel) rfl
theorem kq_1140 : Jvm.Cond.instanceMethod ({ cls := "GlossRowsModel", name := "isWord", desc := "(I)Z" } : Jvm.MethodName) ∈ kq_W := kq_of 1140 (by decide +kernel) rfl
theorem kq_1141 : Jvm.Cond.code ({ cls := "GlossRowsModel", name := "isWord", desc := "(I)Z" } : Jvm.MethodName) prog_11_method_19_code (2 : Nat) (Option.some Jvm.ClassFile.FieldType.boolean) ∈ kq_W := kq_of 1141 (by decide +kernel) rfl
theorem kq_1142 : Jvm.Cond.methodLink "GlossRowsModel" (94 : Nat) ({ cls := "GlossRowsModel", name := "isWordOf", desc := "([JI)Z" } : Jvm.MethodName) ∈ kq_W := kq_of 1142 (by decide +kernel) rfl
theorem kq_1143 : Jvm.Cond.static ({ cls := "GlossRowsModel", name := "isWordOf", desc := "([JI)Z" } : Jvm.MethodName) ∈ kq_W := kq_of 1143 (by decide +kernel) rfl
theorem kq_1144 : Jvm.Cond.code ({ cls := "GlossRowsModel", name := "isWordOf", desc := "([JI)Z" } : Jvm.MethodName) prog_11_method_18_code (2 : Nat) (Option.some Jvm.ClassFile.FieldType.boolean) ∈ kq_W := kq_of 1144 (by decide +kernel) rfl
theorem kq_1145 : Jvm.Cond.constantLong "GlossRowsModel" (208 : Nat) (7 : Int64) ∈ kq_W := kq_of 1145 (by decide +kernel) rfl
theorem kq_1146 : Jvm.Cond.methodLink "GlossRowsLaw" (136 : Nat) ({ cls := "GlossRowsModel", name := "part", desc := "(III)I" } : Jvm.MethodName) ∈ kq_W := kq_of 1146 (by decide +kernel) rfl
theorem kq_1147 : Jvm.Cond.instanceMethod ({ cls := "GlossRowsModel", name := "part", desc := "(III)I" } : Jvm.MethodName) ∈ kq_W := kq_of 1147 (by decide +kernel) rfl
theorem kq_1148 : Jvm.Cond.selects "GlossRowsModel" ({ cls := "GlossRowsModel", name := "part", desc := "(III)I" } : Jvm.MethodName) ({ cls := "GlossRowsModel", name := "part", desc := "(III)I" } : Jvm.MethodName) ∈ kq_W := kq_of 1148 (by decide +kernel) rfl
theorem kq_1149 : Jvm.Cond.code ({ cls := "GlossRowsModel", name := "part", desc := "(III)I" } : Jvm.MethodName) prog_11_method_52_code (4 : Nat) (Option.some Jvm.ClassFile.FieldType.int) ∈ kq_W := kq_of 1149 (by decide +kernel) rfl
theorem kq_1150 : Jvm.Cond.methodLink "GlossRowsModel" (214 : Nat) ({ cls := "GlossRowsModel", name := "isPart", desc := "(II)Z" } : Jvm.MethodName) ∈ kq_W := kq_of 1150 (by decide +kernel) rfl
theorem kq_1152 : Jvm.Cond.instanceMethod ({ cls := "GlossRowsModel", name := "isPart", desc := "(II)Z" } : Jvm.MethodName) ∈ kq_W := kq_of 1152 (by decide +kernel) rfl
theorem kq_1153 : Jvm.Cond.code ({ cls := "GlossRowsModel", name := "isPart", desc := "(II)Z" } : Jvm.MethodName) prog_11_method_51_code (3 : Nat) (Option.some Jvm.ClassFile.FieldType.boolean) ∈ kq_W := kq_of 1153 (by decide +kernel) rfl
theorem kq_1154 : Jvm.Cond.methodLink "GlossRowsModel" (210 : Nat) ({ cls := "GlossRowsModel", name := "isPartOf", desc := "([JII)Z" } : Jvm.MethodName) ∈ kq_W := kq_of 1154 (by decide +kernel) rfl
theorem kq_1155 : Jvm.Cond.static ({ cls := "GlossRowsModel", name := "isPartOf", desc := "([JII)Z" } : Jvm.MethodName) ∈ kq_W := kq_of 1155 (by decide +kernel) rfl
theorem kq_1156 : Jvm.Cond.code ({ cls := "GlossRowsModel", name := "isPartOf", desc := "([JII)Z" } : Jvm.MethodName) prog_11_method_20_code (3 : Nat) (Option.some Jvm.ClassFile.FieldType.boolean) ∈ kq_W := kq_of 1156 (by decide +kernel) rfl
theorem kq_1157 : Jvm.Cond.constantLong "GlossRowsModel" (218 : Nat) (3 : Int64) ∈ kq_W := kq_of 1157 (by decide +kernel) rfl
theorem kq_1158 : Jvm.Cond.methodLink "GlossRowsModel" (138 : Nat) ({ cls := "GlossRowsModel", name := "mark", desc := "(II)I" } : Jvm.MethodName) ∈ kq_W := kq_of 1158 (by decide +kernel) rfl
theorem kq_1159 : Jvm.Cond.static ({ cls := "GlossRowsModel", name := "mark", desc := "(II)I" } : Jvm.MethodName) ∈ kq_W := kq_of 1159 (by decide +kernel) rfl
theorem kq_1160 : Jvm.Cond.code ({ cls := "GlossRowsModel", name := "mark", desc := "(II)I" } : Jvm.MethodName) prog_11_method_13_code (2 : Nat) (Option.some Jvm.ClassFile.FieldType.int) ∈ kq_W := kq_of 1160 (by decide +kernel) rfl
theorem kq_1161 : Jvm.Cond.methodLink "GlossRowsLaw" (140 : Nat) ({ cls := "GlossRowsModel", name := "letter", desc := "(IIZI)I" } : Jvm.MethodName) ∈ kq_W := kq_of 1161 (by decide +kernel) rfl
theorem kq_1162 : Jvm.Cond.instanceMethod ({ cls := "GlossRowsModel", name := "letter", desc := "(IIZI)I" } : Jvm.MethodName) ∈ kq_W := kq_of 1162 (by decide +kernel) rfl
theorem kq_1163 : Jvm.Cond.selects "GlossRowsModel" ({ cls := "GlossRowsModel", name := "letter", desc := "(IIZI)I" } : Jvm.MethodName) ({ cls := "GlossRowsModel", name := "letter", desc := "(IIZI)I" } : Jvm.MethodName) ∈ kq_W := kq_of 1163 (by decide +kernel) rfl
theorem kq_1164 : Jvm.Cond.code ({ cls := "GlossRowsModel", name := "letter", desc := "(IIZI)I" } : Jvm.MethodName) prog_11_method_53_code (5 : Nat) (Option.some Jvm.ClassFile.FieldType.int) ∈ kq_W := kq_of 1164 (by decide +kernel) rfl
theorem kq_1165 : Jvm.Cond.methodLink "GlossRowsModel" (141 : Nat) ({ cls := "GlossRowsModel", name := "letterOf", desc := "(JI)I" } : Jvm.MethodName) ∈ kq_W := kq_of 1165 (by decide +kernel) rfl
theorem kq_1166 : Jvm.Cond.static ({ cls := "GlossRowsModel", name := "letterOf", desc := "(JI)I" } : Jvm.MethodName) ∈ kq_W := kq_of 1166 (by decide +kernel) rfl
theorem kq_1167 : Jvm.Cond.code ({ cls := "GlossRowsModel", name := "letterOf", desc := "(JI)I" } : Jvm.MethodName) prog_11_method_10_code (4 : Nat) (Option.some Jvm.ClassFile.FieldType.int) ∈ kq_W := kq_of 1167 (by decide +kernel) rfl
theorem kq_1168 : Jvm.Cond.methodLink "GlossRowsLaw" (144 : Nat) ({ cls := "GlossRowsModel", name := "entry", desc := "(IZI)I" } : Jvm.MethodName) ∈ kq_W := kq_of 1168 (by decide +kernel) rfl
theorem kq_1169 : Jvm.Cond.instanceMethod ({ cls := "GlossRowsModel", name := "entry", desc := "(IZI)I" } : Jvm.MethodName) ∈ kq_W := kq_of 1169 (by decide +kernel) rfl
theorem kq_1170 : Jvm.Cond.selects "GlossRowsModel" ({ cls := "GlossRowsModel", name := "entry", desc := "(IZI)I" } : Jvm.MethodName) ({ cls := "GlossRowsModel", name := "entry", desc := "(IZI)I" } : Jvm.MethodName) ∈ kq_W := kq_of 1170 (by decide +kernel) rfl
theorem kq_1171 : Jvm.Cond.code ({ cls := "GlossRowsModel", name := "entry", desc := "(IZI)I" } : Jvm.MethodName) prog_11_method_55_code (4 : Nat) (Option.some Jvm.ClassFile.FieldType.int) ∈ kq_W := kq_of 1171 (by decide +kernel) rfl
theorem kq_1172 : Jvm.Cond.methodLink "GlossRowsModel" (220 : Nat) ({ cls := "GlossRowsModel", name := "isEntry", desc := "(I)Z" } : Jvm.MethodName) ∈ kq_W := kq_of 1172 (by decide +kernel) rfl
theorem kq_1174 : Jvm.Cond.instanceMethod ({ cls := "GlossRowsModel", name := "isEntry", desc := "(I)Z" } : Jvm.MethodName) ∈ kq_W := kq_of 1174 (by decide +kernel) rfl
theorem kq_1175 : Jvm.Cond.code ({ cls := "GlossRowsModel", name := "isEntry", desc := "(I)Z" } : Jvm.MethodName) prog_11_method_54_code (2 : Nat) (Option.some Jvm.ClassFile.FieldType.boolean) ∈ kq_W := kq_of 1175 (by decide +kernel) rfl
theorem kq_1176 : Jvm.Cond.methodLink "GlossRowsLaw" (147 : Nat) ({ cls := "GlossRowsModel", name := "row", desc := "(II)I" } : Jvm.MethodName) ∈ kq_W := kq_of 1176 (by decide +kernel) rfl
theorem kq_1177 : Jvm.Cond.instanceMethod ({ cls := "GlossRowsModel", name := "row", desc := "(II)I" } : Jvm.MethodName) ∈ kq_W := kq_of 1177 (by decide +kernel) rfl
theorem kq_1178 : Jvm.Cond.selects "GlossRowsModel" ({ cls := "GlossRowsModel", name := "row", desc := "(II)I" } : Jvm.MethodName) ({ cls := "GlossRowsModel", name := "row", desc := "(II)I" } : Jvm.MethodName) ∈ kq_W := kq_of 1178 (by decide +kernel) rfl
theorem kq_1179 : Jvm.Cond.code ({ cls := "GlossRowsModel", name := "row", desc := "(II)I" } : Jvm.MethodName) prog_11_method_59_code (3 : Nat) (Option.some Jvm.ClassFile.FieldType.int) ∈ kq_W := kq_of 1179 (by decide +kernel) rfl
theorem kq_1180 : Jvm.Cond.methodLink "GlossRowsModel" (223 : Nat) ({ cls := "GlossRowsModel", name := "isRow", desc := "(I)Z" } : Jvm.MethodName) ∈ kq_W := kq_of 1180 (by decide +kernel) rfl
theorem kq_1182 : Jvm.Cond.instanceMethod ({ cls := "GlossRowsModel", name := "isRow", desc := "(I)Z" } : Jvm.MethodName) ∈ kq_W := kq_of 1182 (by decide +kernel) rfl
theorem kq_1183 : Jvm.Cond.code ({ cls := "GlossRowsModel", name := "isRow", desc := "(I)Z" } : Jvm.MethodName) prog_11_method_58_code (2 : Nat) (Option.some Jvm.ClassFile.FieldType.boolean) ∈ kq_W := kq_of 1183 (by decide +kernel) rfl
theorem kq_1184 : Jvm.Cond.methodLink "GlossRowsModel" (226 : Nat) ({ cls := "GlossRowsModel", name := "lengthOfRow", desc := "(I)I" } : Jvm.MethodName) ∈ kq_W := kq_of 1184 (by decide +kernel) rfl
theorem kq_1186 : Jvm.Cond.instanceMethod ({ cls := "GlossRowsModel", name := "lengthOfRow", desc := "(I)I" } : Jvm.MethodName) ∈ kq_W := kq_of 1186 (by decide +kernel) rfl
theorem kq_1187 : Jvm.Cond.code ({ cls := "GlossRowsModel", name := "lengthOfRow", desc := "(I)I" } : Jvm.MethodName) prog_11_method_56_code (3 : Nat) (Option.some Jvm.ClassFile.FieldType.int) ∈ kq_W := kq_of 1187 (by decide +kernel) rfl
theorem kq_1188 : Jvm.Cond.methodLink "GlossRowsModel" (230 : Nat) ({ cls := "GlossRowsModel", name := "sentenceOfRow", desc := "(I)I" } : Jvm.MethodName) ∈ kq_W := kq_of 1188 (by decide +kernel) rfl
theorem kq_1190 : Jvm.Cond.instanceMethod ({ cls := "GlossRowsModel", name := "sentenceOfRow", desc := "(I)I" } : Jvm.MethodName) ∈ kq_W := kq_of 1190 (by decide +kernel) rfl
theorem kq_1191 : Jvm.Cond.code ({ cls := "GlossRowsModel", name := "sentenceOfRow", desc := "(I)I" } : Jvm.MethodName) prog_11_method_57_code (3 : Nat) (Option.some Jvm.ClassFile.FieldType.int) ∈ kq_W := kq_of 1191 (by decide +kernel) rfl
theorem kq_1192 : Jvm.Cond.methodLink "GlossRowsLaw" (150 : Nat) ({ cls := "GlossRowsModel", name := "at", desc := "(II)I" } : Jvm.MethodName) ∈ kq_W := kq_of 1192 (by decide +kernel) rfl
theorem kq_1193 : Jvm.Cond.instanceMethod ({ cls := "GlossRowsModel", name := "at", desc := "(II)I" } : Jvm.MethodName) ∈ kq_W := kq_of 1193 (by decide +kernel) rfl
theorem kq_1194 : Jvm.Cond.selects "GlossRowsModel" ({ cls := "GlossRowsModel", name := "at", desc := "(II)I" } : Jvm.MethodName) ({ cls := "GlossRowsModel", name := "at", desc := "(II)I" } : Jvm.MethodName) ∈ kq_W := kq_of 1194 (by decide +kernel) rfl
theorem kq_1195 : Jvm.Cond.code ({ cls := "GlossRowsModel", name := "at", desc := "(II)I" } : Jvm.MethodName) prog_11_method_60_code (6 : Nat) (Option.some Jvm.ClassFile.FieldType.int) ∈ kq_W := kq_of 1195 (by decide +kernel) rfl
theorem kq_1196 : Jvm.Cond.methodLink "GlossRowsModel" (233 : Nat) ({ cls := "GlossRowsModel", name := "freeChar", desc := "([JII)I" } : Jvm.MethodName) ∈ kq_W := kq_of 1196 (by decide +kernel) rfl
theorem kq_1197 : Jvm.Cond.static ({ cls := "GlossRowsModel", name := "freeChar", desc := "([JII)I" } : Jvm.MethodName) ∈ kq_W := kq_of 1197 (by decide +kernel) rfl
theorem kq_1198 : Jvm.Cond.code ({ cls := "GlossRowsModel", name := "freeChar", desc := "([JII)I" } : Jvm.MethodName) prog_11_method_27_code (3 : Nat) (Option.some Jvm.ClassFile.FieldType.int) ∈ kq_W := kq_of 1198 (by decide +kernel) rfl
theorem kq_1199 : Jvm.Cond.constantLong "GlossRowsModel" (136 : Nat) (127 : Int64) ∈ kq_W := kq_of 1199 (by decide +kernel) rfl
theorem kq_1200 : Jvm.Cond.methodLink "GlossRowsModel" (236 : Nat) ({ cls := "GlossRowsModel", name := "shown", desc := "([JIZII)I" } : Jvm.MethodName) ∈ kq_W := kq_of 1200 (by decide +kernel) rfl
theorem kq_1201 : Jvm.Cond.static ({ cls := "GlossRowsModel", name := "shown", desc := "([JIZII)I" } : Jvm.MethodName) ∈ kq_W := kq_of 1201 (by decide +kernel) rfl
theorem kq_1202 : Jvm.Cond.code ({ cls := "GlossRowsModel", name := "shown", desc := "([JIZII)I" } : Jvm.MethodName) prog_11_method_28_code (13 : Nat) (Option.some Jvm.ClassFile.FieldType.int) ∈ kq_W := kq_of 1202 (by decide +kernel) rfl
theorem kq_1203 : Jvm.Cond.methodLink "GlossRowsLaw" (153 : Nat) ({ cls := "GlossRowsModel", name := "insert", desc := "(I)I" } : Jvm.MethodName) ∈ kq_W := kq_of 1203 (by decide +kernel) rfl
theorem kq_1204 : Jvm.Cond.instanceMethod ({ cls := "GlossRowsModel", name := "insert", desc := "(I)I" } : Jvm.MethodName) ∈ kq_W := kq_of 1204 (by decide +kernel) rfl
theorem kq_1205 : Jvm.Cond.selects "GlossRowsModel" ({ cls := "GlossRowsModel", name := "insert", desc := "(I)I" } : Jvm.MethodName) ({ cls := "GlossRowsModel", name := "insert", desc := "(I)I" } : Jvm.MethodName) ∈ kq_W := kq_of 1205 (by decide +kernel) rfl
theorem kq_1206 : Jvm.Cond.code ({ cls := "GlossRowsModel", name := "insert", desc := "(I)I" } : Jvm.MethodName) prog_11_method_61_code (2 : Nat) (Option.some Jvm.ClassFile.FieldType.int) ∈ kq_W := kq_of 1206 (by decide +kernel) rfl
theorem kq_1207 : Jvm.Cond.constantLong "GlossRowsModel" (240 : Nat) (12 : Int64) ∈ kq_W := kq_of 1207 (by decide +kernel) rfl
theorem kq_1208 : Jvm.Cond.methodLink "GlossRowsModel" (242 : Nat) ({ cls := "GlossRowsModel", name := "note", desc := "()V" } : Jvm.MethodName) ∈ kq_W := kq_of 1208 (by decide +kernel) rfl
theorem kq_1210 : Jvm.Cond.instanceMethod ({ cls := "GlossRowsModel", name := "note", desc := "()V" } : Jvm.MethodName) ∈ kq_W := kq_of 1210 (by decide +kernel) rfl
theorem kq_1211 : Jvm.Cond.code ({ cls := "GlossRowsModel", name := "note", desc := "()V" } : Jvm.MethodName) prog_11_method_8_code (1 : Nat) (Option.none : Option Jvm.ClassFile.FieldType) ∈ kq_W := kq_of 1211 (by decide +kernel) rfl
theorem kq_1212 : Jvm.Cond.methodLink "GlossRowsLaw" (156 : Nat) ({ cls := "GlossRowsModel", name := "remove", desc := "(I)I" } : Jvm.MethodName) ∈ kq_W := kq_of 1212 (by decide +kernel) rfl
theorem kq_1213 : Jvm.Cond.instanceMethod ({ cls := "GlossRowsModel", name := "remove", desc := "(I)I" } : Jvm.MethodName) ∈ kq_W := kq_of 1213 (by decide +kernel) rfl
theorem kq_1214 : Jvm.Cond.selects "GlossRowsModel" ({ cls := "GlossRowsModel", name := "remove", desc := "(I)I" } : Jvm.MethodName) ({ cls := "GlossRowsModel", name := "remove", desc := "(I)I" } : Jvm.MethodName) ∈ kq_W := kq_of 1214 (by decide +kernel) rfl
theorem kq_1215 : Jvm.Cond.code ({ cls := "GlossRowsModel", name := "remove", desc := "(I)I" } : Jvm.MethodName) prog_11_method_62_code (2 : Nat) (Option.some Jvm.ClassFile.FieldType.int) ∈ kq_W := kq_of 1215 (by decide +kernel) rfl
theorem kq_1216 : Jvm.Cond.methodLink "GlossRowsModel" (245 : Nat) ({ cls := "GlossRowsModel", name := "removeOn", desc := "([JI)V" } : Jvm.MethodName) ∈ kq_W := kq_of 1216 (by decide +kernel) rfl
theorem kq_1217 : Jvm.Cond.static ({ cls := "GlossRowsModel", name := "removeOn", desc := "([JI)V" } : Jvm.MethodName) ∈ kq_W := kq_of 1217 (by decide +kernel) rfl
theorem kq_1218 : Jvm.Cond.code ({ cls := "GlossRowsModel", name := "removeOn", desc := "([JI)V" } : Jvm.MethodName) prog_11_method_35_code (2 : Nat) (Option.none : Option Jvm.ClassFile.FieldType) ∈ kq_W := kq_of 1218 (by decide +kernel) rfl
theorem kq_1219 : Jvm.Cond.methodLink "GlossRowsLaw" (159 : Nat) ({ cls := "GlossRowsModel", name := "end", desc := "(I)I" } : Jvm.MethodName) ∈ kq_W := kq_of 1219 (by decide +kernel) rfl
theorem kq_1220 : Jvm.Cond.instanceMethod ({ cls := "GlossRowsModel", name := "end", desc := "(I)I" } : Jvm.MethodName) ∈ kq_W := kq_of 1220 (by decide +kernel) rfl
theorem kq_1221 : Jvm.Cond.selects "GlossRowsModel" ({ cls := "GlossRowsModel", name := "end", desc := "(I)I" } : Jvm.MethodName) ({ cls := "GlossRowsModel", name := "end", desc := "(I)I" } : Jvm.MethodName) ∈ kq_W := kq_of 1221 (by decide +kernel) rfl
theorem kq_1222 : Jvm.Cond.code ({ cls := "GlossRowsModel", name := "end", desc := "(I)I" } : Jvm.MethodName) prog_11_method_63_code (2 : Nat) (Option.some Jvm.ClassFile.FieldType.int) ∈ kq_W := kq_of 1222 (by decide +kernel) rfl
theorem kq_1223 : Jvm.Cond.methodLink "GlossRowsModel" (248 : Nat) ({ cls := "GlossRowsModel", name := "sentencesOf", desc := "([J)I" } : Jvm.MethodName) ∈ kq_W := kq_of 1223 (by decide +kernel) rfl
theorem kq_1225 : Jvm.Cond.instanceMethod ({ cls := "GlossRowsModel", name := "sentencesOf", desc := "([J)I" } : Jvm.MethodName) ∈ kq_W := kq_of 1225 (by decide +kernel) rfl
theorem kq_1226 : Jvm.Cond.code ({ cls := "GlossRowsModel", name := "sentencesOf", desc := "([J)I" } : Jvm.MethodName) prog_11_method_26_code (2 : Nat) (Option.some Jvm.ClassFile.FieldType.int) ∈ kq_W := kq_of 1226 (by decide +kernel) rfl
theorem kq_1227 : Jvm.Cond.methodLink "GlossRowsLaw" (162 : Nat) ({ cls := "GlossRowsModel", name := "join", desc := "(I)I" } : Jvm.MethodName) ∈ kq_W := kq_of 1227 (by decide +kernel) rfl
theorem kq_1228 : Jvm.Cond.instanceMethod ({ cls := "GlossRowsModel", name := "join", desc := "(I)I" } : Jvm.MethodName) ∈ kq_W := kq_of 1228 (by decide +kernel) rfl
theorem kq_1229 : Jvm.Cond.selects "GlossRowsModel" ({ cls := "GlossRowsModel", name := "join", desc := "(I)I" } : Jvm.MethodName) ({ cls := "GlossRowsModel", name := "join", desc := "(I)I" } : Jvm.MethodName) ∈ kq_W := kq_of 1229 (by decide +kernel) rfl
theorem kq_1230 : Jvm.Cond.code ({ cls := "GlossRowsModel", name := "join", desc := "(I)I" } : Jvm.MethodName) prog_11_method_64_code (2 : Nat) (Option.some Jvm.ClassFile.FieldType.int) ∈ kq_W := kq_of 1230 (by decide +kernel) rfl
theorem kq_1231 : Jvm.Cond.methodLink "GlossRowsModel" (251 : Nat) ({ cls := "GlossRowsModel", name := "joinOn", desc := "([JI)V" } : Jvm.MethodName) ∈ kq_W := kq_of 1231 (by decide +kernel) rfl
theorem kq_1232 : Jvm.Cond.static ({ cls := "GlossRowsModel", name := "joinOn", desc := "([JI)V" } : Jvm.MethodName) ∈ kq_W := kq_of 1232 (by decide +kernel) rfl
theorem kq_1233 : Jvm.Cond.code ({ cls := "GlossRowsModel", name := "joinOn", desc := "([JI)V" } : Jvm.MethodName) prog_11_method_36_code (3 : Nat) (Option.none : Option Jvm.ClassFile.FieldType) ∈ kq_W := kq_of 1233 (by decide +kernel) rfl
theorem kq_1234 : Jvm.Cond.methodLink "GlossRowsLaw" (165 : Nat) ({ cls := "GlossRowsModel", name := "setFree", desc := "(I)I" } : Jvm.MethodName) ∈ kq_W := kq_of 1234 (by decide +kernel) rfl
theorem kq_1235 : Jvm.Cond.instanceMethod ({ cls := "GlossRowsModel", name := "setFree", desc := "(I)I" } : Jvm.MethodName) ∈ kq_W := kq_of 1235 (by decide +kernel) rfl
theorem kq_1236 : Jvm.Cond.selects "GlossRowsModel" ({ cls := "GlossRowsModel", name := "setFree", desc := "(I)I" } : Jvm.MethodName) ({ cls := "GlossRowsModel", name := "setFree", desc := "(I)I" } : Jvm.MethodName) ∈ kq_W := kq_of 1236 (by decide +kernel) rfl
theorem kq_1237 : Jvm.Cond.code ({ cls := "GlossRowsModel", name := "setFree", desc := "(I)I" } : Jvm.MethodName) prog_11_method_66_code (3 : Nat) (Option.some Jvm.ClassFile.FieldType.int) ∈ kq_W := kq_of 1237 (by decide +kernel) rfl
theorem kq_1238 : Jvm.Cond.methodLink "GlossRowsModel" (258 : Nat) ({ cls := "GlossRowsModel", name := "isFree", desc := "()Z" } : Jvm.MethodName) ∈ kq_W := kq_of 1238 (by decide +kernel) rfl
theorem kq_1240 : Jvm.Cond.instanceMethod ({ cls := "GlossRowsModel", name := "isFree", desc := "()Z" } : Jvm.MethodName) ∈ kq_W := kq_of 1240 (by decide +kernel) rfl
theorem kq_1241 : Jvm.Cond.code ({ cls := "GlossRowsModel", name := "isFree", desc := "()Z" } : Jvm.MethodName) prog_11_method_65_code (3 : Nat) (Option.some Jvm.ClassFile.FieldType.boolean) ∈ kq_W := kq_of 1241 (by decide +kernel) rfl
theorem kq_1242 : Jvm.Cond.constantLong "GlossRowsModel" (254 : Nat) (32 : Int64) ∈ kq_W := kq_of 1242 (by decide +kernel) rfl
theorem kq_1243 : Jvm.Cond.constantLong "GlossRowsModel" (256 : Nat) (126 : Int64) ∈ kq_W := kq_of 1243 (by decide +kernel) rfl
theorem kq_1244 : Jvm.Cond.methodLink "GlossRowsLaw" (168 : Nat) ({ cls := "GlossRowsModel", name := "setGloss", desc := "(II)I" } : Jvm.MethodName) ∈ kq_W := kq_of 1244 (by decide +kernel) rfl
theorem kq_1245 : Jvm.Cond.instanceMethod ({ cls := "GlossRowsModel", name := "setGloss", desc := "(II)I" } : Jvm.MethodName) ∈ kq_W := kq_of 1245 (by decide +kernel) rfl
theorem kq_1246 : Jvm.Cond.selects "GlossRowsModel" ({ cls := "GlossRowsModel", name := "setGloss", desc := "(II)I" } : Jvm.MethodName) ({ cls := "GlossRowsModel", name := "setGloss", desc := "(II)I" } : Jvm.MethodName) ∈ kq_W := kq_of 1246 (by decide +kernel) rfl
theorem kq_1247 : Jvm.Cond.code ({ cls := "GlossRowsModel", name := "setGloss", desc := "(II)I" } : Jvm.MethodName) prog_11_method_68_code (6 : Nat) (Option.some Jvm.ClassFile.FieldType.int) ∈ kq_W := kq_of 1247 (by decide +kernel) rfl
theorem kq_1248 : Jvm.Cond.methodLink "GlossRowsModel" (262 : Nat) ({ cls := "GlossRowsModel", name := "isGloss", desc := "()Z" } : Jvm.MethodName) ∈ kq_W := kq_of 1248 (by decide +kernel) rfl
theorem kq_1250 : Jvm.Cond.instanceMethod ({ cls := "GlossRowsModel", name := "isGloss", desc := "()Z" } : Jvm.MethodName) ∈ kq_W := kq_of 1250 (by decide +kernel) rfl
theorem kq_1251 : Jvm.Cond.code ({ cls := "GlossRowsModel", name := "isGloss", desc := "()Z" } : Jvm.MethodName) prog_11_method_67_code (3 : Nat) (Option.some Jvm.ClassFile.FieldType.boolean) ∈ kq_W := kq_of 1251 (by decide +kernel) rfl
theorem kq_1252 : Jvm.Cond.methodLink "GlossRowsLaw" (171 : Nat) ({ cls := "GlossRowsModel", name := "set", desc := "(II)I" } : Jvm.MethodName) ∈ kq_W := kq_of 1252 (by decide +kernel) rfl
theorem kq_1253 : Jvm.Cond.instanceMethod ({ cls := "GlossRowsModel", name := "set", desc := "(II)I" } : Jvm.MethodName) ∈ kq_W := kq_of 1253 (by decide +kernel) rfl
theorem kq_1254 : Jvm.Cond.selects "GlossRowsModel" ({ cls := "GlossRowsModel", name := "set", desc := "(II)I" } : Jvm.MethodName) ({ cls := "GlossRowsModel", name := "set", desc := "(II)I" } : Jvm.MethodName) ∈ kq_W := kq_of 1254 (by decide +kernel) rfl
theorem kq_1255 : Jvm.Cond.code ({ cls := "GlossRowsModel", name := "set", desc := "(II)I" } : Jvm.MethodName) prog_11_method_70_code (4 : Nat) (Option.some Jvm.ClassFile.FieldType.int) ∈ kq_W := kq_of 1255 (by decide +kernel) rfl
theorem kq_1256 : Jvm.Cond.methodLink "GlossRowsModel" (267 : Nat) ({ cls := "GlossRowsModel", name := "isSetting", desc := "(II)Z" } : Jvm.MethodName) ∈ kq_W := kq_of 1256 (by decide +kernel) rfl
theorem kq_1257 : Jvm.Cond.static ({ cls := "GlossRowsModel", name := "isSetting", desc := "(II)Z" } : Jvm.MethodName) ∈ kq_W := kq_of 1257 (by decide +kernel) rfl
theorem kq_1258 : Jvm.Cond.code ({ cls := "GlossRowsModel", name := "isSetting", desc := "(II)Z" } : Jvm.MethodName) prog_11_method_69_code (2 : Nat) (Option.some Jvm.ClassFile.FieldType.boolean) ∈ kq_W := kq_of 1258 (by decide +kernel) rfl
theorem kq_1259 : Jvm.Cond.constantLong "GlossRowsModel" (69 : Nat) (10 : Int64) ∈ kq_W := kq_of 1259 (by decide +kernel) rfl
theorem kq_1260 : Jvm.Cond.constantLong "GlossRowsModel" (265 : Nat) (60 : Int64) ∈ kq_W := kq_of 1260 (by decide +kernel) rfl
theorem kq_1261 : Jvm.Cond.methodLink "GlossRowsLaw" (174 : Nat) ({ cls := "GlossRowsModel", name := "learn", desc := "(II)I" } : Jvm.MethodName) ∈ kq_W := kq_of 1261 (by decide +kernel) rfl
theorem kq_1262 : Jvm.Cond.instanceMethod ({ cls := "GlossRowsModel", name := "learn", desc := "(II)I" } : Jvm.MethodName) ∈ kq_W := kq_of 1262 (by decide +kernel) rfl
theorem kq_1263 : Jvm.Cond.selects "GlossRowsModel" ({ cls := "GlossRowsModel", name := "learn", desc := "(II)I" } : Jvm.MethodName) ({ cls := "GlossRowsModel", name := "learn", desc := "(II)I" } : Jvm.MethodName) ∈ kq_W := kq_of 1263 (by decide +kernel) rfl
theorem kq_1264 : Jvm.Cond.code ({ cls := "GlossRowsModel", name := "learn", desc := "(II)I" } : Jvm.MethodName) prog_11_method_71_code (3 : Nat) (Option.some Jvm.ClassFile.FieldType.int) ∈ kq_W := kq_of 1264 (by decide +kernel) rfl
theorem kq_1265 : Jvm.Cond.methodLink "GlossRowsModel" (270 : Nat) ({ cls := "GlossRowsModel", name := "canLearn", desc := "([JII)Z" } : Jvm.MethodName) ∈ kq_W := kq_of 1265 (by decide +kernel) rfl
theorem kq_1266 : Jvm.Cond.static ({ cls := "GlossRowsModel", name := "canLearn", desc := "([JII)Z" } : Jvm.MethodName) ∈ kq_W := kq_of 1266 (by decide +kernel) rfl
theorem kq_1267 : Jvm.Cond.code ({ cls := "GlossRowsModel", name := "canLearn", desc := "([JII)Z" } : Jvm.MethodName) prog_11_method_31_code (3 : Nat) (Option.some Jvm.ClassFile.FieldType.boolean) ∈ kq_W := kq_of 1267 (by decide +kernel) rfl
theorem kq_1268 : Jvm.Cond.constantLong "GlossRowsModel" (149 : Nat) (16 : Int64) ∈ kq_W := kq_of 1268 (by decide +kernel) rfl
theorem kq_1269 : Jvm.Cond.methodLink "GlossRowsModel" (273 : Nat) ({ cls := "GlossRowsModel", name := "learnOn", desc := "([JII)V" } : Jvm.MethodName) ∈ kq_W := kq_of 1269 (by decide +kernel) rfl
theorem kq_1270 : Jvm.Cond.static ({ cls := "GlossRowsModel", name := "learnOn", desc := "([JII)V" } : Jvm.MethodName) ∈ kq_W := kq_of 1270 (by decide +kernel) rfl
theorem kq_1271 : Jvm.Cond.code ({ cls := "GlossRowsModel", name := "learnOn", desc := "([JII)V" } : Jvm.MethodName) prog_11_method_30_code (6 : Nat) (Option.none : Option Jvm.ClassFile.FieldType) ∈ kq_W := kq_of 1271 (by decide +kernel) rfl
theorem kq_1272 : Jvm.Cond.methodLink "GlossRowsLaw" (177 : Nat) ({ cls := "GlossRowsModel", name := "forget", desc := "(I)I" } : Jvm.MethodName) ∈ kq_W := kq_of 1272 (by decide +kernel) rfl
theorem kq_1273 : Jvm.Cond.instanceMethod ({ cls := "GlossRowsModel", name := "forget", desc := "(I)I" } : Jvm.MethodName) ∈ kq_W := kq_of 1273 (by decide +kernel) rfl
theorem kq_1274 : Jvm.Cond.selects "GlossRowsModel" ({ cls := "GlossRowsModel", name := "forget", desc := "(I)I" } : Jvm.MethodName) ({ cls := "GlossRowsModel", name := "forget", desc := "(I)I" } : Jvm.MethodName) ∈ kq_W := kq_of 1274 (by decide +kernel) rfl
theorem kq_1275 : Jvm.Cond.code ({ cls := "GlossRowsModel", name := "forget", desc := "(I)I" } : Jvm.MethodName) prog_11_method_72_code (2 : Nat) (Option.some Jvm.ClassFile.FieldType.int) ∈ kq_W := kq_of 1275 (by decide +kernel) rfl
theorem kq_1276 : Jvm.Cond.methodLink "GlossRowsLaw" (181 : Nat) ({ cls := "GlossRowsModel", name := "fillGaps", desc := "()I" } : Jvm.MethodName) ∈ kq_W := kq_of 1276 (by decide +kernel) rfl
theorem kq_1277 : Jvm.Cond.instanceMethod ({ cls := "GlossRowsModel", name := "fillGaps", desc := "()I" } : Jvm.MethodName) ∈ kq_W := kq_of 1277 (by decide +kernel) rfl
theorem kq_1278 : Jvm.Cond.selects "GlossRowsModel" ({ cls := "GlossRowsModel", name := "fillGaps", desc := "()I" } : Jvm.MethodName) ({ cls := "GlossRowsModel", name := "fillGaps", desc := "()I" } : Jvm.MethodName) ∈ kq_W := kq_of 1278 (by decide +kernel) rfl
theorem kq_1279 : Jvm.Cond.code ({ cls := "GlossRowsModel", name := "fillGaps", desc := "()I" } : Jvm.MethodName) prog_11_method_73_code (1 : Nat) (Option.some Jvm.ClassFile.FieldType.int) ∈ kq_W := kq_of 1279 (by decide +kernel) rfl
theorem kq_1280 : Jvm.Cond.methodLink "GlossRowsModel" (276 : Nat) ({ cls := "GlossRowsModel", name := "fillOn", desc := "([J)I" } : Jvm.MethodName) ∈ kq_W := kq_of 1280 (by decide +kernel) rfl
theorem kq_1281 : Jvm.Cond.static ({ cls := "GlossRowsModel", name := "fillOn", desc := "([J)I" } : Jvm.MethodName) ∈ kq_W := kq_of 1281 (by decide +kernel) rfl
theorem kq_1282 : Jvm.Cond.code ({ cls := "GlossRowsModel", name := "fillOn", desc := "([J)I" } : Jvm.MethodName) prog_11_method_32_code (5 : Nat) (Option.some Jvm.ClassFile.FieldType.int) ∈ kq_W := kq_of 1282 (by decide +kernel) rfl
theorem kq_1283 : Jvm.Cond.methodLink "GlossRowsLaw" (184 : Nat) ({ cls := "GlossRowsModel", name := "undo", desc := "()I" } : Jvm.MethodName) ∈ kq_W := kq_of 1283 (by decide +kernel) rfl
theorem kq_1284 : Jvm.Cond.instanceMethod ({ cls := "GlossRowsModel", name := "undo", desc := "()I" } : Jvm.MethodName) ∈ kq_W := kq_of 1284 (by decide +kernel) rfl
theorem kq_1285 : Jvm.Cond.selects "GlossRowsModel" ({ cls := "GlossRowsModel", name := "undo", desc := "()I" } : Jvm.MethodName) ({ cls := "GlossRowsModel", name := "undo", desc := "()I" } : Jvm.MethodName) ∈ kq_W := kq_of 1285 (by decide +kernel) rfl
theorem kq_1286 : Jvm.Cond.code ({ cls := "GlossRowsModel", name := "undo", desc := "()I" } : Jvm.MethodName) prog_11_method_74_code (1 : Nat) (Option.some Jvm.ClassFile.FieldType.int) ∈ kq_W := kq_of 1286 (by decide +kernel) rfl
theorem kq_1287 : Jvm.Cond.methodLink "GlossRowsLaw" (187 : Nat) ({ cls := "GlossRowsModel", name := "gap", desc := "(I)I" } : Jvm.MethodName) ∈ kq_W := kq_of 1287 (by decide +kernel) rfl
theorem kq_1288 : Jvm.Cond.instanceMethod ({ cls := "GlossRowsModel", name := "gap", desc := "(I)I" } : Jvm.MethodName) ∈ kq_W := kq_of 1288 (by decide +kernel) rfl
theorem kq_1289 : Jvm.Cond.selects "GlossRowsModel" ({ cls := "GlossRowsModel", name := "gap", desc := "(I)I" } : Jvm.MethodName) ({ cls := "GlossRowsModel", name := "gap", desc := "(I)I" } : Jvm.MethodName) ∈ kq_W := kq_of 1289 (by decide +kernel) rfl
theorem kq_1290 : Jvm.Cond.code ({ cls := "GlossRowsModel", name := "gap", desc := "(I)I" } : Jvm.MethodName) prog_11_method_75_code (5 : Nat) (Option.some Jvm.ClassFile.FieldType.int) ∈ kq_W := kq_of 1290 (by decide +kernel) rfl
theorem kq_1291 : Jvm.Cond.methodLink "GlossRowsLaw" (191 : Nat) ({ cls := "GlossRowsModel", name := "mostUsed", desc := "()I" } : Jvm.MethodName) ∈ kq_W := kq_of 1291 (by decide +kernel) rfl
theorem kq_1292 : Jvm.Cond.instanceMethod ({ cls := "GlossRowsModel", name := "mostUsed", desc := "()I" } : Jvm.MethodName) ∈ kq_W := kq_of 1292 (by decide +kernel) rfl
theorem kq_1293 : Jvm.Cond.selects "GlossRowsModel" ({ cls := "GlossRowsModel", name := "mostUsed", desc := "()I" } : Jvm.MethodName) ({ cls := "GlossRowsModel", name := "mostUsed", desc := "()I" } : Jvm.MethodName) ∈ kq_W := kq_of 1293 (by decide +kernel) rfl
theorem kq_1294 : Jvm.Cond.code ({ cls := "GlossRowsModel", name := "mostUsed", desc := "()I" } : Jvm.MethodName) prog_11_method_77_code (10 : Nat) (Option.some Jvm.ClassFile.FieldType.int) ∈ kq_W := kq_of 1294 (by decide +kernel) rfl
theorem kq_1295 : Jvm.Cond.methodLink "GlossRowsModel" (279 : Nat) ({ cls := "GlossRowsModel", name := "uses", desc := "(J)I" } : Jvm.MethodName) ∈ kq_W := kq_of 1295 (by decide +kernel) rfl
theorem kq_1297 : Jvm.Cond.instanceMethod ({ cls := "GlossRowsModel", name := "uses", desc := "(J)I" } : Jvm.MethodName) ∈ kq_W := kq_of 1297 (by decide +kernel) rfl
theorem kq_1298 : Jvm.Cond.code ({ cls := "GlossRowsModel", name := "uses", desc := "(J)I" } : Jvm.MethodName) prog_11_method_76_code (6 : Nat) (Option.some Jvm.ClassFile.FieldType.int) ∈ kq_W := kq_of 1298 (by decide +kernel) rfl
theorem kq_1299 : Jvm.Cond.methodLink "GlossRowsLaw" (194 : Nat) ({ cls := "GlossRowsModel", name := "widthFor", desc := "(I)I" } : Jvm.MethodName) ∈ kq_W := kq_of 1299 (by decide +kernel) rfl
theorem kq_1300 : Jvm.Cond.instanceMethod ({ cls := "GlossRowsModel", name := "widthFor", desc := "(I)I" } : Jvm.MethodName) ∈ kq_W := kq_of 1300 (by decide +kernel) rfl
theorem kq_1301 : Jvm.Cond.selects "GlossRowsModel" ({ cls := "GlossRowsModel", name := "widthFor", desc := "(I)I" } : Jvm.MethodName) ({ cls := "GlossRowsModel", name := "widthFor", desc := "(I)I" } : Jvm.MethodName) ∈ kq_W := kq_of 1301 (by decide +kernel) rfl
theorem kq_1302 : Jvm.Cond.code ({ cls := "GlossRowsModel", name := "widthFor", desc := "(I)I" } : Jvm.MethodName) prog_11_method_78_code (3 : Nat) (Option.some Jvm.ClassFile.FieldType.int) ∈ kq_W := kq_of 1302 (by decide +kernel) rfl
theorem kq_1303 : Jvm.Cond.constantLong "GlossRowsModel" (282 : Nat) (99 : Int64) ∈ kq_W := kq_of 1303 (by decide +kernel) rfl
theorem kq_1304 : Jvm.Cond.methodLink "GlossRowsLaw" (198 : Nat) ({ cls := "GlossRowsModel", name := "empty", desc := "()I" } : Jvm.MethodName) ∈ kq_W := kq_of 1304 (by decide +kernel) rfl
theorem kq_1305 : Jvm.Cond.instanceMethod ({ cls := "GlossRowsModel", name := "empty", desc := "()I" } : Jvm.MethodName) ∈ kq_W := kq_of 1305 (by decide +kernel) rfl
theorem kq_1306 : Jvm.Cond.selects "GlossRowsModel" ({ cls := "GlossRowsModel", name := "empty", desc := "()I" } : Jvm.MethodName) ({ cls := "GlossRowsModel", name := "empty", desc := "()I" } : Jvm.MethodName) ∈ kq_W := kq_of 1306 (by decide +kernel) rfl
theorem kq_1307 : Jvm.Cond.code ({ cls := "GlossRowsModel", name := "empty", desc := "()I" } : Jvm.MethodName) prog_11_method_79_code (3 : Nat) (Option.some Jvm.ClassFile.FieldType.int) ∈ kq_W := kq_of 1307 (by decide +kernel) rfl
theorem kq_1308 : Jvm.Cond.methodLink "GlossRowsLaw" (201 : Nat) ({ cls := "GlossRowsModel", name := "rowsWith", desc := "(II)I" } : Jvm.MethodName) ∈ kq_W := kq_of 1308 (by decide +kernel) rfl
theorem kq_1309 : Jvm.Cond.instanceMethod ({ cls := "GlossRowsModel", name := "rowsWith", desc := "(II)I" } : Jvm.MethodName) ∈ kq_W := kq_of 1309 (by decide +kernel) rfl
theorem kq_1310 : Jvm.Cond.selects "GlossRowsModel" ({ cls := "GlossRowsModel", name := "rowsWith", desc := "(II)I" } : Jvm.MethodName) ({ cls := "GlossRowsModel", name := "rowsWith", desc := "(II)I" } : Jvm.MethodName) ∈ kq_W := kq_of 1310 (by decide +kernel) rfl
theorem kq_1311 : Jvm.Cond.code ({ cls := "GlossRowsModel", name := "rowsWith", desc := "(II)I" } : Jvm.MethodName) prog_11_method_80_code (3 : Nat) (Option.some Jvm.ClassFile.FieldType.int) ∈ kq_W := kq_of 1311 (by decide +kernel) rfl
theorem kq_1312 : Jvm.Cond.methodLink "GlossRowsLaw" (207 : Nat) ({ cls := "GlossRowsModel", name := "runScript", desc := "(IJ)I" } : Jvm.MethodName) ∈ kq_W := kq_of 1312 (by decide +kernel) rfl
theorem kq_1313 : Jvm.Cond.instanceMethod ({ cls := "GlossRowsModel", name := "runScript", desc := "(IJ)I" } : Jvm.MethodName) ∈ kq_W := kq_of 1313 (by decide +kernel) rfl
theorem kq_1314 : Jvm.Cond.selects "GlossRowsModel" ({ cls := "GlossRowsModel", name := "runScript", desc := "(IJ)I" } : Jvm.MethodName) ({ cls := "GlossRowsModel", name := "runScript", desc := "(IJ)I" } : Jvm.MethodName) ∈ kq_W := kq_of 1314 (by decide +kernel) rfl
theorem kq_1315 : Jvm.Cond.code ({ cls := "GlossRowsModel", name := "runScript", desc := "(IJ)I" } : Jvm.MethodName) prog_11_method_83_code (5 : Nat) (Option.some Jvm.ClassFile.FieldType.int) ∈ kq_W := kq_of 1315 (by decide +kernel) rfl
theorem kq_1316 : Jvm.Cond.constantLong "GlossRowsModel" (287 : Nat) (4 : Int64) ∈ kq_W := kq_of 1316 (by decide +kernel) rfl
theorem kq_1317 : Jvm.Cond.methodLink "GlossRowsModel" (289 : Nat) ({ cls := "GlossRowsModel", name := "tenTo", desc := "(I)J" } : Jvm.MethodName) ∈ kq_W := kq_of 1317 (by decide +kernel) rfl
theorem kq_1318 : Jvm.Cond.static ({ cls := "GlossRowsModel", name := "tenTo", desc := "(I)J" } : Jvm.MethodName) ∈ kq_W := kq_of 1318 (by decide +kernel) rfl
theorem kq_1319 : Jvm.Cond.code ({ cls := "GlossRowsModel", name := "tenTo", desc := "(I)J" } : Jvm.MethodName) prog_11_method_7_code (4 : Nat) (Option.some Jvm.ClassFile.FieldType.long) ∈ kq_W := kq_of 1319 (by decide +kernel) rfl
theorem kq_1320 : Jvm.Cond.methodLink "GlossRowsModel" (293 : Nat) ({ cls := "GlossRowsModel", name := "tryOut", desc := "()V" } : Jvm.MethodName) ∈ kq_W := kq_of 1320 (by decide +kernel) rfl
theorem kq_1322 : Jvm.Cond.instanceMethod ({ cls := "GlossRowsModel", name := "tryOut", desc := "()V" } : Jvm.MethodName) ∈ kq_W := kq_of 1322 (by decide +kernel) rfl
theorem kq_1323 : Jvm.Cond.code ({ cls := "GlossRowsModel", name := "tryOut", desc := "()V" } : Jvm.MethodName) prog_11_method_81_code (1 : Nat) (Option.none : Option Jvm.ClassFile.FieldType) ∈ kq_W := kq_of 1323 (by decide +kernel) rfl
theorem kq_1324 : Jvm.Cond.constantLong "GlossRowsModel" (296 : Nat) (10000 : Int64) ∈ kq_W := kq_of 1324 (by decide +kernel) rfl
theorem kq_1325 : Jvm.Cond.methodLink "GlossRowsModel" (298 : Nat) ({ cls := "GlossRowsModel", name := "command", desc := "(I)Z" } : Jvm.MethodName) ∈ kq_W := kq_of 1325 (by decide +kernel) rfl
theorem kq_1327 : Jvm.Cond.instanceMethod ({ cls := "GlossRowsModel", name := "command", desc := "(I)Z" } : Jvm.MethodName) ∈ kq_W := kq_of 1327 (by decide +kernel) rfl
theorem kq_1328 : Jvm.Cond.code ({ cls := "GlossRowsModel", name := "command", desc := "(I)Z" } : Jvm.MethodName) prog_11_method_82_code (6 : Nat) (Option.some Jvm.ClassFile.FieldType.boolean) ∈ kq_W := kq_of 1328 (by decide +kernel) rfl
theorem kq_1329 : Jvm.Cond.methodLink "GlossRowsModel" (284 : Nat) ({ cls := "GlossRowsModel", name := "rowsOf", desc := "([J)I" } : Jvm.MethodName) ∈ kq_W := kq_of 1329 (by decide +kernel) rfl
theorem kq_1331 : Jvm.Cond.instanceMethod ({ cls := "GlossRowsModel", name := "rowsOf", desc := "([J)I" } : Jvm.MethodName) ∈ kq_W := kq_of 1331 (by decide +kernel) rfl
theorem kq_1332 : Jvm.Cond.code ({ cls := "GlossRowsModel", name := "rowsOf", desc := "([J)I" } : Jvm.MethodName) prog_11_method_25_code (2 : Nat) (Option.some Jvm.ClassFile.FieldType.int) ∈ kq_W := kq_of 1332 (by decide +kernel) rfl
theorem kq_1333 : Jvm.Cond.methodLink "GlossRowsLaw" (211 : Nat) ({ cls := "GlossRowsModel", name := "simulate", desc := "(JI)I" } : Jvm.MethodName) ∈ kq_W := kq_of 1333 (by decide +kernel) rfl
theorem kq_1334 : Jvm.Cond.instanceMethod ({ cls := "GlossRowsModel", name := "simulate", desc := "(JI)I" } : Jvm.MethodName) ∈ kq_W := kq_of 1334 (by decide +kernel) rfl
theorem kq_1335 : Jvm.Cond.selects "GlossRowsModel" ({ cls := "GlossRowsModel", name := "simulate", desc := "(JI)I" } : Jvm.MethodName) ({ cls := "GlossRowsModel", name := "simulate", desc := "(JI)I" } : Jvm.MethodName) ∈ kq_W := kq_of 1335 (by decide +kernel) rfl
theorem kq_1336 : Jvm.Cond.code ({ cls := "GlossRowsModel", name := "simulate", desc := "(JI)I" } : Jvm.MethodName) prog_11_method_84_code (11 : Nat) (Option.some Jvm.ClassFile.FieldType.int) ∈ kq_W := kq_of 1336 (by decide +kernel) rfl
theorem kq_1337 : Jvm.Cond.constantLong "GlossRowsModel" (301 : Nat) (6364136223846793005 : Int64) ∈ kq_W := kq_of 1337 (by decide +kernel) rfl
theorem kq_1338 : Jvm.Cond.constantLong "GlossRowsModel" (303 : Nat) (1442695040888963407 : Int64) ∈ kq_W := kq_of 1338 (by decide +kernel) rfl
theorem kq_1339 : Jvm.Cond.methodLink "GlossRowsLaw" (214 : Nat) ({ cls := "GlossRowsModel", name := "save", desc := "(I)I" } : Jvm.MethodName) ∈ kq_W := kq_of 1339 (by decide +kernel) rfl
theorem kq_1340 : Jvm.Cond.instanceMethod ({ cls := "GlossRowsModel", name := "save", desc := "(I)I" } : Jvm.MethodName) ∈ kq_W := kq_of 1340 (by decide +kernel) rfl
theorem kq_1341 : Jvm.Cond.selects "GlossRowsModel" ({ cls := "GlossRowsModel", name := "save", desc := "(I)I" } : Jvm.MethodName) ({ cls := "GlossRowsModel", name := "save", desc := "(I)I" } : Jvm.MethodName) ∈ kq_W := kq_of 1341 (by decide +kernel) rfl
theorem kq_1342 : Jvm.Cond.code ({ cls := "GlossRowsModel", name := "save", desc := "(I)I" } : Jvm.MethodName) prog_11_method_85_code (2 : Nat) (Option.some Jvm.ClassFile.FieldType.int) ∈ kq_W := kq_of 1342 (by decide +kernel) rfl
theorem kq_1343 : Jvm.Cond.methodLink "GlossRowsLaw" (217 : Nat) ({ cls := "GlossRowsModel", name := "restore", desc := "(I)I" } : Jvm.MethodName) ∈ kq_W := kq_of 1343 (by decide +kernel) rfl
theorem kq_1344 : Jvm.Cond.instanceMethod ({ cls := "GlossRowsModel", name := "restore", desc := "(I)I" } : Jvm.MethodName) ∈ kq_W := kq_of 1344 (by decide +kernel) rfl
theorem kq_1345 : Jvm.Cond.selects "GlossRowsModel" ({ cls := "GlossRowsModel", name := "restore", desc := "(I)I" } : Jvm.MethodName) ({ cls := "GlossRowsModel", name := "restore", desc := "(I)I" } : Jvm.MethodName) ∈ kq_W := kq_of 1345 (by decide +kernel) rfl
theorem kq_1346 : Jvm.Cond.code ({ cls := "GlossRowsModel", name := "restore", desc := "(I)I" } : Jvm.MethodName) prog_11_method_86_code (2 : Nat) (Option.some Jvm.ClassFile.FieldType.int) ∈ kq_W := kq_of 1346 (by decide +kernel) rfl
theorem kq_1347 : Jvm.Cond.constantLong "GlossRowsLaw" (202 : Nat) (4294967295 : Int64) ∈ kq_W := kq_of 1347 (by decide +kernel) rfl
theorem kq_s0 : Cond.selects "GlossRows$Reader" ({ cls := "GlossRows$Reader", name := "openWord", desc := "()V" } : Jvm.MethodName) ({ cls := "GlossRows$Reader", name := "openWord", desc := "()V" } : Jvm.MethodName) ∈ kq_W := kq_sel 0 (by decide +kernel) rfl
theorem kq_s1 : Cond.selects "GlossRows$Reader" ({ cls := "GlossRows$Reader", name := "takes", desc := "(I)Z" } : Jvm.MethodName) ({ cls := "GlossRows$Reader", name := "takes", desc := "(I)Z" } : Jvm.MethodName) ∈ kq_W := kq_sel 1 (by decide +kernel) rfl
theorem kq_s2 : Cond.selects "GlossRows$Reader" ({ cls := "GlossRows$Reader", name := "takesBlank", desc := "()Z" } : Jvm.MethodName) ({ cls := "GlossRows$Reader", name := "takesBlank", desc := "()Z" } : Jvm.MethodName) ∈ kq_W := kq_sel 2 (by decide +kernel) rfl
theorem kq_s3 : Cond.selects "GlossRows$Reader" ({ cls := "GlossRows$Reader", name := "isWordWhole", desc := "()Z" } : Jvm.MethodName) ({ cls := "GlossRows$Reader", name := "isWordWhole", desc := "()Z" } : Jvm.MethodName) ∈ kq_W := kq_sel 3 (by decide +kernel) rfl
theorem kq_s4 : Cond.selects "GlossRows$Reader" ({ cls := "GlossRows$Reader", name := "hasPartLetters", desc := "()Z" } : Jvm.MethodName) ({ cls := "GlossRows$Reader", name := "hasPartLetters", desc := "()Z" } : Jvm.MethodName) ∈ kq_W := kq_sel 4 (by decide +kernel) rfl
theorem kq_s5 : Cond.selects "GlossRows$Reader" ({ cls := "GlossRows$Reader", name := "takesColon", desc := "()Z" } : Jvm.MethodName) ({ cls := "GlossRows$Reader", name := "takesColon", desc := "()Z" } : Jvm.MethodName) ∈ kq_W := kq_sel 5 (by decide +kernel) rfl
theorem kq_s6 : Cond.selects "GlossRows$Reader" ({ cls := "GlossRows$Reader", name := "takesMarkOfGlosses", desc := "(I)Z" } : Jvm.MethodName) ({ cls := "GlossRows$Reader", name := "takesMarkOfGlosses", desc := "(I)Z" } : Jvm.MethodName) ∈ kq_W := kq_sel 6 (by decide +kernel) rfl
theorem kq_s7 : Cond.selects "GlossRows$Reader" ({ cls := "GlossRows$Reader", name := "takesMarkOfParts", desc := "(I)Z" } : Jvm.MethodName) ({ cls := "GlossRows$Reader", name := "takesMarkOfParts", desc := "(I)Z" } : Jvm.MethodName) ∈ kq_W := kq_sel 7 (by decide +kernel) rfl
theorem kq_s8 : Cond.selects "GlossRows$Reader" ({ cls := "GlossRows$Reader", name := "takesGlossLetter", desc := "(I)Z" } : Jvm.MethodName) ({ cls := "GlossRows$Reader", name := "takesGlossLetter", desc := "(I)Z" } : Jvm.MethodName) ∈ kq_W := kq_sel 8 (by decide +kernel) rfl
theorem kq_s9 : Cond.selects "GlossRows$Reader" ({ cls := "GlossRows$Reader", name := "takesLetter", desc := "(I)Z" } : Jvm.MethodName) ({ cls := "GlossRows$Reader", name := "takesLetter", desc := "(I)Z" } : Jvm.MethodName) ∈ kq_W := kq_sel 9 (by decide +kernel) rfl
theorem kq_s10 : Cond.selects "GlossRows$Page" ({ cls := "GlossRows$Page", name := "countUses", desc := "(J)I" } : Jvm.MethodName) ({ cls := "GlossRows$Page", name := "countUses", desc := "(J)I" } : Jvm.MethodName) ∈ kq_W := kq_sel 10 (by decide +kernel) rfl
theorem kq_s11 : Cond.selects "GlossRows" ({ cls := "GlossRows", name := "arranged", desc := "(LGlossRows$Page;)LGlossRows$Layout;" } : Jvm.MethodName) ({ cls := "GlossRows", name := "arranged", desc := "(LGlossRows$Page;)LGlossRows$Layout;" } : Jvm.MethodName) ∈ kq_W := kq_sel 11 (by decide +kernel) rfl
theorem kq_s12 : Cond.selects "GlossRows$Word" ({ cls := "GlossRows$Word", name := "shownGloss", desc := "(I)J" } : Jvm.MethodName) ({ cls := "GlossRows$Word", name := "shownGloss", desc := "(I)J" } : Jvm.MethodName) ∈ kq_W := kq_sel 12 (by decide +kernel) rfl
theorem kq_s13 : Cond.selects "java/lang/Throwable" ({ cls := "java/lang/Throwable", name := "fillInStackTrace", desc := "(I)Ljava/lang/Throwable;" } : Jvm.MethodName) ({ cls := "java/lang/Throwable", name := "fillInStackTrace", desc := "(I)Ljava/lang/Throwable;" } : Jvm.MethodName) ∈ kq_W := kq_sel 13 (by decide +kernel) rfl
theorem kq_s14 : Cond.selects "GlossRows" ({ cls := "GlossRows", name := "requireWord", desc := "(I)V" } : Jvm.MethodName) ({ cls := "GlossRows", name := "requireWord", desc := "(I)V" } : Jvm.MethodName) ∈ kq_W := kq_sel 14 (by decide +kernel) rfl
theorem kq_s15 : Cond.selects "GlossRows" ({ cls := "GlossRows", name := "requirePart", desc := "(II)V" } : Jvm.MethodName) ({ cls := "GlossRows", name := "requirePart", desc := "(II)V" } : Jvm.MethodName) ∈ kq_W := kq_sel 15 (by decide +kernel) rfl
theorem kq_s16 : Cond.selects "GlossRows" ({ cls := "GlossRows", name := "requireNotNegative", desc := "(I)V" } : Jvm.MethodName) ({ cls := "GlossRows", name := "requireNotNegative", desc := "(I)V" } : Jvm.MethodName) ∈ kq_W := kq_sel 16 (by decide +kernel) rfl
theorem kq_s17 : Cond.selects "GlossRows" ({ cls := "GlossRows", name := "requireEntry", desc := "(I)V" } : Jvm.MethodName) ({ cls := "GlossRows", name := "requireEntry", desc := "(I)V" } : Jvm.MethodName) ∈ kq_W := kq_sel 17 (by decide +kernel) rfl
theorem kq_s18 : Cond.selects "GlossRows" ({ cls := "GlossRows", name := "requireRow", desc := "(I)V" } : Jvm.MethodName) ({ cls := "GlossRows", name := "requireRow", desc := "(I)V" } : Jvm.MethodName) ∈ kq_W := kq_sel 18 (by decide +kernel) rfl
theorem kq_s19 : Cond.selects "GlossRows$Layout" ({ cls := "GlossRows$Layout", name := "lastWordOfRow", desc := "(LGlossRows$Page;I)I" } : Jvm.MethodName) ({ cls := "GlossRows$Layout", name := "lastWordOfRow", desc := "(LGlossRows$Page;I)I" } : Jvm.MethodName) ∈ kq_W := kq_sel 19 (by decide +kernel) rfl
theorem kq_s20 : Cond.selects "GlossRows$Layout" ({ cls := "GlossRows$Layout", name := "beginInFree", desc := "(LGlossRows$Page;I)I" } : Jvm.MethodName) ({ cls := "GlossRows$Layout", name := "beginInFree", desc := "(LGlossRows$Page;I)I" } : Jvm.MethodName) ∈ kq_W := kq_sel 20 (by decide +kernel) rfl
theorem kq_s21 : Cond.selects "GlossRows$Lexicon" ({ cls := "GlossRows$Lexicon", name := "makePlaceFor", desc := "(J)I" } : Jvm.MethodName) ({ cls := "GlossRows$Lexicon", name := "makePlaceFor", desc := "(J)I" } : Jvm.MethodName) ∈ kq_W := kq_sel 21 (by decide +kernel) rfl
theorem kq_s22 : Cond.selects "GlossRows" ({ cls := "GlossRows", name := "succeeds", desc := "(I)Z" } : Jvm.MethodName) ({ cls := "GlossRows", name := "succeeds", desc := "(I)Z" } : Jvm.MethodName) ∈ kq_W := kq_sel 22 (by decide +kernel) rfl
theorem kq_s23 : Cond.selects "GlossRows" ({ cls := "GlossRows", name := "learnsOnTrial", desc := "(II)Z" } : Jvm.MethodName) ({ cls := "GlossRows", name := "learnsOnTrial", desc := "(II)Z" } : Jvm.MethodName) ∈ kq_W := kq_sel 23 (by decide +kernel) rfl
theorem kq_s24 : Cond.selects "GlossRows" ({ cls := "GlossRows", name := "setsOnTrial", desc := "(II)Z" } : Jvm.MethodName) ({ cls := "GlossRows", name := "setsOnTrial", desc := "(II)Z" } : Jvm.MethodName) ∈ kq_W := kq_sel 24 (by decide +kernel) rfl
theorem kq_s25 : Cond.selects "GlossRows" ({ cls := "GlossRows", name := "changesWordOfTrial", desc := "(II)Z" } : Jvm.MethodName) ({ cls := "GlossRows", name := "changesWordOfTrial", desc := "(II)Z" } : Jvm.MethodName) ∈ kq_W := kq_sel 25 (by decide +kernel) rfl
theorem kq_s26 : Cond.selects "GlossRows" ({ cls := "GlossRows", name := "fillsTrial", desc := "()Z" } : Jvm.MethodName) ({ cls := "GlossRows", name := "fillsTrial", desc := "()Z" } : Jvm.MethodName) ∈ kq_W := kq_sel 26 (by decide +kernel) rfl
theorem kq_s27 : Cond.selects "GlossRows" ({ cls := "GlossRows", name := "playRound", desc := "(I)V" } : Jvm.MethodName) ({ cls := "GlossRows", name := "playRound", desc := "(I)V" } : Jvm.MethodName) ∈ kq_W := kq_sel 27 (by decide +kernel) rfl
theorem kq_s28 : Cond.selects "GlossRows" ({ cls := "GlossRows", name := "requireSlot", desc := "(I)V" } : Jvm.MethodName) ({ cls := "GlossRows", name := "requireSlot", desc := "(I)V" } : Jvm.MethodName) ∈ kq_W := kq_sel 28 (by decide +kernel) rfl
theorem kq_s29 : Cond.selects "GlossRowsModel" ({ cls := "GlossRowsModel", name := "refused", desc := "(I)Z" } : Jvm.MethodName) ({ cls := "GlossRowsModel", name := "refused", desc := "(I)Z" } : Jvm.MethodName) ∈ kq_W := kq_sel 29 (by decide +kernel) rfl
theorem kq_s30 : Cond.selects "GlossRowsModel" ({ cls := "GlossRowsModel", name := "readText", desc := "()I" } : Jvm.MethodName) ({ cls := "GlossRowsModel", name := "readText", desc := "()I" } : Jvm.MethodName) ∈ kq_W := kq_sel 30 (by decide +kernel) rfl
theorem kq_s31 : Cond.selects "GlossRowsModel" ({ cls := "GlossRowsModel", name := "begin", desc := "()V" } : Jvm.MethodName) ({ cls := "GlossRowsModel", name := "begin", desc := "()V" } : Jvm.MethodName) ∈ kq_W := kq_sel 31 (by decide +kernel) rfl
theorem kq_s32 : Cond.selects "GlossRowsModel" ({ cls := "GlossRowsModel", name := "insertOn", desc := "([JI)V" } : Jvm.MethodName) ({ cls := "GlossRowsModel", name := "insertOn", desc := "([JI)V" } : Jvm.MethodName) ∈ kq_W := kq_sel 32 (by decide +kernel) rfl
theorem kq_s33 : Cond.selects "GlossRowsModel" ({ cls := "GlossRowsModel", name := "layNow", desc := "()V" } : Jvm.MethodName) ({ cls := "GlossRowsModel", name := "layNow", desc := "()V" } : Jvm.MethodName) ∈ kq_W := kq_sel 33 (by decide +kernel) rfl
theorem kq_s34 : Cond.selects "GlossRowsModel" ({ cls := "GlossRowsModel", name := "layOut", desc := "([JII)V" } : Jvm.MethodName) ({ cls := "GlossRowsModel", name := "layOut", desc := "([JII)V" } : Jvm.MethodName) ∈ kq_W := kq_sel 34 (by decide +kernel) rfl
theorem kq_s35 : Cond.selects "GlossRowsModel" ({ cls := "GlossRowsModel", name := "addRow", desc := "(III)V" } : Jvm.MethodName) ({ cls := "GlossRowsModel", name := "addRow", desc := "(III)V" } : Jvm.MethodName) ∈ kq_W := kq_sel 35 (by decide +kernel) rfl
theorem kq_s36 : Cond.selects "GlossRowsModel" ({ cls := "GlossRowsModel", name := "isWord", desc := "(I)Z" } : Jvm.MethodName) ({ cls := "GlossRowsModel", name := "isWord", desc := "(I)Z" } : Jvm.MethodName) ∈ kq_W := kq_sel 36 (by decide +kernel) rfl
theorem kq_s37 : Cond.selects "GlossRowsModel" ({ cls := "GlossRowsModel", name := "isPart", desc := "(II)Z" } : Jvm.MethodName) ({ cls := "GlossRowsModel", name := "isPart", desc := "(II)Z" } : Jvm.MethodName) ∈ kq_W := kq_sel 37 (by decide +kernel) rfl
theorem kq_s38 : Cond.selects "GlossRowsModel" ({ cls := "GlossRowsModel", name := "isEntry", desc := "(I)Z" } : Jvm.MethodName) ({ cls := "GlossRowsModel", name := "isEntry", desc := "(I)Z" } : Jvm.MethodName) ∈ kq_W := kq_sel 38 (by decide +kernel) rfl
theorem kq_s39 : Cond.selects "GlossRowsModel" ({ cls := "GlossRowsModel", name := "isRow", desc := "(I)Z" } : Jvm.MethodName) ({ cls := "GlossRowsModel", name := "isRow", desc := "(I)Z" } : Jvm.MethodName) ∈ kq_W := kq_sel 39 (by decide +kernel) rfl
theorem kq_s40 : Cond.selects "GlossRowsModel" ({ cls := "GlossRowsModel", name := "lengthOfRow", desc := "(I)I" } : Jvm.MethodName) ({ cls := "GlossRowsModel", name := "lengthOfRow", desc := "(I)I" } : Jvm.MethodName) ∈ kq_W := kq_sel 40 (by decide +kernel) rfl
theorem kq_s41 : Cond.selects "GlossRowsModel" ({ cls := "GlossRowsModel", name := "sentenceOfRow", desc := "(I)I" } : Jvm.MethodName) ({ cls := "GlossRowsModel", name := "sentenceOfRow", desc := "(I)I" } : Jvm.MethodName) ∈ kq_W := kq_sel 41 (by decide +kernel) rfl
theorem kq_s42 : Cond.selects "GlossRowsModel" ({ cls := "GlossRowsModel", name := "note", desc := "()V" } : Jvm.MethodName) ({ cls := "GlossRowsModel", name := "note", desc := "()V" } : Jvm.MethodName) ∈ kq_W := kq_sel 42 (by decide +kernel) rfl
theorem kq_s43 : Cond.selects "GlossRowsModel" ({ cls := "GlossRowsModel", name := "sentencesOf", desc := "([J)I" } : Jvm.MethodName) ({ cls := "GlossRowsModel", name := "sentencesOf", desc := "([J)I" } : Jvm.MethodName) ∈ kq_W := kq_sel 43 (by decide +kernel) rfl
theorem kq_s44 : Cond.selects "GlossRowsModel" ({ cls := "GlossRowsModel", name := "isFree", desc := "()Z" } : Jvm.MethodName) ({ cls := "GlossRowsModel", name := "isFree", desc := "()Z" } : Jvm.MethodName) ∈ kq_W := kq_sel 44 (by decide +kernel) rfl
theorem kq_s45 : Cond.selects "GlossRowsModel" ({ cls := "GlossRowsModel", name := "isGloss", desc := "()Z" } : Jvm.MethodName) ({ cls := "GlossRowsModel", name := "isGloss", desc := "()Z" } : Jvm.MethodName) ∈ kq_W := kq_sel 45 (by decide +kernel) rfl
theorem kq_s46 : Cond.selects "GlossRowsModel" ({ cls := "GlossRowsModel", name := "uses", desc := "(J)I" } : Jvm.MethodName) ({ cls := "GlossRowsModel", name := "uses", desc := "(J)I" } : Jvm.MethodName) ∈ kq_W := kq_sel 46 (by decide +kernel) rfl
theorem kq_s47 : Cond.selects "GlossRowsModel" ({ cls := "GlossRowsModel", name := "tryOut", desc := "()V" } : Jvm.MethodName) ({ cls := "GlossRowsModel", name := "tryOut", desc := "()V" } : Jvm.MethodName) ∈ kq_W := kq_sel 47 (by decide +kernel) rfl
theorem kq_s48 : Cond.selects "GlossRowsModel" ({ cls := "GlossRowsModel", name := "command", desc := "(I)Z" } : Jvm.MethodName) ({ cls := "GlossRowsModel", name := "command", desc := "(I)Z" } : Jvm.MethodName) ∈ kq_W := kq_sel 48 (by decide +kernel) rfl
theorem kq_s49 : Cond.selects "GlossRowsModel" ({ cls := "GlossRowsModel", name := "rowsOf", desc := "([J)I" } : Jvm.MethodName) ({ cls := "GlossRowsModel", name := "rowsOf", desc := "([J)I" } : Jvm.MethodName) ∈ kq_W := kq_sel 49 (by decide +kernel) rfl
theorem kq_inX0 : ∀ w ∈ u_ws RX0 TX0 3, w ∈ kq_W := by
  intro w hw
  obtain ⟨k, hk, rfl⟩ := List.mem_map.mp hw
  have hk := List.mem_range.mp hk
  rcases Nat.lt_or_ge k 1 with h0 | h0
  · obtain rfl : k = 0 := by omega
    exact kq_225
  rcases Nat.lt_or_ge k 2 with h1 | h1
  · obtain rfl : k = 1 := by omega
    exact kq_227
  rcases Nat.lt_or_ge k 3 with h2 | h2
  · obtain rfl : k = 2 := by omega
    exact kq_229
  omega
theorem kq_inX1 : ∀ w ∈ u_ws RX1 TX1 7, w ∈ kq_W := by
  intro w hw
  obtain ⟨k, hk, rfl⟩ := List.mem_map.mp hw
  have hk := List.mem_range.mp hk
  rcases Nat.lt_or_ge k 1 with h0 | h0
  · obtain rfl : k = 0 := by omega
    exact kq_197
  rcases Nat.lt_or_ge k 2 with h1 | h1
  · obtain rfl : k = 1 := by omega
    exact kq_199
  rcases Nat.lt_or_ge k 3 with h2 | h2
  · obtain rfl : k = 2 := by omega
    exact kq_201
  rcases Nat.lt_or_ge k 4 with h3 | h3
  · obtain rfl : k = 3 := by omega
    exact kq_203
  rcases Nat.lt_or_ge k 5 with h4 | h4
  · obtain rfl : k = 4 := by omega
    exact kq_205
  rcases Nat.lt_or_ge k 6 with h5 | h5
  · obtain rfl : k = 5 := by omega
    exact kq_207
  rcases Nat.lt_or_ge k 7 with h6 | h6
  · obtain rfl : k = 6 := by omega
    exact kq_209
  omega
theorem kq_inX3 : ∀ w ∈ u_ws RX3 TX3 3, w ∈ kq_W := by
  intro w hw
  obtain ⟨k, hk, rfl⟩ := List.mem_map.mp hw
  have hk := List.mem_range.mp hk
  rcases Nat.lt_or_ge k 1 with h0 | h0
  · obtain rfl : k = 0 := by omega
    exact kq_137
  rcases Nat.lt_or_ge k 2 with h1 | h1
  · obtain rfl : k = 1 := by omega
    exact kq_139
  rcases Nat.lt_or_ge k 3 with h2 | h2
  · obtain rfl : k = 2 := by omega
    exact kq_141
  omega
theorem kq_inX4 : ∀ w ∈ u_ws RX4 TX4 6, w ∈ kq_W := by
  intro w hw
  obtain ⟨k, hk, rfl⟩ := List.mem_map.mp hw
  have hk := List.mem_range.mp hk
  rcases Nat.lt_or_ge k 1 with h0 | h0
  · obtain rfl : k = 0 := by omega
    exact kq_166
  rcases Nat.lt_or_ge k 2 with h1 | h1
  · obtain rfl : k = 1 := by omega
    exact kq_168
  rcases Nat.lt_or_ge k 3 with h2 | h2
  · obtain rfl : k = 2 := by omega
    exact kq_170
  rcases Nat.lt_or_ge k 4 with h3 | h3
  · obtain rfl : k = 3 := by omega
    exact kq_172
  rcases Nat.lt_or_ge k 5 with h4 | h4
  · obtain rfl : k = 4 := by omega
    exact kq_174
  rcases Nat.lt_or_ge k 6 with h5 | h5
  · obtain rfl : k = 5 := by omega
    exact kq_176
  omega
theorem kq_inX5 : ∀ w ∈ u_ws RX5 TX5 5, w ∈ kq_W := by
  intro w hw
  obtain ⟨k, hk, rfl⟩ := List.mem_map.mp hw
  have hk := List.mem_range.mp hk
  rcases Nat.lt_or_ge k 1 with h0 | h0
  · obtain rfl : k = 0 := by omega
    exact kq_105
  rcases Nat.lt_or_ge k 2 with h1 | h1
  · obtain rfl : k = 1 := by omega
    exact kq_107
  rcases Nat.lt_or_ge k 3 with h2 | h2
  · obtain rfl : k = 2 := by omega
    exact kq_109
  rcases Nat.lt_or_ge k 4 with h3 | h3
  · obtain rfl : k = 3 := by omega
    exact kq_111
  rcases Nat.lt_or_ge k 5 with h4 | h4
  · obtain rfl : k = 4 := by omega
    exact kq_113
  omega
theorem kq_inX6 : ∀ w ∈ u_ws RX6 TX6 2, w ∈ kq_W := by
  intro w hw
  obtain ⟨k, hk, rfl⟩ := List.mem_map.mp hw
  have hk := List.mem_range.mp hk
  rcases Nat.lt_or_ge k 1 with h0 | h0
  · obtain rfl : k = 0 := by omega
    exact kq_39
  rcases Nat.lt_or_ge k 2 with h1 | h1
  · obtain rfl : k = 1 := by omega
    exact kq_41
  omega
theorem kq_inX7 : ∀ w ∈ u_ws RX7 TX7 7, w ∈ kq_W := by
  intro w hw
  obtain ⟨k, hk, rfl⟩ := List.mem_map.mp hw
  have hk := List.mem_range.mp hk
  rcases Nat.lt_or_ge k 1 with h0 | h0
  · obtain rfl : k = 0 := by omega
    exact kq_81
  rcases Nat.lt_or_ge k 2 with h1 | h1
  · obtain rfl : k = 1 := by omega
    exact kq_83
  rcases Nat.lt_or_ge k 3 with h2 | h2
  · obtain rfl : k = 2 := by omega
    exact kq_85
  rcases Nat.lt_or_ge k 4 with h3 | h3
  · obtain rfl : k = 3 := by omega
    exact kq_87
  rcases Nat.lt_or_ge k 5 with h4 | h4
  · obtain rfl : k = 4 := by omega
    exact kq_89
  rcases Nat.lt_or_ge k 6 with h5 | h5
  · obtain rfl : k = 5 := by omega
    exact kq_91
  rcases Nat.lt_or_ge k 7 with h6 | h6
  · obtain rfl : k = 6 := by omega
    exact kq_93
  omega
theorem kq_inX8 : ∀ w ∈ u_ws RX8 TX8 8, w ∈ kq_W := by
  intro w hw
  obtain ⟨k, hk, rfl⟩ := List.mem_map.mp hw
  have hk := List.mem_range.mp hk
  rcases Nat.lt_or_ge k 1 with h0 | h0
  · obtain rfl : k = 0 := by omega
    exact kq_240
  rcases Nat.lt_or_ge k 2 with h1 | h1
  · obtain rfl : k = 1 := by omega
    exact kq_242
  rcases Nat.lt_or_ge k 3 with h2 | h2
  · obtain rfl : k = 2 := by omega
    exact kq_244
  rcases Nat.lt_or_ge k 4 with h3 | h3
  · obtain rfl : k = 3 := by omega
    exact kq_246
  rcases Nat.lt_or_ge k 5 with h4 | h4
  · obtain rfl : k = 4 := by omega
    exact kq_248
  rcases Nat.lt_or_ge k 6 with h5 | h5
  · obtain rfl : k = 5 := by omega
    exact kq_250
  rcases Nat.lt_or_ge k 7 with h6 | h6
  · obtain rfl : k = 6 := by omega
    exact kq_252
  rcases Nat.lt_or_ge k 8 with h7 | h7
  · obtain rfl : k = 7 := by omega
    exact kq_254
  omega
theorem kq_inX9 : ∀ w ∈ u_ws RX9 TX9 22, w ∈ kq_W := by
  intro w hw
  obtain ⟨k, hk, rfl⟩ := List.mem_map.mp hw
  have hk := List.mem_range.mp hk
  rcases Nat.lt_or_ge k 1 with h0 | h0
  · obtain rfl : k = 0 := by omega
    exact kq_977
  rcases Nat.lt_or_ge k 2 with h1 | h1
  · obtain rfl : k = 1 := by omega
    exact kq_979
  rcases Nat.lt_or_ge k 3 with h2 | h2
  · obtain rfl : k = 2 := by omega
    exact kq_981
  rcases Nat.lt_or_ge k 4 with h3 | h3
  · obtain rfl : k = 3 := by omega
    exact kq_983
  rcases Nat.lt_or_ge k 5 with h4 | h4
  · obtain rfl : k = 4 := by omega
    exact kq_985
  rcases Nat.lt_or_ge k 6 with h5 | h5
  · obtain rfl : k = 5 := by omega
    exact kq_987
  rcases Nat.lt_or_ge k 7 with h6 | h6
  · obtain rfl : k = 6 := by omega
    exact kq_989
  rcases Nat.lt_or_ge k 8 with h7 | h7
  · obtain rfl : k = 7 := by omega
    exact kq_991
  rcases Nat.lt_or_ge k 9 with h8 | h8
  · obtain rfl : k = 8 := by omega
    exact kq_993
  rcases Nat.lt_or_ge k 10 with h9 | h9
  · obtain rfl : k = 9 := by omega
    exact kq_995
  rcases Nat.lt_or_ge k 11 with h10 | h10
  · obtain rfl : k = 10 := by omega
    exact kq_997
  rcases Nat.lt_or_ge k 12 with h11 | h11
  · obtain rfl : k = 11 := by omega
    exact kq_999
  rcases Nat.lt_or_ge k 13 with h12 | h12
  · obtain rfl : k = 12 := by omega
    exact kq_1001
  rcases Nat.lt_or_ge k 14 with h13 | h13
  · obtain rfl : k = 13 := by omega
    exact kq_1003
  rcases Nat.lt_or_ge k 15 with h14 | h14
  · obtain rfl : k = 14 := by omega
    exact kq_1005
  rcases Nat.lt_or_ge k 16 with h15 | h15
  · obtain rfl : k = 15 := by omega
    exact kq_1007
  rcases Nat.lt_or_ge k 17 with h16 | h16
  · obtain rfl : k = 16 := by omega
    exact kq_1009
  rcases Nat.lt_or_ge k 18 with h17 | h17
  · obtain rfl : k = 17 := by omega
    exact kq_1011
  rcases Nat.lt_or_ge k 19 with h18 | h18
  · obtain rfl : k = 18 := by omega
    exact kq_1013
  rcases Nat.lt_or_ge k 20 with h19 | h19
  · obtain rfl : k = 19 := by omega
    exact kq_1015
  rcases Nat.lt_or_ge k 21 with h20 | h20
  · obtain rfl : k = 20 := by omega
    exact kq_1017
  rcases Nat.lt_or_ge k 22 with h21 | h21
  · obtain rfl : k = 21 := by omega
    exact kq_1019
  omega
