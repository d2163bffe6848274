theorem kq_0 : Jvm.Cond.initialized "GlossRowsLaw" ∈ kq_W := kq_of 0 (by decide +kernel) rfl
theorem kq_1 : Jvm.Cond.initialized "GlossRows" ∈ kq_W := kq_of 1 (by decide +kernel) rfl
theorem kq_2 : Jvm.Cond.initialized "GlossRows$Text" ∈ kq_W := kq_of 2 (by decide +kernel) rfl
theorem kq_3 : Jvm.Cond.initialized "GlossRows$Reader" ∈ kq_W := kq_of 3 (by decide +kernel) rfl
theorem kq_4 : Jvm.Cond.initialized "GlossRows$Word" ∈ kq_W := kq_of 4 (by decide +kernel) rfl
theorem kq_5 : Jvm.Cond.initialized "GlossRows$Page" ∈ kq_W := kq_of 5 (by decide +kernel) rfl
theorem kq_6 : Jvm.Cond.initialized "GlossRows$Lexicon" ∈ kq_W := kq_of 6 (by decide +kernel) rfl
theorem kq_7 : Jvm.Cond.initialized "GlossRows$Layout" ∈ kq_W := kq_of 7 (by decide +kernel) rfl
theorem kq_8 : Jvm.Cond.initialized "GlossRows$History" ∈ kq_W := kq_of 8 (by decide +kernel) rfl
theorem kq_9 : Jvm.Cond.initialized "GlossRows$Letters" ∈ kq_W := kq_of 9 (by decide +kernel) rfl
theorem kq_10 : Jvm.Cond.initialized "java/lang/Math" ∈ kq_W := kq_of 10 (by decide +kernel) rfl
theorem kq_11 : Jvm.Cond.initialized "java/lang/Throwable" ∈ kq_W := kq_of 11 (by decide +kernel) rfl
theorem kq_12 : Jvm.Cond.initialized "java/lang/Exception" ∈ kq_W := kq_of 12 (by decide +kernel) rfl
theorem kq_13 : Jvm.Cond.initialized "java/lang/RuntimeException" ∈ kq_W := kq_of 13 (by decide +kernel) rfl
theorem kq_14 : Jvm.Cond.initialized "java/lang/IllegalArgumentException" ∈ kq_W := kq_of 14 (by decide +kernel) rfl
theorem kq_15 : Jvm.Cond.initialized "java/lang/IndexOutOfBoundsException" ∈ kq_W := kq_of 15 (by decide +kernel) rfl
theorem kq_16 : Jvm.Cond.initialized "java/lang/IllegalStateException" ∈ kq_W := kq_of 16 (by decide +kernel) rfl
theorem kq_17 : Jvm.Cond.classLink "GlossRowsLaw" (10 : Nat) "GlossRows" ∈ kq_W := kq_of 17 (by decide +kernel) rfl
theorem kq_18 : Jvm.Cond.instantiable "GlossRows" (8 : Nat) ∈ kq_W := kq_of 18 (by decide +kernel) rfl
theorem kq_19 : Jvm.Cond.methodLink "GlossRowsLaw" (230 : Nat) ({ cls := "GlossRows", name := "<init>", desc := "()V" } : Jvm.MethodName) ∈ kq_W := kq_of 19 (by decide +kernel) rfl
theorem kq_20 : Jvm.Cond.instanceMethod ({ cls := "GlossRows", name := "<init>", desc := "()V" } : Jvm.MethodName) ∈ kq_W := kq_of 20 (by decide +kernel) rfl
theorem kq_21 : Jvm.Cond.code ({ cls := "GlossRows", name := "<init>", desc := "()V" } : Jvm.MethodName) prog_1_method_1_code (2 : Nat) (Option.none : Option Jvm.ClassFile.FieldType) ∈ kq_W := kq_of 21 (by decide +kernel) rfl
theorem kq_22 : Jvm.Cond.methodLink "GlossRows" (1 : Nat) ({ cls := "java/lang/Object", name := "<init>", desc := "()V" } : Jvm.MethodName) ∈ kq_W := kq_of 22 (by decide +kernel) rfl
theorem kq_23 : Jvm.Cond.instanceMethod ({ cls := "java/lang/Object", name := "<init>", desc := "()V" } : Jvm.MethodName) ∈ kq_W := kq_of 23 (by decide +kernel) rfl
theorem kq_24 : Jvm.Cond.code ({ cls := "java/lang/Object", name := "<init>", desc := "()V" } : Jvm.MethodName) object_method_1_code (1 : Nat) (Option.none : Option Jvm.ClassFile.FieldType) ∈ kq_W := kq_of 24 (by decide +kernel) rfl
theorem kq_25 : Jvm.Cond.classLink "GlossRows" (7 : Nat) "GlossRows$Text" ∈ kq_W := kq_of 25 (by decide +kernel) rfl
theorem kq_26 : Jvm.Cond.instantiable "GlossRows$Text" (2 : Nat) ∈ kq_W := kq_of 26 (by decide +kernel) rfl
theorem kq_28 : Jvm.Cond.instanceMethod ({ cls := "GlossRows$Text", name := "<init>", desc := "()V" } : Jvm.MethodName) ∈ kq_W := kq_of 28 (by decide +kernel) rfl
theorem kq_29 : Jvm.Cond.code ({ cls := "GlossRows$Text", name := "<init>", desc := "()V" } : Jvm.MethodName) prog_8_method_1_code (1 : Nat) (Option.none : Option Jvm.ClassFile.FieldType) ∈ kq_W := kq_of 29 (by decide +kernel) rfl
theorem kq_30 : Jvm.Cond.methodLink "GlossRows$Text" (3 : Nat) ({ cls := "java/lang/Object", name := "<init>", desc := "()V" } : Jvm.MethodName) ∈ kq_W := kq_of 30 (by decide +kernel) rfl
theorem kq_31 : Jvm.Cond.fieldLink "GlossRows$Text" (9 : Nat) "GlossRows$Text" "codes" "[I" ∈ kq_W := kq_of 31 (by decide +kernel) rfl
theorem kq_32 : Jvm.Cond.fieldLink "GlossRows$Reader" (34 : Nat) "GlossRows$Text" "codes" "[I" ∈ kq_W := kq_of 32 (by decide +kernel) rfl
theorem kq_33 : Jvm.Cond.fieldLink "GlossRows$Word" (50 : Nat) "GlossRows$Text" "codes" "[I" ∈ kq_W := kq_of 33 (by decide +kernel) rfl
theorem kq_34 : Jvm.Cond.fieldLink "GlossRows$Text" (15 : Nat) "GlossRows$Text" "length" "I" ∈ kq_W := kq_of 34 (by decide +kernel) rfl
theorem kq_35 : Jvm.Cond.fieldLink "GlossRows$Reader" (29 : Nat) "GlossRows$Text" "length" "I" ∈ kq_W := kq_of 35 (by decide +kernel) rfl
theorem kq_36 : Jvm.Cond.fieldLink "GlossRows" (62 : Nat) "GlossRows$Text" "length" "I" ∈ kq_W := kq_of 36 (by decide +kernel) rfl
theorem kq_37 : Jvm.Cond.fieldLink "GlossRows$Word" (39 : Nat) "GlossRows$Text" "length" "I" ∈ kq_W := kq_of 37 (by decide +kernel) rfl
theorem kq_38 : Jvm.Cond.laysFinal "GlossRows$Text" "GlossRows$Text" "codes" "[I" ∈ kq_W := kq_of 38 (by decide +kernel) rfl
theorem kq_40 : Jvm.Cond.lays "GlossRows$Text" "GlossRows$Text" "length" "I" ∈ kq_W := kq_of 40 (by decide +kernel) rfl
theorem kq_44 : Jvm.Cond.classLink "GlossRows" (16 : Nat) "GlossRows$Reader" ∈ kq_W := kq_of 44 (by decide +kernel) rfl
theorem kq_45 : Jvm.Cond.instantiable "GlossRows$Reader" (5 : Nat) ∈ kq_W := kq_of 45 (by decide +kernel) rfl
theorem kq_46 : Jvm.Cond.methodLink "GlossRows" (18 : Nat) ({ cls := "GlossRows$Reader", name := "<init>", desc := "()V" } : Jvm.MethodName) ∈ kq_W := kq_of 46 (by decide +kernel) rfl
theorem kq_47 : Jvm.Cond.instanceMethod ({ cls := "GlossRows$Reader", name := "<init>", desc := "()V" } : Jvm.MethodName) ∈ kq_W := kq_of 47 (by decide +kernel) rfl
theorem kq_48 : Jvm.Cond.code ({ cls := "GlossRows$Reader", name := "<init>", desc := "()V" } : Jvm.MethodName) prog_7_method_1_code (2 : Nat) (Option.none : Option Jvm.ClassFile.FieldType) ∈ kq_W := kq_of 48 (by decide +kernel) rfl
theorem kq_49 : Jvm.Cond.methodLink "GlossRows$Reader" (3 : Nat) ({ cls := "java/lang/Object", name := "<init>", desc := "()V" } : Jvm.MethodName) ∈ kq_W := kq_of 49 (by decide +kernel) rfl
theorem kq_50 : Jvm.Cond.classLink "GlossRows$Reader" (9 : Nat) "GlossRows$Word" ∈ kq_W := kq_of 50 (by decide +kernel) rfl
theorem kq_52 : Jvm.Cond.instantiable "GlossRows$Word" (7 : Nat) ∈ kq_W := kq_of 52 (by decide +kernel) rfl
theorem kq_54 : Jvm.Cond.instanceMethod ({ cls := "GlossRows$Word", name := "<init>", desc := "()V" } : Jvm.MethodName) ∈ kq_W := kq_of 54 (by decide +kernel) rfl
theorem kq_55 : Jvm.Cond.code ({ cls := "GlossRows$Word", name := "<init>", desc := "()V" } : Jvm.MethodName) prog_9_method_1_code (1 : Nat) (Option.none : Option Jvm.ClassFile.FieldType) ∈ kq_W := kq_of 55 (by decide +kernel) rfl
theorem kq_56 : Jvm.Cond.methodLink "GlossRows$Word" (3 : Nat) ({ cls := "java/lang/Object", name := "<init>", desc := "()V" } : Jvm.MethodName) ∈ kq_W := kq_of 56 (by decide +kernel) rfl
theorem kq_57 : Jvm.Cond.fieldLink "GlossRows$Word" (9 : Nat) "GlossRows$Word" "parts" "[J" ∈ kq_W := kq_of 57 (by decide +kernel) rfl
theorem kq_58 : Jvm.Cond.fieldLink "GlossRows" (178 : Nat) "GlossRows$Word" "parts" "[J" ∈ kq_W := kq_of 58 (by decide +kernel) rfl
theorem kq_59 : Jvm.Cond.fieldLink "GlossRows$Reader" (95 : Nat) "GlossRows$Word" "parts" "[J" ∈ kq_W := kq_of 59 (by decide +kernel) rfl
theorem kq_60 : Jvm.Cond.fieldLink "GlossRows$Page" (68 : Nat) "GlossRows$Word" "parts" "[J" ∈ kq_W := kq_of 60 (by decide +kernel) rfl
theorem kq_61 : Jvm.Cond.fieldLink "GlossRows$Word" (15 : Nat) "GlossRows$Word" "glosses" "[J" ∈ kq_W := kq_of 61 (by decide +kernel) rfl
theorem kq_62 : Jvm.Cond.fieldLink "GlossRows" (187 : Nat) "GlossRows$Word" "glosses" "[J" ∈ kq_W := kq_of 62 (by decide +kernel) rfl
theorem kq_63 : Jvm.Cond.fieldLink "GlossRows$Reader" (109 : Nat) "GlossRows$Word" "glosses" "[J" ∈ kq_W := kq_of 63 (by decide +kernel) rfl
theorem kq_64 : Jvm.Cond.fieldLink "GlossRows$Page" (64 : Nat) "GlossRows$Word" "glosses" "[J" ∈ kq_W := kq_of 64 (by decide +kernel) rfl
theorem kq_65 : Jvm.Cond.fieldLink "GlossRows$Word" (18 : Nat) "GlossRows$Word" "marks" "[I" ∈ kq_W := kq_of 65 (by decide +kernel) rfl
theorem kq_66 : Jvm.Cond.fieldLink "GlossRows$Reader" (89 : Nat) "GlossRows$Word" "marks" "[I" ∈ kq_W := kq_of 66 (by decide +kernel) rfl
theorem kq_67 : Jvm.Cond.fieldLink "GlossRows" (190 : Nat) "GlossRows$Word" "marks" "[I" ∈ kq_W := kq_of 67 (by decide +kernel) rfl
theorem kq_68 : Jvm.Cond.fieldLink "GlossRows$Word" (22 : Nat) "GlossRows$Word" "free" "[I" ∈ kq_W := kq_of 68 (by decide +kernel) rfl
theorem kq_69 : Jvm.Cond.fieldLink "GlossRows$Word" (25 : Nat) "GlossRows$Word" "size" "I" ∈ kq_W := kq_of 69 (by decide +kernel) rfl
theorem kq_70 : Jvm.Cond.fieldLink "GlossRows$Page" (55 : Nat) "GlossRows$Word" "size" "I" ∈ kq_W := kq_of 70 (by decide +kernel) rfl
theorem kq_71 : Jvm.Cond.fieldLink "GlossRows$Reader" (86 : Nat) "GlossRows$Word" "size" "I" ∈ kq_W := kq_of 71 (by decide +kernel) rfl
theorem kq_72 : Jvm.Cond.fieldLink "GlossRows" (148 : Nat) "GlossRows$Word" "size" "I" ∈ kq_W := kq_of 72 (by decide +kernel) rfl
theorem kq_73 : Jvm.Cond.fieldLink "GlossRows$Word" (29 : Nat) "GlossRows$Word" "freeLength" "I" ∈ kq_W := kq_of 73 (by decide +kernel) rfl
theorem kq_74 : Jvm.Cond.fieldLink "GlossRows$Layout" (56 : Nat) "GlossRows$Word" "freeLength" "I" ∈ kq_W := kq_of 74 (by decide +kernel) rfl
theorem kq_75 : Jvm.Cond.fieldLink "GlossRows" (169 : Nat) "GlossRows$Word" "freeLength" "I" ∈ kq_W := kq_of 75 (by decide +kernel) rfl
theorem kq_76 : Jvm.Cond.fieldLink "GlossRows$Word" (32 : Nat) "GlossRows$Word" "ended" "Z" ∈ kq_W := kq_of 76 (by decide +kernel) rfl
theorem kq_77 : Jvm.Cond.fieldLink "GlossRows$Layout" (52 : Nat) "GlossRows$Word" "ended" "Z" ∈ kq_W := kq_of 77 (by decide +kernel) rfl
theorem kq_78 : Jvm.Cond.fieldLink "GlossRows" (164 : Nat) "GlossRows$Word" "ended" "Z" ∈ kq_W := kq_of 78 (by decide +kernel) rfl
theorem kq_79 : Jvm.Cond.fieldLink "GlossRows$Page" (91 : Nat) "GlossRows$Word" "ended" "Z" ∈ kq_W := kq_of 79 (by decide +kernel) rfl
theorem kq_80 : Jvm.Cond.laysFinal "GlossRows$Word" "GlossRows$Word" "parts" "[J" ∈ kq_W := kq_of 80 (by decide +kernel) rfl
theorem kq_82 : Jvm.Cond.laysFinal "GlossRows$Word" "GlossRows$Word" "glosses" "[J" ∈ kq_W := kq_of 82 (by decide +kernel) rfl
theorem kq_84 : Jvm.Cond.laysFinal "GlossRows$Word" "GlossRows$Word" "marks" "[I" ∈ kq_W := kq_of 84 (by decide +kernel) rfl
theorem kq_86 : Jvm.Cond.laysFinal "GlossRows$Word" "GlossRows$Word" "free" "[I" ∈ kq_W := kq_of 86 (by decide +kernel) rfl
theorem kq_88 : Jvm.Cond.lays "GlossRows$Word" "GlossRows$Word" "size" "I" ∈ kq_W := kq_of 88 (by decide +kernel) rfl
theorem kq_90 : Jvm.Cond.lays "GlossRows$Word" "GlossRows$Word" "freeLength" "I" ∈ kq_W := kq_of 90 (by decide +kernel) rfl
theorem kq_92 : Jvm.Cond.lays "GlossRows$Word" "GlossRows$Word" "ended" "Z" ∈ kq_W := kq_of 92 (by decide +kernel) rfl
theorem kq_96 : Jvm.Cond.fieldLink "GlossRows$Reader" (11 : Nat) "GlossRows$Reader" "words" "[LGlossRows$Word;" ∈ kq_W := kq_of 96 (by decide +kernel) rfl
theorem kq_97 : Jvm.Cond.fieldLink "GlossRows$Page" (59 : Nat) "GlossRows$Reader" "words" "[LGlossRows$Word;" ∈ kq_W := kq_of 97 (by decide +kernel) rfl
theorem kq_98 : Jvm.Cond.fieldLink "GlossRows$Reader" (22 : Nat) "GlossRows$Reader" "count" "I" ∈ kq_W := kq_of 98 (by decide +kernel) rfl
theorem kq_99 : Jvm.Cond.fieldLink "GlossRows$Page" (56 : Nat) "GlossRows$Reader" "count" "I" ∈ kq_W := kq_of 99 (by decide +kernel) rfl
theorem kq_100 : Jvm.Cond.fieldLink "GlossRows" (233 : Nat) "GlossRows$Reader" "count" "I" ∈ kq_W := kq_of 100 (by decide +kernel) rfl
theorem kq_101 : Jvm.Cond.fieldLink "GlossRows$Reader" (18 : Nat) "GlossRows$Reader" "current" "LGlossRows$Word;" ∈ kq_W := kq_of 101 (by decide +kernel) rfl
theorem kq_102 : Jvm.Cond.fieldLink "GlossRows$Reader" (53 : Nat) "GlossRows$Reader" "inGlosses" "Z" ∈ kq_W := kq_of 102 (by decide +kernel) rfl
theorem kq_103 : Jvm.Cond.fieldLink "GlossRows$Reader" (57 : Nat) "GlossRows$Reader" "place" "I" ∈ kq_W := kq_of 103 (by decide +kernel) rfl
theorem kq_104 : Jvm.Cond.laysFinal "GlossRows$Reader" "GlossRows$Reader" "words" "[LGlossRows$Word;" ∈ kq_W := kq_of 104 (by decide +kernel) rfl
theorem kq_106 : Jvm.Cond.lays "GlossRows$Reader" "GlossRows$Reader" "count" "I" ∈ kq_W := kq_of 106 (by decide +kernel) rfl
theorem kq_108 : Jvm.Cond.lays "GlossRows$Reader" "GlossRows$Reader" "current" "LGlossRows$Word;" ∈ kq_W := kq_of 108 (by decide +kernel) rfl
theorem kq_110 : Jvm.Cond.lays "GlossRows$Reader" "GlossRows$Reader" "inGlosses" "Z" ∈ kq_W := kq_of 110 (by decide +kernel) rfl
theorem kq_112 : Jvm.Cond.lays "GlossRows$Reader" "GlossRows$Reader" "place" "I" ∈ kq_W := kq_of 112 (by decide +kernel) rfl
theorem kq_115 : Jvm.Cond.classLink "GlossRows" (23 : Nat) "GlossRows$Page" ∈ kq_W := kq_of 115 (by decide +kernel) rfl
theorem kq_116 : Jvm.Cond.instantiable "GlossRows$Page" (6 : Nat) ∈ kq_W := kq_of 116 (by decide +kernel) rfl
theorem kq_117 : Jvm.Cond.methodLink "GlossRows" (25 : Nat) ({ cls := "GlossRows$Page", name := "<init>", desc := "()V" } : Jvm.MethodName) ∈ kq_W := kq_of 117 (by decide +kernel) rfl
theorem kq_118 : Jvm.Cond.instanceMethod ({ cls := "GlossRows$Page", name := "<init>", desc := "()V" } : Jvm.MethodName) ∈ kq_W := kq_of 118 (by decide +kernel) rfl
theorem kq_119 : Jvm.Cond.code ({ cls := "GlossRows$Page", name := "<init>", desc := "()V" } : Jvm.MethodName) prog_6_method_1_code (2 : Nat) (Option.none : Option Jvm.ClassFile.FieldType) ∈ kq_W := kq_of 119 (by decide +kernel) rfl
theorem kq_120 : Jvm.Cond.methodLink "GlossRows$Page" (3 : Nat) ({ cls := "java/lang/Object", name := "<init>", desc := "()V" } : Jvm.MethodName) ∈ kq_W := kq_of 120 (by decide +kernel) rfl
theorem kq_121 : Jvm.Cond.classLink "GlossRows$Page" (9 : Nat) "GlossRows$Word" ∈ kq_W := kq_of 121 (by decide +kernel) rfl
theorem kq_122 : Jvm.Cond.classLink "GlossRows$Page" (17 : Nat) "GlossRows$Lexicon" ∈ kq_W := kq_of 122 (by decide +kernel) rfl
theorem kq_123 : Jvm.Cond.instantiable "GlossRows$Lexicon" (3 : Nat) ∈ kq_W := kq_of 123 (by decide +kernel) rfl
theorem kq_125 : Jvm.Cond.instanceMethod ({ cls := "GlossRows$Lexicon", name := "<init>", desc := "()V" } : Jvm.MethodName) ∈ kq_W := kq_of 125 (by decide +kernel) rfl
theorem kq_126 : Jvm.Cond.code ({ cls := "GlossRows$Lexicon", name := "<init>", desc := "()V" } : Jvm.MethodName) prog_5_method_1_code (1 : Nat) (Option.none : Option Jvm.ClassFile.FieldType) ∈ kq_W := kq_of 126 (by decide +kernel) rfl
theorem kq_127 : Jvm.Cond.methodLink "GlossRows$Lexicon" (3 : Nat) ({ cls := "java/lang/Object", name := "<init>", desc := "()V" } : Jvm.MethodName) ∈ kq_W := kq_of 127 (by decide +kernel) rfl
theorem kq_128 : Jvm.Cond.fieldLink "GlossRows$Lexicon" (9 : Nat) "GlossRows$Lexicon" "parts" "[J" ∈ kq_W := kq_of 128 (by decide +kernel) rfl
theorem kq_129 : Jvm.Cond.fieldLink "GlossRows" (209 : Nat) "GlossRows$Lexicon" "parts" "[J" ∈ kq_W := kq_of 129 (by decide +kernel) rfl
theorem kq_130 : Jvm.Cond.fieldLink "GlossRows$Lexicon" (15 : Nat) "GlossRows$Lexicon" "glosses" "[J" ∈ kq_W := kq_of 130 (by decide +kernel) rfl
theorem kq_131 : Jvm.Cond.fieldLink "GlossRows" (208 : Nat) "GlossRows$Lexicon" "glosses" "[J" ∈ kq_W := kq_of 131 (by decide +kernel) rfl
theorem kq_132 : Jvm.Cond.fieldLink "GlossRows$Page" (86 : Nat) "GlossRows$Lexicon" "glosses" "[J" ∈ kq_W := kq_of 132 (by decide +kernel) rfl
theorem kq_133 : Jvm.Cond.fieldLink "GlossRows$Lexicon" (18 : Nat) "GlossRows$Lexicon" "size" "I" ∈ kq_W := kq_of 133 (by decide +kernel) rfl
theorem kq_134 : Jvm.Cond.fieldLink "GlossRows$Page" (32 : Nat) "GlossRows$Lexicon" "size" "I" ∈ kq_W := kq_of 134 (by decide +kernel) rfl
theorem kq_135 : Jvm.Cond.fieldLink "GlossRows" (125 : Nat) "GlossRows$Lexicon" "size" "I" ∈ kq_W := kq_of 135 (by decide +kernel) rfl
theorem kq_136 : Jvm.Cond.laysFinal "GlossRows$Lexicon" "GlossRows$Lexicon" "parts" "[J" ∈ kq_W := kq_of 136 (by decide +kernel) rfl
theorem kq_138 : Jvm.Cond.laysFinal "GlossRows$Lexicon" "GlossRows$Lexicon" "glosses" "[J" ∈ kq_W := kq_of 138 (by decide +kernel) rfl
theorem kq_140 : Jvm.Cond.lays "GlossRows$Lexicon" "GlossRows$Lexicon" "size" "I" ∈ kq_W := kq_of 140 (by decide +kernel) rfl
theorem kq_144 : Jvm.Cond.methodLink "GlossRows$Page" (25 : Nat) ({ cls := "GlossRows$Page", name := "reset", desc := "()V" } : Jvm.MethodName) ∈ kq_W := kq_of 144 (by decide +kernel) rfl
theorem kq_145 : Jvm.Cond.instanceMethod ({ cls := "GlossRows$Page", name := "reset", desc := "()V" } : Jvm.MethodName) ∈ kq_W := kq_of 145 (by decide +kernel) rfl
theorem kq_146 : Jvm.Cond.selects "GlossRows$Page" ({ cls := "GlossRows$Page", name := "reset", desc := "()V" } : Jvm.MethodName) ({ cls := "GlossRows$Page", name := "reset", desc := "()V" } : Jvm.MethodName) ∈ kq_W := kq_of 146 (by decide +kernel) rfl
theorem kq_147 : Jvm.Cond.code ({ cls := "GlossRows$Page", name := "reset", desc := "()V" } : Jvm.MethodName) prog_6_method_2_code (1 : Nat) (Option.none : Option Jvm.ClassFile.FieldType) ∈ kq_W := kq_of 147 (by decide +kernel) rfl
theorem kq_148 : Jvm.Cond.fieldLink "GlossRows$Page" (11 : Nat) "GlossRows$Page" "words" "[LGlossRows$Word;" ∈ kq_W := kq_of 148 (by decide +kernel) rfl
theorem kq_149 : Jvm.Cond.fieldLink "GlossRows$Layout" (33 : Nat) "GlossRows$Page" "words" "[LGlossRows$Word;" ∈ kq_W := kq_of 149 (by decide +kernel) rfl
theorem kq_150 : Jvm.Cond.fieldLink "GlossRows" (144 : Nat) "GlossRows$Page" "words" "[LGlossRows$Word;" ∈ kq_W := kq_of 150 (by decide +kernel) rfl
theorem kq_151 : Jvm.Cond.fieldLink "GlossRows$Page" (20 : Nat) "GlossRows$Page" "lexicon" "LGlossRows$Lexicon;" ∈ kq_W := kq_of 151 (by decide +kernel) rfl
theorem kq_152 : Jvm.Cond.fieldLink "GlossRows" (121 : Nat) "GlossRows$Page" "lexicon" "LGlossRows$Lexicon;" ∈ kq_W := kq_of 152 (by decide +kernel) rfl
theorem kq_153 : Jvm.Cond.fieldLink "GlossRows$Page" (28 : Nat) "GlossRows$Page" "count" "I" ∈ kq_W := kq_of 153 (by decide +kernel) rfl
theorem kq_154 : Jvm.Cond.fieldLink "GlossRows$Layout" (27 : Nat) "GlossRows$Page" "count" "I" ∈ kq_W := kq_of 154 (by decide +kernel) rfl
theorem kq_155 : Jvm.Cond.fieldLink "GlossRows" (91 : Nat) "GlossRows$Page" "count" "I" ∈ kq_W := kq_of 155 (by decide +kernel) rfl
theorem kq_156 : Jvm.Cond.fieldLink "GlossRows$Page" (35 : Nat) "GlossRows$Page" "width" "I" ∈ kq_W := kq_of 156 (by decide +kernel) rfl
theorem kq_157 : Jvm.Cond.fieldLink "GlossRows" (114 : Nat) "GlossRows$Page" "width" "I" ∈ kq_W := kq_of 157 (by decide +kernel) rfl
theorem kq_158 : Jvm.Cond.fieldLink "GlossRows$Layout" (78 : Nat) "GlossRows$Page" "width" "I" ∈ kq_W := kq_of 158 (by decide +kernel) rfl
theorem kq_159 : Jvm.Cond.fieldLink "GlossRows$Page" (38 : Nat) "GlossRows$Page" "space" "I" ∈ kq_W := kq_of 159 (by decide +kernel) rfl
theorem kq_160 : Jvm.Cond.fieldLink "GlossRows$Layout" (49 : Nat) "GlossRows$Page" "space" "I" ∈ kq_W := kq_of 160 (by decide +kernel) rfl
theorem kq_161 : Jvm.Cond.fieldLink "GlossRows" (133 : Nat) "GlossRows$Page" "space" "I" ∈ kq_W := kq_of 161 (by decide +kernel) rfl
theorem kq_162 : Jvm.Cond.fieldLink "GlossRows$Page" (41 : Nat) "GlossRows$Page" "way" "I" ∈ kq_W := kq_of 162 (by decide +kernel) rfl
theorem kq_163 : Jvm.Cond.fieldLink "GlossRows" (136 : Nat) "GlossRows$Page" "way" "I" ∈ kq_W := kq_of 163 (by decide +kernel) rfl
theorem kq_164 : Jvm.Cond.fieldLink "GlossRows$Layout" (89 : Nat) "GlossRows$Page" "way" "I" ∈ kq_W := kq_of 164 (by decide +kernel) rfl
theorem kq_165 : Jvm.Cond.laysFinal "GlossRows$Page" "GlossRows$Page" "words" "[LGlossRows$Word;" ∈ kq_W := kq_of 165 (by decide +kernel) rfl
theorem kq_167 : Jvm.Cond.laysFinal "GlossRows$Page" "GlossRows$Page" "lexicon" "LGlossRows$Lexicon;" ∈ kq_W := kq_of 167 (by decide +kernel) rfl
theorem kq_169 : Jvm.Cond.lays "GlossRows$Page" "GlossRows$Page" "count" "I" ∈ kq_W := kq_of 169 (by decide +kernel) rfl
theorem kq_171 : Jvm.Cond.lays "GlossRows$Page" "GlossRows$Page" "width" "I" ∈ kq_W := kq_of 171 (by decide +kernel) rfl
theorem kq_173 : Jvm.Cond.lays "GlossRows$Page" "GlossRows$Page" "space" "I" ∈ kq_W := kq_of 173 (by decide +kernel) rfl
theorem kq_175 : Jvm.Cond.lays "GlossRows$Page" "GlossRows$Page" "way" "I" ∈ kq_W := kq_of 175 (by decide +kernel) rfl
theorem kq_178 : Jvm.Cond.classLink "GlossRows" (33 : Nat) "GlossRows$Layout" ∈ kq_W := kq_of 178 (by decide +kernel) rfl
theorem kq_179 : Jvm.Cond.instantiable "GlossRows$Layout" (7 : Nat) ∈ kq_W := kq_of 179 (by decide +kernel) rfl
theorem kq_181 : Jvm.Cond.instanceMethod ({ cls := "GlossRows$Layout", name := "<init>", desc := "()V" } : Jvm.MethodName) ∈ kq_W := kq_of 181 (by decide +kernel) rfl
theorem kq_182 : Jvm.Cond.code ({ cls := "GlossRows$Layout", name := "<init>", desc := "()V" } : Jvm.MethodName) prog_3_method_1_code (1 : Nat) (Option.none : Option Jvm.ClassFile.FieldType) ∈ kq_W := kq_of 182 (by decide +kernel) rfl
theorem kq_183 : Jvm.Cond.methodLink "GlossRows$Layout" (3 : Nat) ({ cls := "java/lang/Object", name := "<init>", desc := "()V" } : Jvm.MethodName) ∈ kq_W := kq_of 183 (by decide +kernel) rfl
theorem kq_184 : Jvm.Cond.fieldLink "GlossRows$Layout" (9 : Nat) "GlossRows$Layout" "lines" "[I" ∈ kq_W := kq_of 184 (by decide +kernel) rfl
theorem kq_185 : Jvm.Cond.fieldLink "GlossRows" (154 : Nat) "GlossRows$Layout" "lines" "[I" ∈ kq_W := kq_of 185 (by decide +kernel) rfl
theorem kq_186 : Jvm.Cond.fieldLink "GlossRows$Layout" (15 : Nat) "GlossRows$Layout" "columns" "[I" ∈ kq_W := kq_of 186 (by decide +kernel) rfl
theorem kq_187 : Jvm.Cond.fieldLink "GlossRows" (158 : Nat) "GlossRows$Layout" "columns" "[I" ∈ kq_W := kq_of 187 (by decide +kernel) rfl
theorem kq_188 : Jvm.Cond.fieldLink "GlossRows$Layout" (18 : Nat) "GlossRows$Layout" "sentences" "[I" ∈ kq_W := kq_of 188 (by decide +kernel) rfl
theorem kq_189 : Jvm.Cond.fieldLink "GlossRows" (161 : Nat) "GlossRows$Layout" "sentences" "[I" ∈ kq_W := kq_of 189 (by decide +kernel) rfl
theorem kq_190 : Jvm.Cond.fieldLink "GlossRows$Layout" (43 : Nat) "GlossRows$Layout" "lineCount" "I" ∈ kq_W := kq_of 190 (by decide +kernel) rfl
theorem kq_191 : Jvm.Cond.fieldLink "GlossRows" (108 : Nat) "GlossRows$Layout" "lineCount" "I" ∈ kq_W := kq_of 191 (by decide +kernel) rfl
theorem kq_192 : Jvm.Cond.fieldLink "GlossRows$Layout" (46 : Nat) "GlossRows$Layout" "rowCount" "I" ∈ kq_W := kq_of 192 (by decide +kernel) rfl
theorem kq_193 : Jvm.Cond.fieldLink "GlossRows" (111 : Nat) "GlossRows$Layout" "rowCount" "I" ∈ kq_W := kq_of 193 (by decide +kernel) rfl
theorem kq_194 : Jvm.Cond.fieldLink "GlossRows$Layout" (21 : Nat) "GlossRows$Layout" "widths" "[I" ∈ kq_W := kq_of 194 (by decide +kernel) rfl
theorem kq_195 : Jvm.Cond.fieldLink "GlossRows$Layout" (24 : Nat) "GlossRows$Layout" "firstRows" "[I" ∈ kq_W := kq_of 195 (by decide +kernel) rfl
theorem kq_196 : Jvm.Cond.laysFinal "GlossRows$Layout" "GlossRows$Layout" "lines" "[I" ∈ kq_W := kq_of 196 (by decide +kernel) rfl
theorem kq_198 : Jvm.Cond.laysFinal "GlossRows$Layout" "GlossRows$Layout" "columns" "[I" ∈ kq_W := kq_of 198 (by decide +kernel) rfl
theorem kq_200 : Jvm.Cond.laysFinal "GlossRows$Layout" "GlossRows$Layout" "sentences" "[I" ∈ kq_W := kq_of 200 (by decide +kernel) rfl
theorem kq_202 : Jvm.Cond.lays "GlossRows$Layout" "GlossRows$Layout" "lineCount" "I" ∈ kq_W := kq_of 202 (by decide +kernel) rfl
theorem kq_204 : Jvm.Cond.lays "GlossRows$Layout" "GlossRows$Layout" "rowCount" "I" ∈ kq_W := kq_of 204 (by decide +kernel) rfl
theorem kq_206 : Jvm.Cond.laysFinal "GlossRows$Layout" "GlossRows$Layout" "widths" "[I" ∈ kq_W := kq_of 206 (by decide +kernel) rfl
theorem kq_208 : Jvm.Cond.laysFinal "GlossRows$Layout" "GlossRows$Layout" "firstRows" "[I" ∈ kq_W := kq_of 208 (by decide +kernel) rfl
theorem kq_211 : Jvm.Cond.classLink "GlossRows" (40 : Nat) "GlossRows$History" ∈ kq_W := kq_of 211 (by decide +kernel) rfl
theorem kq_212 : Jvm.Cond.instantiable "GlossRows$History" (3 : Nat) ∈ kq_W := kq_of 212 (by decide +kernel) rfl
theorem kq_213 : Jvm.Cond.methodLink "GlossRows" (42 : Nat) ({ cls := "GlossRows$History", name := "<init>", desc := "()V" } : Jvm.MethodName) ∈ kq_W := kq_of 213 (by decide +kernel) rfl
theorem kq_214 : Jvm.Cond.instanceMethod ({ cls := "GlossRows$History", name := "<init>", desc := "()V" } : Jvm.MethodName) ∈ kq_W := kq_of 214 (by decide +kernel) rfl
theorem kq_215 : Jvm.Cond.code ({ cls := "GlossRows$History", name := "<init>", desc := "()V" } : Jvm.MethodName) prog_2_method_1_code (2 : Nat) (Option.none : Option Jvm.ClassFile.FieldType) ∈ kq_W := kq_of 215 (by decide +kernel) rfl
theorem kq_216 : Jvm.Cond.methodLink "GlossRows$History" (3 : Nat) ({ cls := "java/lang/Object", name := "<init>", desc := "()V" } : Jvm.MethodName) ∈ kq_W := kq_of 216 (by decide +kernel) rfl
theorem kq_217 : Jvm.Cond.classLink "GlossRows$History" (9 : Nat) "GlossRows$Page" ∈ kq_W := kq_of 217 (by decide +kernel) rfl
theorem kq_219 : Jvm.Cond.methodLink "GlossRows$History" (17 : Nat) ({ cls := "GlossRows$Page", name := "<init>", desc := "()V" } : Jvm.MethodName) ∈ kq_W := kq_of 219 (by decide +kernel) rfl
theorem kq_220 : Jvm.Cond.fieldLink "GlossRows$History" (11 : Nat) "GlossRows$History" "pages" "[LGlossRows$Page;" ∈ kq_W := kq_of 220 (by decide +kernel) rfl
theorem kq_221 : Jvm.Cond.fieldLink "GlossRows$History" (18 : Nat) "GlossRows$History" "count" "I" ∈ kq_W := kq_of 221 (by decide +kernel) rfl
theorem kq_222 : Jvm.Cond.fieldLink "GlossRows" (289 : Nat) "GlossRows$History" "count" "I" ∈ kq_W := kq_of 222 (by decide +kernel) rfl
theorem kq_223 : Jvm.Cond.fieldLink "GlossRows$History" (22 : Nat) "GlossRows$History" "oldest" "I" ∈ kq_W := kq_of 223 (by decide +kernel) rfl
theorem kq_224 : Jvm.Cond.laysFinal "GlossRows$History" "GlossRows$History" "pages" "[LGlossRows$Page;" ∈ kq_W := kq_of 224 (by decide +kernel) rfl
theorem kq_226 : Jvm.Cond.lays "GlossRows$History" "GlossRows$History" "count" "I" ∈ kq_W := kq_of 226 (by decide +kernel) rfl
theorem kq_228 : Jvm.Cond.lays "GlossRows$History" "GlossRows$History" "oldest" "I" ∈ kq_W := kq_of 228 (by decide +kernel) rfl
theorem kq_231 : Jvm.Cond.fieldLink "GlossRows" (10 : Nat) "GlossRows" "text" "LGlossRows$Text;" ∈ kq_W := kq_of 231 (by decide +kernel) rfl
theorem kq_232 : Jvm.Cond.fieldLink "GlossRows" (19 : Nat) "GlossRows" "reader" "LGlossRows$Reader;" ∈ kq_W := kq_of 232 (by decide +kernel) rfl
theorem kq_233 : Jvm.Cond.fieldLink "GlossRows" (26 : Nat) "GlossRows" "page" "LGlossRows$Page;" ∈ kq_W := kq_of 233 (by decide +kernel) rfl
theorem kq_234 : Jvm.Cond.fieldLink "GlossRows" (30 : Nat) "GlossRows" "trial" "LGlossRows$Page;" ∈ kq_W := kq_of 234 (by decide +kernel) rfl
theorem kq_235 : Jvm.Cond.fieldLink "GlossRows" (36 : Nat) "GlossRows" "layout" "LGlossRows$Layout;" ∈ kq_W := kq_of 235 (by decide +kernel) rfl
theorem kq_236 : Jvm.Cond.fieldLink "GlossRows" (43 : Nat) "GlossRows" "history" "LGlossRows$History;" ∈ kq_W := kq_of 236 (by decide +kernel) rfl
theorem kq_237 : Jvm.Cond.fieldLink "GlossRows" (47 : Nat) "GlossRows" "slots" "[LGlossRows$Page;" ∈ kq_W := kq_of 237 (by decide +kernel) rfl
theorem kq_238 : Jvm.Cond.fieldLink "GlossRows" (51 : Nat) "GlossRows" "saved" "[Z" ∈ kq_W := kq_of 238 (by decide +kernel) rfl
theorem kq_239 : Jvm.Cond.laysFinal "GlossRows" "GlossRows" "text" "LGlossRows$Text;" ∈ kq_W := kq_of 239 (by decide +kernel) rfl
theorem kq_241 : Jvm.Cond.laysFinal "GlossRows" "GlossRows" "reader" "LGlossRows$Reader;" ∈ kq_W := kq_of 241 (by decide +kernel) rfl
theorem kq_243 : Jvm.Cond.laysFinal "GlossRows" "GlossRows" "page" "LGlossRows$Page;" ∈ kq_W := kq_of 243 (by decide +kernel) rfl
theorem kq_245 : Jvm.Cond.laysFinal "GlossRows" "GlossRows" "trial" "LGlossRows$Page;" ∈ kq_W := kq_of 245 (by decide +kernel) rfl
theorem kq_247 : Jvm.Cond.laysFinal "GlossRows" "GlossRows" "layout" "LGlossRows$Layout;" ∈ kq_W := kq_of 247 (by decide +kernel) rfl
theorem kq_249 : Jvm.Cond.laysFinal "GlossRows" "GlossRows" "history" "LGlossRows$History;" ∈ kq_W := kq_of 249 (by decide +kernel) rfl
theorem kq_251 : Jvm.Cond.laysFinal "GlossRows" "GlossRows" "slots" "[LGlossRows$Page;" ∈ kq_W := kq_of 251 (by decide +kernel) rfl
theorem kq_253 : Jvm.Cond.laysFinal "GlossRows" "GlossRows" "saved" "[Z" ∈ kq_W := kq_of 253 (by decide +kernel) rfl
theorem kq_257 : Jvm.Cond.methodLink "GlossRowsLaw" (231 : Nat) ({ cls := "GlossRowsLaw", name := "draw", desc := "([II)I" } : Jvm.MethodName) ∈ kq_W := kq_of 257 (by decide +kernel) rfl
theorem kq_258 : Jvm.Cond.static ({ cls := "GlossRowsLaw", name := "draw", desc := "([II)I" } : Jvm.MethodName) ∈ kq_W := kq_of 258 (by decide +kernel) rfl
theorem kq_259 : Jvm.Cond.code ({ cls := "GlossRowsLaw", name := "draw", desc := "([II)I" } : Jvm.MethodName) method_2_code (2 : Nat) (Option.some Jvm.ClassFile.FieldType.int) ∈ kq_W := kq_of 259 (by decide +kernel) rfl
theorem kq_260 : Jvm.Cond.constant "GlossRowsLaw" (7 : Nat) (15593203 : Int32) ∈ kq_W := kq_of 260 (by decide +kernel) rfl
theorem kq_261 : Jvm.Cond.constant "GlossRowsLaw" (8 : Nat) (2147483647 : Int32) ∈ kq_W := kq_of 261 (by decide +kernel) rfl
theorem kq_262 : Jvm.Cond.methodLink "GlossRowsLaw" (246 : Nat) ({ cls := "GlossRowsLaw", name := "load", desc := "(LGlossRows;)J" } : Jvm.MethodName) ∈ kq_W := kq_of 262 (by decide +kernel) rfl
theorem kq_263 : Jvm.Cond.static ({ cls := "GlossRowsLaw", name := "load", desc := "(LGlossRows;)J" } : Jvm.MethodName) ∈ kq_W := kq_of 263 (by decide +kernel) rfl
theorem kq_265 : Jvm.Cond.classLink "GlossRowsLaw" (19 : Nat) "java/lang/IllegalStateException" ∈ kq_W := kq_of 265 (by decide +kernel) rfl
theorem kq_266 : Jvm.Cond.methodLink "GlossRowsLaw" (23 : Nat) ({ cls := "GlossRows", name := "load", desc := "()I" } : Jvm.MethodName) ∈ kq_W := kq_of 266 (by decide +kernel) rfl
theorem kq_267 : Jvm.Cond.instanceMethod ({ cls := "GlossRows", name := "load", desc := "()I" } : Jvm.MethodName) ∈ kq_W := kq_of 267 (by decide +kernel) rfl
theorem kq_268 : Jvm.Cond.selects "GlossRows" ({ cls := "GlossRows", name := "load", desc := "()I" } : Jvm.MethodName) ({ cls := "GlossRows", name := "load", desc := "()I" } : Jvm.MethodName) ∈ kq_W := kq_of 268 (by decide +kernel) rfl
theorem kq_269 : Jvm.Cond.code ({ cls := "GlossRows", name := "load", desc := "()I" } : Jvm.MethodName) prog_1_method_5_code (2 : Nat) (Option.some Jvm.ClassFile.FieldType.int) ∈ kq_W := kq_of 269 (by decide +kernel) rfl
theorem kq_270 : Jvm.Cond.methodLink "GlossRows" (75 : Nat) ({ cls := "GlossRows$Reader", name := "read", desc := "(LGlossRows$Text;)I" } : Jvm.MethodName) ∈ kq_W := kq_of 270 (by decide +kernel) rfl
theorem kq_271 : Jvm.Cond.instanceMethod ({ cls := "GlossRows$Reader", name := "read", desc := "(LGlossRows$Text;)I" } : Jvm.MethodName) ∈ kq_W := kq_of 271 (by decide +kernel) rfl
theorem kq_272 : Jvm.Cond.selects "GlossRows$Reader" ({ cls := "GlossRows$Reader", name := "read", desc := "(LGlossRows$Text;)I" } : Jvm.MethodName) ({ cls := "GlossRows$Reader", name := "read", desc := "(LGlossRows$Text;)I" } : Jvm.MethodName) ∈ kq_W := kq_of 272 (by decide +kernel) rfl
theorem kq_273 : Jvm.Cond.code ({ cls := "GlossRows$Reader", name := "read", desc := "(LGlossRows$Text;)I" } : Jvm.MethodName) prog_7_method_2_code (3 : Nat) (Option.some Jvm.ClassFile.FieldType.int) ∈ kq_W := kq_of 273 (by decide +kernel) rfl
theorem kq_274 : Jvm.Cond.methodLink "GlossRows$Reader" (26 : Nat) ({ cls := "GlossRows$Reader", name := "openWord", desc := "()V" } : Jvm.MethodName) ∈ kq_W := kq_of 274 (by decide +kernel) rfl
theorem kq_276 : Jvm.Cond.instanceMethod ({ cls := "GlossRows$Reader", name := "openWord", desc := "()V" } : Jvm.MethodName) ∈ kq_W := kq_of 276 (by decide +kernel) rfl
theorem kq_277 : Jvm.Cond.code ({ cls := "GlossRows$Reader", name := "openWord", desc := "()V" } : Jvm.MethodName) prog_7_method_3_code (1 : Nat) (Option.none : Option Jvm.ClassFile.FieldType) ∈ kq_W := kq_of 277 (by decide +kernel) rfl
theorem kq_278 : Jvm.Cond.methodLink "GlossRows$Reader" (46 : Nat) ({ cls := "GlossRows$Word", name := "reset", desc := "()V" } : Jvm.MethodName) ∈ kq_W := kq_of 278 (by decide +kernel) rfl
theorem kq_279 : Jvm.Cond.instanceMethod ({ cls := "GlossRows$Word", name := "reset", desc := "()V" } : Jvm.MethodName) ∈ kq_W := kq_of 279 (by decide +kernel) rfl
theorem kq_280 : Jvm.Cond.selects "GlossRows$Word" ({ cls := "GlossRows$Word", name := "reset", desc := "()V" } : Jvm.MethodName) ({ cls := "GlossRows$Word", name := "reset", desc := "()V" } : Jvm.MethodName) ∈ kq_W := kq_of 280 (by decide +kernel) rfl
theorem kq_281 : Jvm.Cond.code ({ cls := "GlossRows$Word", name := "reset", desc := "()V" } : Jvm.MethodName) prog_9_method_2_code (1 : Nat) (Option.none : Option Jvm.ClassFile.FieldType) ∈ kq_W := kq_of 281 (by decide +kernel) rfl
theorem kq_282 : Jvm.Cond.methodLink "GlossRows$Reader" (49 : Nat) ({ cls := "GlossRows$Word", name := "openPart", desc := "(I)V" } : Jvm.MethodName) ∈ kq_W := kq_of 282 (by decide +kernel) rfl
theorem kq_283 : Jvm.Cond.instanceMethod ({ cls := "GlossRows$Word", name := "openPart", desc := "(I)V" } : Jvm.MethodName) ∈ kq_W := kq_of 283 (by decide +kernel) rfl
theorem kq_284 : Jvm.Cond.selects "GlossRows$Word" ({ cls := "GlossRows$Word", name := "openPart", desc := "(I)V" } : Jvm.MethodName) ({ cls := "GlossRows$Word", name := "openPart", desc := "(I)V" } : Jvm.MethodName) ∈ kq_W := kq_of 284 (by decide +kernel) rfl
theorem kq_285 : Jvm.Cond.code ({ cls := "GlossRows$Word", name := "openPart", desc := "(I)V" } : Jvm.MethodName) prog_9_method_4_code (2 : Nat) (Option.none : Option Jvm.ClassFile.FieldType) ∈ kq_W := kq_of 285 (by decide +kernel) rfl
theorem kq_286 : Jvm.Cond.methodLink "GlossRows$Reader" (38 : Nat) ({ cls := "GlossRows$Reader", name := "takes", desc := "(I)Z" } : Jvm.MethodName) ∈ kq_W := kq_of 286 (by decide +kernel) rfl
theorem kq_288 : Jvm.Cond.instanceMethod ({ cls := "GlossRows$Reader", name := "takes", desc := "(I)Z" } : Jvm.MethodName) ∈ kq_W := kq_of 288 (by decide +kernel) rfl
theorem kq_289 : Jvm.Cond.code ({ cls := "GlossRows$Reader", name := "takes", desc := "(I)Z" } : Jvm.MethodName) prog_7_method_4_code (2 : Nat) (Option.some Jvm.ClassFile.FieldType.boolean) ∈ kq_W := kq_of 289 (by decide +kernel) rfl
theorem kq_290 : Jvm.Cond.methodLink "GlossRows$Reader" (60 : Nat) ({ cls := "GlossRows$Reader", name := "takesBlank", desc := "()Z" } : Jvm.MethodName) ∈ kq_W := kq_of 290 (by decide +kernel) rfl
theorem kq_292 : Jvm.Cond.instanceMethod ({ cls := "GlossRows$Reader", name := "takesBlank", desc := "()Z" } : Jvm.MethodName) ∈ kq_W := kq_of 292 (by decide +kernel) rfl
theorem kq_293 : Jvm.Cond.code ({ cls := "GlossRows$Reader", name := "takesBlank", desc := "()Z" } : Jvm.MethodName) prog_7_method_5_code (1 : Nat) (Option.some Jvm.ClassFile.FieldType.boolean) ∈ kq_W := kq_of 293 (by decide +kernel) rfl
theorem kq_294 : Jvm.Cond.methodLink "GlossRows$Reader" (42 : Nat) ({ cls := "GlossRows$Reader", name := "isWordWhole", desc := "()Z" } : Jvm.MethodName) ∈ kq_W := kq_of 294 (by decide +kernel) rfl
theorem kq_296 : Jvm.Cond.instanceMethod ({ cls := "GlossRows$Reader", name := "isWordWhole", desc := "()Z" } : Jvm.MethodName) ∈ kq_W := kq_of 296 (by decide +kernel) rfl
theorem kq_297 : Jvm.Cond.code ({ cls := "GlossRows$Reader", name := "isWordWhole", desc := "()Z" } : Jvm.MethodName) prog_7_method_11_code (1 : Nat) (Option.some Jvm.ClassFile.FieldType.boolean) ∈ kq_W := kq_of 297 (by decide +kernel) rfl
theorem kq_298 : Jvm.Cond.methodLink "GlossRows$Reader" (83 : Nat) ({ cls := "GlossRows$Reader", name := "hasPartLetters", desc := "()Z" } : Jvm.MethodName) ∈ kq_W := kq_of 298 (by decide +kernel) rfl
theorem kq_300 : Jvm.Cond.instanceMethod ({ cls := "GlossRows$Reader", name := "hasPartLetters", desc := "()Z" } : Jvm.MethodName) ∈ kq_W := kq_of 300 (by decide +kernel) rfl
theorem kq_301 : Jvm.Cond.code ({ cls := "GlossRows$Reader", name := "hasPartLetters", desc := "()Z" } : Jvm.MethodName) prog_7_method_12_code (1 : Nat) (Option.some Jvm.ClassFile.FieldType.boolean) ∈ kq_W := kq_of 301 (by decide +kernel) rfl
theorem kq_302 : Jvm.Cond.methodLink "GlossRows$Reader" (99 : Nat) ({ cls := "GlossRows$Letters", name := "length", desc := "(J)I" } : Jvm.MethodName) ∈ kq_W := kq_of 302 (by decide +kernel) rfl
theorem kq_303 : Jvm.Cond.static ({ cls := "GlossRows$Letters", name := "length", desc := "(J)I" } : Jvm.MethodName) ∈ kq_W := kq_of 303 (by decide +kernel) rfl
theorem kq_304 : Jvm.Cond.code ({ cls := "GlossRows$Letters", name := "length", desc := "(J)I" } : Jvm.MethodName) prog_4_method_2_code (2 : Nat) (Option.some Jvm.ClassFile.FieldType.int) ∈ kq_W := kq_of 304 (by decide +kernel) rfl
theorem kq_305 : Jvm.Cond.constantLong "GlossRows$Letters" (9 : Nat) (15 : Int64) ∈ kq_W := kq_of 305 (by decide +kernel) rfl
theorem kq_306 : Jvm.Cond.methodLink "GlossRows$Reader" (63 : Nat) ({ cls := "GlossRows$Reader", name := "takesColon", desc := "()Z" } : Jvm.MethodName) ∈ kq_W := kq_of 306 (by decide +kernel) rfl
theorem kq_308 : Jvm.Cond.instanceMethod ({ cls := "GlossRows$Reader", name := "takesColon", desc := "()Z" } : Jvm.MethodName) ∈ kq_W := kq_of 308 (by decide +kernel) rfl
theorem kq_309 : Jvm.Cond.code ({ cls := "GlossRows$Reader", name := "takesColon", desc := "()Z" } : Jvm.MethodName) prog_7_method_6_code (1 : Nat) (Option.some Jvm.ClassFile.FieldType.boolean) ∈ kq_W := kq_of 309 (by decide +kernel) rfl
theorem kq_310 : Jvm.Cond.methodLink "GlossRows$Reader" (66 : Nat) ({ cls := "GlossRows$Letters", name := "isMark", desc := "(I)Z" } : Jvm.MethodName) ∈ kq_W := kq_of 310 (by decide +kernel) rfl
theorem kq_311 : Jvm.Cond.static ({ cls := "GlossRows$Letters", name := "isMark", desc := "(I)Z" } : Jvm.MethodName) ∈ kq_W := kq_of 311 (by decide +kernel) rfl
theorem kq_312 : Jvm.Cond.code ({ cls := "GlossRows$Letters", name := "isMark", desc := "(I)Z" } : Jvm.MethodName) prog_4_method_8_code (1 : Nat) (Option.some Jvm.ClassFile.FieldType.boolean) ∈ kq_W := kq_of 312 (by decide +kernel) rfl
theorem kq_313 : Jvm.Cond.methodLink "GlossRows$Reader" (71 : Nat) ({ cls := "GlossRows$Reader", name := "takesMarkOfGlosses", desc := "(I)Z" } : Jvm.MethodName) ∈ kq_W := kq_of 313 (by decide +kernel) rfl
theorem kq_315 : Jvm.Cond.instanceMethod ({ cls := "GlossRows$Reader", name := "takesMarkOfGlosses", desc := "(I)Z" } : Jvm.MethodName) ∈ kq_W := kq_of 315 (by decide +kernel) rfl
theorem kq_316 : Jvm.Cond.code ({ cls := "GlossRows$Reader", name := "takesMarkOfGlosses", desc := "(I)Z" } : Jvm.MethodName) prog_7_method_8_code (2 : Nat) (Option.some Jvm.ClassFile.FieldType.boolean) ∈ kq_W := kq_of 316 (by decide +kernel) rfl
theorem kq_317 : Jvm.Cond.methodLink "GlossRows$Reader" (74 : Nat) ({ cls := "GlossRows$Reader", name := "takesMarkOfParts", desc := "(I)Z" } : Jvm.MethodName) ∈ kq_W := kq_of 317 (by decide +kernel) rfl
theorem kq_319 : Jvm.Cond.instanceMethod ({ cls := "GlossRows$Reader", name := "takesMarkOfParts", desc := "(I)Z" } : Jvm.MethodName) ∈ kq_W := kq_of 319 (by decide +kernel) rfl
theorem kq_320 : Jvm.Cond.code ({ cls := "GlossRows$Reader", name := "takesMarkOfParts", desc := "(I)Z" } : Jvm.MethodName) prog_7_method_7_code (2 : Nat) (Option.some Jvm.ClassFile.FieldType.boolean) ∈ kq_W := kq_of 320 (by decide +kernel) rfl
theorem kq_321 : Jvm.Cond.methodLink "GlossRows$Reader" (77 : Nat) ({ cls := "GlossRows$Reader", name := "takesGlossLetter", desc := "(I)Z" } : Jvm.MethodName) ∈ kq_W := kq_of 321 (by decide +kernel) rfl
theorem kq_323 : Jvm.Cond.instanceMethod ({ cls := "GlossRows$Reader", name := "takesGlossLetter", desc := "(I)Z" } : Jvm.MethodName) ∈ kq_W := kq_of 323 (by decide +kernel) rfl
theorem kq_324 : Jvm.Cond.code ({ cls := "GlossRows$Reader", name := "takesGlossLetter", desc := "(I)Z" } : Jvm.MethodName) prog_7_method_10_code (2 : Nat) (Option.some Jvm.ClassFile.FieldType.boolean) ∈ kq_W := kq_of 324 (by decide +kernel) rfl
theorem kq_325 : Jvm.Cond.methodLink "GlossRows$Reader" (106 : Nat) ({ cls := "GlossRows$Letters", name := "isGlossLetter", desc := "(I)Z" } : Jvm.MethodName) ∈ kq_W := kq_of 325 (by decide +kernel) rfl
theorem kq_326 : Jvm.Cond.static ({ cls := "GlossRows$Letters", name := "isGlossLetter", desc := "(I)Z" } : Jvm.MethodName) ∈ kq_W := kq_of 326 (by decide +kernel) rfl
theorem kq_327 : Jvm.Cond.code ({ cls := "GlossRows$Letters", name := "isGlossLetter", desc := "(I)Z" } : Jvm.MethodName) prog_4_method_7_code (1 : Nat) (Option.some Jvm.ClassFile.FieldType.boolean) ∈ kq_W := kq_of 327 (by decide +kernel) rfl
theorem kq_328 : Jvm.Cond.methodLink "GlossRows$Letters" (21 : Nat) ({ cls := "GlossRows$Letters", name := "isLetter", desc := "(I)Z" } : Jvm.MethodName) ∈ kq_W := kq_of 328 (by decide +kernel) rfl
theorem kq_329 : Jvm.Cond.static ({ cls := "GlossRows$Letters", name := "isLetter", desc := "(I)Z" } : Jvm.MethodName) ∈ kq_W := kq_of 329 (by decide +kernel) rfl
theorem kq_330 : Jvm.Cond.code ({ cls := "GlossRows$Letters", name := "isLetter", desc := "(I)Z" } : Jvm.MethodName) prog_4_method_6_code (1 : Nat) (Option.some Jvm.ClassFile.FieldType.boolean) ∈ kq_W := kq_of 330 (by decide +kernel) rfl
theorem kq_331 : Jvm.Cond.methodLink "GlossRows$Reader" (102 : Nat) ({ cls := "GlossRows$Letters", name := "with", desc := "(JI)J" } : Jvm.MethodName) ∈ kq_W := kq_of 331 (by decide +kernel) rfl
theorem kq_332 : Jvm.Cond.static ({ cls := "GlossRows$Letters", name := "with", desc := "(JI)J" } : Jvm.MethodName) ∈ kq_W := kq_of 332 (by decide +kernel) rfl
theorem kq_333 : Jvm.Cond.code ({ cls := "GlossRows$Letters", name := "with", desc := "(JI)J" } : Jvm.MethodName) prog_4_method_4_code (4 : Nat) (Option.some Jvm.ClassFile.FieldType.long) ∈ kq_W := kq_of 333 (by decide +kernel) rfl
theorem kq_334 : Jvm.Cond.methodLink "GlossRows$Letters" (11 : Nat) ({ cls := "GlossRows$Letters", name := "length", desc := "(J)I" } : Jvm.MethodName) ∈ kq_W := kq_of 334 (by decide +kernel) rfl
theorem kq_335 : Jvm.Cond.methodLink "GlossRows$Letters" (17 : Nat) ({ cls := "GlossRows$Letters", name := "placeOf", desc := "(I)I" } : Jvm.MethodName) ∈ kq_W := kq_of 335 (by decide +kernel) rfl
theorem kq_336 : Jvm.Cond.static ({ cls := "GlossRows$Letters", name := "placeOf", desc := "(I)I" } : Jvm.MethodName) ∈ kq_W := kq_of 336 (by decide +kernel) rfl
theorem kq_337 : Jvm.Cond.code ({ cls := "GlossRows$Letters", name := "placeOf", desc := "(I)I" } : Jvm.MethodName) prog_4_method_5_code (1 : Nat) (Option.some Jvm.ClassFile.FieldType.int) ∈ kq_W := kq_of 337 (by decide +kernel) rfl
theorem kq_338 : Jvm.Cond.methodLink "GlossRows$Reader" (80 : Nat) ({ cls := "GlossRows$Reader", name := "takesLetter", desc := "(I)Z" } : Jvm.MethodName) ∈ kq_W := kq_of 338 (by decide +kernel) rfl
theorem kq_340 : Jvm.Cond.instanceMethod ({ cls := "GlossRows$Reader", name := "takesLetter", desc := "(I)Z" } : Jvm.MethodName) ∈ kq_W := kq_of 340 (by decide +kernel) rfl
theorem kq_341 : Jvm.Cond.code ({ cls := "GlossRows$Reader", name := "takesLetter", desc := "(I)Z" } : Jvm.MethodName) prog_7_method_9_code (2 : Nat) (Option.some Jvm.ClassFile.FieldType.boolean) ∈ kq_W := kq_of 341 (by decide +kernel) rfl
theorem kq_342 : Jvm.Cond.methodLink "GlossRows$Reader" (92 : Nat) ({ cls := "GlossRows$Letters", name := "isLetter", desc := "(I)Z" } : Jvm.MethodName) ∈ kq_W := kq_of 342 (by decide +kernel) rfl
theorem kq_343 : Jvm.Cond.classLink "GlossRows" (66 : Nat) "java/lang/IllegalStateException" ∈ kq_W := kq_of 343 (by decide +kernel) rfl
theorem kq_344 : Jvm.Cond.instantiable "java/lang/IllegalStateException" (6 : Nat) ∈ kq_W := kq_of 344 (by decide +kernel) rfl
theorem kq_352 : Jvm.Cond.selects "java/lang/IllegalStateException" ({ cls := "java/lang/Throwable", name := "fillInStackTrace", desc := "(I)Ljava/lang/Throwable;" } : Jvm.MethodName) ({ cls := "java/lang/Throwable", name := "fillInStackTrace", desc := "(I)Ljava/lang/Throwable;" } : Jvm.MethodName) ∈ kq_W := kq_of 352 (by decide +kernel) rfl
theorem kq_353 : Jvm.Cond.selects "java/lang/IllegalStateException" ({ cls := "java/lang/Throwable", name := "fillInStackTrace", desc := "()Ljava/lang/Throwable;" } : Jvm.MethodName) ({ cls := "java/lang/Throwable", name := "fillInStackTrace", desc := "()Ljava/lang/Throwable;" } : Jvm.MethodName) ∈ kq_W := kq_of 353 (by decide +kernel) rfl
theorem kq_354 : Jvm.Cond.lays "java/lang/IllegalStateException" "java/lang/Throwable" "cause" "Ljava/lang/Throwable;" ∈ kq_W := kq_of 354 (by decide +kernel) rfl
theorem kq_355 : Jvm.Cond.lays "java/lang/Throwable" "java/lang/Throwable" "cause" "Ljava/lang/Throwable;" ∈ kq_W := kq_of 355 (by decide +kernel) rfl
theorem kq_356 : Jvm.Cond.lays "java/lang/IllegalStateException" "java/lang/Throwable" "stackTrace" "[Ljava/lang/StackTraceElement;" ∈ kq_W := kq_of 356 (by decide +kernel) rfl
theorem kq_357 : Jvm.Cond.lays "java/lang/Throwable" "java/lang/Throwable" "stackTrace" "[Ljava/lang/StackTraceElement;" ∈ kq_W := kq_of 357 (by decide +kernel) rfl
theorem kq_358 : Jvm.Cond.lays "java/lang/IllegalStateException" "java/lang/Throwable" "suppressedExceptions" "Ljava/util/List;" ∈ kq_W := kq_of 358 (by decide +kernel) rfl
theorem kq_359 : Jvm.Cond.lays "java/lang/Throwable" "java/lang/Throwable" "suppressedExceptions" "Ljava/util/List;" ∈ kq_W := kq_of 359 (by decide +kernel) rfl
theorem kq_360 : Jvm.Cond.lays "java/lang/IllegalStateException" "java/lang/Throwable" "detailMessage" "Ljava/lang/String;" ∈ kq_W := kq_of 360 (by decide +kernel) rfl
theorem kq_361 : Jvm.Cond.lays "java/lang/Throwable" "java/lang/Throwable" "detailMessage" "Ljava/lang/String;" ∈ kq_W := kq_of 361 (by decide +kernel) rfl
theorem kq_362 : Jvm.Cond.lays "java/lang/IllegalStateException" "java/lang/Throwable" "backtrace" "Ljava/lang/Object;" ∈ kq_W := kq_of 362 (by decide +kernel) rfl
theorem kq_363 : Jvm.Cond.lays "java/lang/Throwable" "java/lang/Throwable" "backtrace" "Ljava/lang/Object;" ∈ kq_W := kq_of 363 (by decide +kernel) rfl
theorem kq_364 : Jvm.Cond.fieldLink "java/lang/Throwable" (198 : Nat) "java/lang/Throwable" "backtrace" "Ljava/lang/Object;" ∈ kq_W := kq_of 364 (by decide +kernel) rfl
theorem kq_366 : Jvm.Cond.instanceMethod ({ cls := "java/lang/Throwable", name := "<init>", desc := "()V" } : Jvm.MethodName) ∈ kq_W := kq_of 366 (by decide +kernel) rfl
theorem kq_367 : Jvm.Cond.code ({ cls := "java/lang/Throwable", name := "<init>", desc := "()V" } : Jvm.MethodName) prog_19_method_1_code (1 : Nat) (Option.none : Option Jvm.ClassFile.FieldType) ∈ kq_W := kq_of 367 (by decide +kernel) rfl
theorem kq_368 : Jvm.Cond.methodLink "java/lang/Throwable" (1 : Nat) ({ cls := "java/lang/Object", name := "<init>", desc := "()V" } : Jvm.MethodName) ∈ kq_W := kq_of 368 (by decide +kernel) rfl
theorem kq_369 : Jvm.Cond.fieldLink "java/lang/Throwable" (13 : Nat) "java/lang/Throwable" "UNASSIGNED_STACK" "[Ljava/lang/StackTraceElement;" ∈ kq_W := kq_of 369 (by decide +kernel) rfl
theorem kq_371 : Jvm.Cond.fieldLink "java/lang/Throwable" (20 : Nat) "java/lang/Throwable" "SUPPRESSED_SENTINEL" "Ljava/util/List;" ∈ kq_W := kq_of 371 (by decide +kernel) rfl
theorem kq_373 : Jvm.Cond.methodLink "java/lang/Throwable" (27 : Nat) ({ cls := "java/lang/Throwable", name := "fillInStackTrace", desc := "()Ljava/lang/Throwable;" } : Jvm.MethodName) ∈ kq_W := kq_of 373 (by decide +kernel) rfl
theorem kq_374 : Jvm.Cond.instanceMethod ({ cls := "java/lang/Throwable", name := "fillInStackTrace", desc := "()Ljava/lang/Throwable;" } : Jvm.MethodName) ∈ kq_W := kq_of 374 (by decide +kernel) rfl
theorem kq_376 : Jvm.Cond.selects "java/lang/IllegalArgumentException" ({ cls := "java/lang/Throwable", name := "fillInStackTrace", desc := "()Ljava/lang/Throwable;" } : Jvm.MethodName) ({ cls := "java/lang/Throwable", name := "fillInStackTrace", desc := "()Ljava/lang/Throwable;" } : Jvm.MethodName) ∈ kq_W := kq_of 376 (by decide +kernel) rfl
theorem kq_377 : Jvm.Cond.selects "java/lang/IndexOutOfBoundsException" ({ cls := "java/lang/Throwable", name := "fillInStackTrace", desc := "()Ljava/lang/Throwable;" } : Jvm.MethodName) ({ cls := "java/lang/Throwable", name := "fillInStackTrace", desc := "()Ljava/lang/Throwable;" } : Jvm.MethodName) ∈ kq_W := kq_of 377 (by decide +kernel) rfl
theorem kq_379 : Jvm.Cond.methodLink "java/lang/Throwable" (202 : Nat) ({ cls := "java/lang/Throwable", name := "fillInStackTrace", desc := "(I)Ljava/lang/Throwable;" } : Jvm.MethodName) ∈ kq_W := kq_of 379 (by decide +kernel) rfl
theorem kq_381 : Jvm.Cond.instanceMethod ({ cls := "java/lang/Throwable", name := "fillInStackTrace", desc := "(I)Ljava/lang/Throwable;" } : Jvm.MethodName) ∈ kq_W := kq_of 381 (by decide +kernel) rfl
theorem kq_382 : Jvm.Cond.instantiable "java/lang/Throwable" (6 : Nat) ∈ kq_W := kq_of 382 (by decide +kernel) rfl
theorem kq_385 : Jvm.Cond.methodLink "GlossRows" (70 : Nat) ({ cls := "java/lang/IllegalStateException", name := "<init>", desc := "(Ljava/lang/String;)V" } : Jvm.MethodName) ∈ kq_W := kq_of 385 (by decide +kernel) rfl
theorem kq_386 : Jvm.Cond.instanceMethod ({ cls := "java/lang/IllegalStateException", name := "<init>", desc := "(Ljava/lang/String;)V" } : Jvm.MethodName) ∈ kq_W := kq_of 386 (by decide +kernel) rfl
theorem kq_387 : Jvm.Cond.code ({ cls := "java/lang/IllegalStateException", name := "<init>", desc := "(Ljava/lang/String;)V" } : Jvm.MethodName) prog_14_method_2_code (2 : Nat) (Option.none : Option Jvm.ClassFile.FieldType) ∈ kq_W := kq_of 387 (by decide +kernel) rfl
theorem kq_388 : Jvm.Cond.methodLink "java/lang/IllegalStateException" (7 : Nat) ({ cls := "java/lang/RuntimeException", name := "<init>", desc := "(Ljava/lang/String;)V" } : Jvm.MethodName) ∈ kq_W := kq_of 388 (by decide +kernel) rfl
theorem kq_389 : Jvm.Cond.instanceMethod ({ cls := "java/lang/RuntimeException", name := "<init>", desc := "(Ljava/lang/String;)V" } : Jvm.MethodName) ∈ kq_W := kq_of 389 (by decide +kernel) rfl
theorem kq_390 : Jvm.Cond.code ({ cls := "java/lang/RuntimeException", name := "<init>", desc := "(Ljava/lang/String;)V" } : Jvm.MethodName) prog_17_method_2_code (2 : Nat) (Option.none : Option Jvm.ClassFile.FieldType) ∈ kq_W := kq_of 390 (by decide +kernel) rfl
theorem kq_391 : Jvm.Cond.methodLink "java/lang/RuntimeException" (7 : Nat) ({ cls := "java/lang/Exception", name := "<init>", desc := "(Ljava/lang/String;)V" } : Jvm.MethodName) ∈ kq_W := kq_of 391 (by decide +kernel) rfl
theorem kq_392 : Jvm.Cond.instanceMethod ({ cls := "java/lang/Exception", name := "<init>", desc := "(Ljava/lang/String;)V" } : Jvm.MethodName) ∈ kq_W := kq_of 392 (by decide +kernel) rfl
theorem kq_393 : Jvm.Cond.code ({ cls := "java/lang/Exception", name := "<init>", desc := "(Ljava/lang/String;)V" } : Jvm.MethodName) prog_12_method_2_code (2 : Nat) (Option.none : Option Jvm.ClassFile.FieldType) ∈ kq_W := kq_of 393 (by decide +kernel) rfl
theorem kq_394 : Jvm.Cond.methodLink "java/lang/Exception" (7 : Nat) ({ cls := "java/lang/Throwable", name := "<init>", desc := "(Ljava/lang/String;)V" } : Jvm.MethodName) ∈ kq_W := kq_of 394 (by decide +kernel) rfl
theorem kq_395 : Jvm.Cond.instanceMethod ({ cls := "java/lang/Throwable", name := "<init>", desc := "(Ljava/lang/String;)V" } : Jvm.MethodName) ∈ kq_W := kq_of 395 (by decide +kernel) rfl
theorem kq_396 : Jvm.Cond.code ({ cls := "java/lang/Throwable", name := "<init>", desc := "(Ljava/lang/String;)V" } : Jvm.MethodName) prog_19_method_2_code (2 : Nat) (Option.none : Option Jvm.ClassFile.FieldType) ∈ kq_W := kq_of 396 (by decide +kernel) rfl
theorem kq_397 : Jvm.Cond.fieldLink "java/lang/Throwable" (198 : Nat) "java/lang/Throwable" "backtrace" "Ljava/lang/Object;" ∈ kq_W := kq_of 397 (by decide +kernel) rfl
theorem kq_398 : Jvm.Cond.fieldLink "java/lang/Throwable" (31 : Nat) "java/lang/Throwable" "detailMessage" "Ljava/lang/String;" ∈ kq_W := kq_of 398 (by decide +kernel) rfl
theorem kq_399 : Jvm.Cond.fieldLink "java/lang/Throwable" (7 : Nat) "java/lang/Throwable" "cause" "Ljava/lang/Throwable;" ∈ kq_W := kq_of 399 (by decide +kernel) rfl
theorem kq_400 : Jvm.Cond.fieldLink "java/lang/Throwable" (17 : Nat) "java/lang/Throwable" "stackTrace" "[Ljava/lang/StackTraceElement;" ∈ kq_W := kq_of 400 (by decide +kernel) rfl
theorem kq_401 : Jvm.Cond.fieldLink "java/lang/Throwable" (24 : Nat) "java/lang/Throwable" "suppressedExceptions" "Ljava/util/List;" ∈ kq_W := kq_of 401 (by decide +kernel) rfl
theorem kq_406 : Jvm.Cond.lays "java/lang/IllegalStateException" "java/lang/Throwable" "depth" "I" ∈ kq_W := kq_of 406 (by decide +kernel) rfl
theorem kq_411 : Jvm.Cond.methodLink "GlossRows" (81 : Nat) ({ cls := "GlossRows$Page", name := "reset", desc := "()V" } : Jvm.MethodName) ∈ kq_W := kq_of 411 (by decide +kernel) rfl
theorem kq_412 : Jvm.Cond.methodLink "GlossRows" (84 : Nat) ({ cls := "GlossRows$Page", name := "addWords", desc := "(LGlossRows$Reader;I)V" } : Jvm.MethodName) ∈ kq_W := kq_of 412 (by decide +kernel) rfl
theorem kq_413 : Jvm.Cond.instanceMethod ({ cls := "GlossRows$Page", name := "addWords", desc := "(LGlossRows$Reader;I)V" } : Jvm.MethodName) ∈ kq_W := kq_of 413 (by decide +kernel) rfl
theorem kq_414 : Jvm.Cond.selects "GlossRows$Page" ({ cls := "GlossRows$Page", name := "addWords", desc := "(LGlossRows$Reader;I)V" } : Jvm.MethodName) ({ cls := "GlossRows$Page", name := "addWords", desc := "(LGlossRows$Reader;I)V" } : Jvm.MethodName) ∈ kq_W := kq_of 414 (by decide +kernel) rfl
theorem kq_415 : Jvm.Cond.code ({ cls := "GlossRows$Page", name := "addWords", desc := "(LGlossRows$Reader;I)V" } : Jvm.MethodName) prog_6_method_6_code (5 : Nat) (Option.none : Option Jvm.ClassFile.FieldType) ∈ kq_W := kq_of 415 (by decide +kernel) rfl
theorem kq_416 : Jvm.Cond.methodLink "GlossRows$Page" (44 : Nat) ({ cls := "GlossRows$Word", name := "copyFrom", desc := "(LGlossRows$Word;)V" } : Jvm.MethodName) ∈ kq_W := kq_of 416 (by decide +kernel) rfl
theorem kq_417 : Jvm.Cond.instanceMethod ({ cls := "GlossRows$Word", name := "copyFrom", desc := "(LGlossRows$Word;)V" } : Jvm.MethodName) ∈ kq_W := kq_of 417 (by decide +kernel) rfl
theorem kq_418 : Jvm.Cond.selects "GlossRows$Word" ({ cls := "GlossRows$Word", name := "copyFrom", desc := "(LGlossRows$Word;)V" } : Jvm.MethodName) ({ cls := "GlossRows$Word", name := "copyFrom", desc := "(LGlossRows$Word;)V" } : Jvm.MethodName) ∈ kq_W := kq_of 418 (by decide +kernel) rfl
theorem kq_419 : Jvm.Cond.code ({ cls := "GlossRows$Word", name := "copyFrom", desc := "(LGlossRows$Word;)V" } : Jvm.MethodName) prog_9_method_3_code (3 : Nat) (Option.none : Option Jvm.ClassFile.FieldType) ∈ kq_W := kq_of 419 (by decide +kernel) rfl
theorem kq_420 : Jvm.Cond.methodLink "GlossRows" (88 : Nat) ({ cls := "GlossRows$History", name := "clear", desc := "()V" } : Jvm.MethodName) ∈ kq_W := kq_of 420 (by decide +kernel) rfl
theorem kq_421 : Jvm.Cond.instanceMethod ({ cls := "GlossRows$History", name := "clear", desc := "()V" } : Jvm.MethodName) ∈ kq_W := kq_of 421 (by decide +kernel) rfl
theorem kq_422 : Jvm.Cond.selects "GlossRows$History" ({ cls := "GlossRows$History", name := "clear", desc := "()V" } : Jvm.MethodName) ({ cls := "GlossRows$History", name := "clear", desc := "()V" } : Jvm.MethodName) ∈ kq_W := kq_of 422 (by decide +kernel) rfl
theorem kq_423 : Jvm.Cond.code ({ cls := "GlossRows$History", name := "clear", desc := "()V" } : Jvm.MethodName) prog_2_method_2_code (1 : Nat) (Option.none : Option Jvm.ClassFile.FieldType) ∈ kq_W := kq_of 423 (by decide +kernel) rfl
theorem kq_424 : Jvm.Cond.constantLong "GlossRowsLaw" (21 : Nat) (-9000000000000000003 : Int64) ∈ kq_W := kq_of 424 (by decide +kernel) rfl
theorem kq_425 : Jvm.Cond.methodLink "GlossRowsLaw" (194 : Nat) ({ cls := "GlossRowsLaw", name := "save", desc := "(LGlossRows;I)J" } : Jvm.MethodName) ∈ kq_W := kq_of 425 (by decide +kernel) rfl
theorem kq_426 : Jvm.Cond.static ({ cls := "GlossRowsLaw", name := "save", desc := "(LGlossRows;I)J" } : Jvm.MethodName) ∈ kq_W := kq_of 426 (by decide +kernel) rfl
theorem kq_428 : Jvm.Cond.classLink "GlossRowsLaw" (34 : Nat) "java/lang/IndexOutOfBoundsException" ∈ kq_W := kq_of 428 (by decide +kernel) rfl
theorem kq_429 : Jvm.Cond.methodLink "GlossRowsLaw" (103 : Nat) ({ cls := "GlossRows", name := "save", desc := "(I)I" } : Jvm.MethodName) ∈ kq_W := kq_of 429 (by decide +kernel) rfl
theorem kq_430 : Jvm.Cond.instanceMethod ({ cls := "GlossRows", name := "save", desc := "(I)I" } : Jvm.MethodName) ∈ kq_W := kq_of 430 (by decide +kernel) rfl
theorem kq_431 : Jvm.Cond.selects "GlossRows" ({ cls := "GlossRows", name := "save", desc := "(I)I" } : Jvm.MethodName) ({ cls := "GlossRows", name := "save", desc := "(I)I" } : Jvm.MethodName) ∈ kq_W := kq_of 431 (by decide +kernel) rfl
theorem kq_432 : Jvm.Cond.code ({ cls := "GlossRows", name := "save", desc := "(I)I" } : Jvm.MethodName) prog_1_method_31_code (2 : Nat) (Option.some Jvm.ClassFile.FieldType.int) ∈ kq_W := kq_of 432 (by decide +kernel) rfl
theorem kq_433 : Jvm.Cond.methodLink "GlossRows" (341 : Nat) ({ cls := "GlossRows", name := "requireSlot", desc := "(I)V" } : Jvm.MethodName) ∈ kq_W := kq_of 433 (by decide +kernel) rfl
theorem kq_435 : Jvm.Cond.instanceMethod ({ cls := "GlossRows", name := "requireSlot", desc := "(I)V" } : Jvm.MethodName) ∈ kq_W := kq_of 435 (by decide +kernel) rfl
theorem kq_436 : Jvm.Cond.code ({ cls := "GlossRows", name := "requireSlot", desc := "(I)V" } : Jvm.MethodName) prog_1_method_37_code (2 : Nat) (Option.none : Option Jvm.ClassFile.FieldType) ∈ kq_W := kq_of 436 (by decide +kernel) rfl
theorem kq_437 : Jvm.Cond.classLink "GlossRows" (228 : Nat) "java/lang/IndexOutOfBoundsException" ∈ kq_W := kq_of 437 (by decide +kernel) rfl
theorem kq_438 : Jvm.Cond.instantiable "java/lang/IndexOutOfBoundsException" (6 : Nat) ∈ kq_W := kq_of 438 (by decide +kernel) rfl
theorem kq_440 : Jvm.Cond.selects "java/lang/IndexOutOfBoundsException" ({ cls := "java/lang/Throwable", name := "fillInStackTrace", desc := "(I)Ljava/lang/Throwable;" } : Jvm.MethodName) ({ cls := "java/lang/Throwable", name := "fillInStackTrace", desc := "(I)Ljava/lang/Throwable;" } : Jvm.MethodName) ∈ kq_W := kq_of 440 (by decide +kernel) rfl
theorem kq_441 : Jvm.Cond.lays "java/lang/IndexOutOfBoundsException" "java/lang/Throwable" "cause" "Ljava/lang/Throwable;" ∈ kq_W := kq_of 441 (by decide +kernel) rfl
theorem kq_442 : Jvm.Cond.lays "java/lang/IndexOutOfBoundsException" "java/lang/Throwable" "stackTrace" "[Ljava/lang/StackTraceElement;" ∈ kq_W := kq_of 442 (by decide +kernel) rfl
theorem kq_443 : Jvm.Cond.lays "java/lang/IndexOutOfBoundsException" "java/lang/Throwable" "suppressedExceptions" "Ljava/util/List;" ∈ kq_W := kq_of 443 (by decide +kernel) rfl
theorem kq_444 : Jvm.Cond.lays "java/lang/IndexOutOfBoundsException" "java/lang/Throwable" "detailMessage" "Ljava/lang/String;" ∈ kq_W := kq_of 444 (by decide +kernel) rfl
theorem kq_445 : Jvm.Cond.lays "java/lang/IndexOutOfBoundsException" "java/lang/Throwable" "backtrace" "Ljava/lang/Object;" ∈ kq_W := kq_of 445 (by decide +kernel) rfl
theorem kq_447 : Jvm.Cond.methodLink "GlossRows" (232 : Nat) ({ cls := "java/lang/IndexOutOfBoundsException", name := "<init>", desc := "(Ljava/lang/String;)V" } : Jvm.MethodName) ∈ kq_W := kq_of 447 (by decide +kernel) rfl
theorem kq_448 : Jvm.Cond.instanceMethod ({ cls := "java/lang/IndexOutOfBoundsException", name := "<init>", desc := "(Ljava/lang/String;)V" } : Jvm.MethodName) ∈ kq_W := kq_of 448 (by decide +kernel) rfl
theorem kq_449 : Jvm.Cond.code ({ cls := "java/lang/IndexOutOfBoundsException", name := "<init>", desc := "(Ljava/lang/String;)V" } : Jvm.MethodName) prog_15_method_2_code (2 : Nat) (Option.none : Option Jvm.ClassFile.FieldType) ∈ kq_W := kq_of 449 (by decide +kernel) rfl
theorem kq_450 : Jvm.Cond.methodLink "java/lang/IndexOutOfBoundsException" (7 : Nat) ({ cls := "java/lang/RuntimeException", name := "<init>", desc := "(Ljava/lang/String;)V" } : Jvm.MethodName) ∈ kq_W := kq_of 450 (by decide +kernel) rfl
theorem kq_451 : Jvm.Cond.lays "java/lang/IndexOutOfBoundsException" "java/lang/Throwable" "depth" "I" ∈ kq_W := kq_of 451 (by decide +kernel) rfl
theorem kq_453 : Jvm.Cond.methodLink "GlossRows" (323 : Nat) ({ cls := "GlossRows$Page", name := "copyFrom", desc := "(LGlossRows$Page;)V" } : Jvm.MethodName) ∈ kq_W := kq_of 453 (by decide +kernel) rfl
theorem kq_454 : Jvm.Cond.instanceMethod ({ cls := "GlossRows$Page", name := "copyFrom", desc := "(LGlossRows$Page;)V" } : Jvm.MethodName) ∈ kq_W := kq_of 454 (by decide +kernel) rfl
theorem kq_455 : Jvm.Cond.selects "GlossRows$Page" ({ cls := "GlossRows$Page", name := "copyFrom", desc := "(LGlossRows$Page;)V" } : Jvm.MethodName) ({ cls := "GlossRows$Page", name := "copyFrom", desc := "(LGlossRows$Page;)V" } : Jvm.MethodName) ∈ kq_W := kq_of 455 (by decide +kernel) rfl
theorem kq_456 : Jvm.Cond.code ({ cls := "GlossRows$Page", name := "copyFrom", desc := "(LGlossRows$Page;)V" } : Jvm.MethodName) prog_6_method_3_code (3 : Nat) (Option.none : Option Jvm.ClassFile.FieldType) ∈ kq_W := kq_of 456 (by decide +kernel) rfl
theorem kq_457 : Jvm.Cond.methodLink "GlossRows$Page" (48 : Nat) ({ cls := "GlossRows$Lexicon", name := "copyFrom", desc := "(LGlossRows$Lexicon;)V" } : Jvm.MethodName) ∈ kq_W := kq_of 457 (by decide +kernel) rfl
theorem kq_458 : Jvm.Cond.instanceMethod ({ cls := "GlossRows$Lexicon", name := "copyFrom", desc := "(LGlossRows$Lexicon;)V" } : Jvm.MethodName) ∈ kq_W := kq_of 458 (by decide +kernel) rfl
theorem kq_459 : Jvm.Cond.selects "GlossRows$Lexicon" ({ cls := "GlossRows$Lexicon", name := "copyFrom", desc := "(LGlossRows$Lexicon;)V" } : Jvm.MethodName) ({ cls := "GlossRows$Lexicon", name := "copyFrom", desc := "(LGlossRows$Lexicon;)V" } : Jvm.MethodName) ∈ kq_W := kq_of 459 (by decide +kernel) rfl
theorem kq_460 : Jvm.Cond.code ({ cls := "GlossRows$Lexicon", name := "copyFrom", desc := "(LGlossRows$Lexicon;)V" } : Jvm.MethodName) prog_5_method_2_code (3 : Nat) (Option.none : Option Jvm.ClassFile.FieldType) ∈ kq_W := kq_of 460 (by decide +kernel) rfl
theorem kq_461 : Jvm.Cond.constantLong "GlossRowsLaw" (36 : Nat) (-9000000000000000001 : Int64) ∈ kq_W := kq_of 461 (by decide +kernel) rfl
theorem kq_462 : Jvm.Cond.methodLink "GlossRowsLaw" (196 : Nat) ({ cls := "GlossRowsLaw", name := "restore", desc := "(LGlossRows;I)J" } : Jvm.MethodName) ∈ kq_W := kq_of 462 (by decide +kernel) rfl
theorem kq_463 : Jvm.Cond.static ({ cls := "GlossRowsLaw", name := "restore", desc := "(LGlossRows;I)J" } : Jvm.MethodName) ∈ kq_W := kq_of 463 (by decide +kernel) rfl
theorem kq_465 : Jvm.Cond.methodLink "GlossRowsLaw" (106 : Nat) ({ cls := "GlossRows", name := "restore", desc := "(I)I" } : Jvm.MethodName) ∈ kq_W := kq_of 465 (by decide +kernel) rfl
theorem kq_466 : Jvm.Cond.instanceMethod ({ cls := "GlossRows", name := "restore", desc := "(I)I" } : Jvm.MethodName) ∈ kq_W := kq_of 466 (by decide +kernel) rfl
theorem kq_467 : Jvm.Cond.selects "GlossRows" ({ cls := "GlossRows", name := "restore", desc := "(I)I" } : Jvm.MethodName) ({ cls := "GlossRows", name := "restore", desc := "(I)I" } : Jvm.MethodName) ∈ kq_W := kq_of 467 (by decide +kernel) rfl
theorem kq_468 : Jvm.Cond.code ({ cls := "GlossRows", name := "restore", desc := "(I)I" } : Jvm.MethodName) prog_1_method_32_code (2 : Nat) (Option.some Jvm.ClassFile.FieldType.int) ∈ kq_W := kq_of 468 (by decide +kernel) rfl
theorem kq_470 : Jvm.Cond.methodLink "GlossRowsLaw" (235 : Nat) ({ cls := "GlossRowsLaw", name := "alike", desc := "(LGlossRows;LGlossRows;I)Z" } : Jvm.MethodName) ∈ kq_W := kq_of 470 (by decide +kernel) rfl
theorem kq_471 : Jvm.Cond.static ({ cls := "GlossRowsLaw", name := "alike", desc := "(LGlossRows;LGlossRows;I)Z" } : Jvm.MethodName) ∈ kq_W := kq_of 471 (by decide +kernel) rfl
theorem kq_472 : Jvm.Cond.code ({ cls := "GlossRowsLaw", name := "alike", desc := "(LGlossRows;LGlossRows;I)Z" } : Jvm.MethodName) method_32_code (7 : Nat) (Option.some Jvm.ClassFile.FieldType.boolean) ∈ kq_W := kq_of 472 (by decide +kernel) rfl
theorem kq_473 : Jvm.Cond.methodLink "GlossRowsLaw" (142 : Nat) ({ cls := "GlossRowsLaw", name := "now", desc := "(LGlossRows;)J" } : Jvm.MethodName) ∈ kq_W := kq_of 473 (by decide +kernel) rfl
theorem kq_474 : Jvm.Cond.static ({ cls := "GlossRowsLaw", name := "now", desc := "(LGlossRows;)J" } : Jvm.MethodName) ∈ kq_W := kq_of 474 (by decide +kernel) rfl
theorem kq_475 : Jvm.Cond.code ({ cls := "GlossRowsLaw", name := "now", desc := "(LGlossRows;)J" } : Jvm.MethodName) method_31_code (6 : Nat) (Option.some Jvm.ClassFile.FieldType.long) ∈ kq_W := kq_of 475 (by decide +kernel) rfl
theorem kq_476 : Jvm.Cond.constantLong "GlossRowsLaw" (114 : Nat) (109 : Int64) ∈ kq_W := kq_of 476 (by decide +kernel) rfl
theorem kq_477 : Jvm.Cond.constantLong "GlossRowsLaw" (116 : Nat) (1009 : Int64) ∈ kq_W := kq_of 477 (by decide +kernel) rfl
theorem kq_478 : Jvm.Cond.methodLink "GlossRowsLaw" (109 : Nat) ({ cls := "GlossRowsLaw", name := "about", desc := "(LGlossRows;I)J" } : Jvm.MethodName) ∈ kq_W := kq_of 478 (by decide +kernel) rfl
theorem kq_479 : Jvm.Cond.static ({ cls := "GlossRowsLaw", name := "about", desc := "(LGlossRows;I)J" } : Jvm.MethodName) ∈ kq_W := kq_of 479 (by decide +kernel) rfl
theorem kq_481 : Jvm.Cond.classLink "GlossRowsLaw" (15 : Nat) "java/lang/IllegalArgumentException" ∈ kq_W := kq_of 481 (by decide +kernel) rfl
theorem kq_482 : Jvm.Cond.methodLink "GlossRowsLaw" (27 : Nat) ({ cls := "GlossRows", name := "about", desc := "(I)I" } : Jvm.MethodName) ∈ kq_W := kq_of 482 (by decide +kernel) rfl
theorem kq_483 : Jvm.Cond.instanceMethod ({ cls := "GlossRows", name := "about", desc := "(I)I" } : Jvm.MethodName) ∈ kq_W := kq_of 483 (by decide +kernel) rfl
theorem kq_484 : Jvm.Cond.selects "GlossRows" ({ cls := "GlossRows", name := "about", desc := "(I)I" } : Jvm.MethodName) ({ cls := "GlossRows", name := "about", desc := "(I)I" } : Jvm.MethodName) ∈ kq_W := kq_of 484 (by decide +kernel) rfl
theorem kq_485 : Jvm.Cond.code ({ cls := "GlossRows", name := "about", desc := "(I)I" } : Jvm.MethodName) prog_1_method_6_code (2 : Nat) (Option.some Jvm.ClassFile.FieldType.int) ∈ kq_W := kq_of 485 (by decide +kernel) rfl
theorem kq_486 : Jvm.Cond.methodLink "GlossRows" (94 : Nat) ({ cls := "GlossRows$Page", name := "countParts", desc := "()I" } : Jvm.MethodName) ∈ kq_W := kq_of 486 (by decide +kernel) rfl
theorem kq_487 : Jvm.Cond.instanceMethod ({ cls := "GlossRows$Page", name := "countParts", desc := "()I" } : Jvm.MethodName) ∈ kq_W := kq_of 487 (by decide +kernel) rfl
theorem kq_488 : Jvm.Cond.selects "GlossRows$Page" ({ cls := "GlossRows$Page", name := "countParts", desc := "()I" } : Jvm.MethodName) ({ cls := "GlossRows$Page", name := "countParts", desc := "()I" } : Jvm.MethodName) ∈ kq_W := kq_of 488 (by decide +kernel) rfl
theorem kq_489 : Jvm.Cond.code ({ cls := "GlossRows$Page", name := "countParts", desc := "()I" } : Jvm.MethodName) prog_6_method_13_code (3 : Nat) (Option.some Jvm.ClassFile.FieldType.int) ∈ kq_W := kq_of 489 (by decide +kernel) rfl
theorem kq_490 : Jvm.Cond.methodLink "GlossRows" (98 : Nat) ({ cls := "GlossRows$Page", name := "countGaps", desc := "()I" } : Jvm.MethodName) ∈ kq_W := kq_of 490 (by decide +kernel) rfl
theorem kq_491 : Jvm.Cond.instanceMethod ({ cls := "GlossRows$Page", name := "countGaps", desc := "()I" } : Jvm.MethodName) ∈ kq_W := kq_of 491 (by decide +kernel) rfl
theorem kq_492 : Jvm.Cond.selects "GlossRows$Page" ({ cls := "GlossRows$Page", name := "countGaps", desc := "()I" } : Jvm.MethodName) ({ cls := "GlossRows$Page", name := "countGaps", desc := "()I" } : Jvm.MethodName) ∈ kq_W := kq_of 492 (by decide +kernel) rfl
theorem kq_493 : Jvm.Cond.code ({ cls := "GlossRows$Page", name := "countGaps", desc := "()I" } : Jvm.MethodName) prog_6_method_14_code (3 : Nat) (Option.some Jvm.ClassFile.FieldType.int) ∈ kq_W := kq_of 493 (by decide +kernel) rfl
theorem kq_494 : Jvm.Cond.methodLink "GlossRows$Page" (87 : Nat) ({ cls := "GlossRows$Word", name := "countGaps", desc := "()I" } : Jvm.MethodName) ∈ kq_W := kq_of 494 (by decide +kernel) rfl
theorem kq_495 : Jvm.Cond.instanceMethod ({ cls := "GlossRows$Word", name := "countGaps", desc := "()I" } : Jvm.MethodName) ∈ kq_W := kq_of 495 (by decide +kernel) rfl
theorem kq_496 : Jvm.Cond.selects "GlossRows$Word" ({ cls := "GlossRows$Word", name := "countGaps", desc := "()I" } : Jvm.MethodName) ({ cls := "GlossRows$Word", name := "countGaps", desc := "()I" } : Jvm.MethodName) ∈ kq_W := kq_of 496 (by decide +kernel) rfl
theorem kq_497 : Jvm.Cond.code ({ cls := "GlossRows$Word", name := "countGaps", desc := "()I" } : Jvm.MethodName) prog_9_method_8_code (3 : Nat) (Option.some Jvm.ClassFile.FieldType.int) ∈ kq_W := kq_of 497 (by decide +kernel) rfl
theorem kq_498 : Jvm.Cond.methodLink "GlossRows" (101 : Nat) ({ cls := "GlossRows$Page", name := "countSentences", desc := "()I" } : Jvm.MethodName) ∈ kq_W := kq_of 498 (by decide +kernel) rfl
theorem kq_499 : Jvm.Cond.instanceMethod ({ cls := "GlossRows$Page", name := "countSentences", desc := "()I" } : Jvm.MethodName) ∈ kq_W := kq_of 499 (by decide +kernel) rfl
theorem kq_500 : Jvm.Cond.selects "GlossRows$Page" ({ cls := "GlossRows$Page", name := "countSentences", desc := "()I" } : Jvm.MethodName) ({ cls := "GlossRows$Page", name := "countSentences", desc := "()I" } : Jvm.MethodName) ∈ kq_W := kq_of 500 (by decide +kernel) rfl
theorem kq_501 : Jvm.Cond.code ({ cls := "GlossRows$Page", name := "countSentences", desc := "()I" } : Jvm.MethodName) prog_6_method_15_code (3 : Nat) (Option.some Jvm.ClassFile.FieldType.int) ∈ kq_W := kq_of 501 (by decide +kernel) rfl
theorem kq_502 : Jvm.Cond.methodLink "GlossRows" (104 : Nat) ({ cls := "GlossRows", name := "arranged", desc := "(LGlossRows$Page;)LGlossRows$Layout;" } : Jvm.MethodName) ∈ kq_W := kq_of 502 (by decide +kernel) rfl
theorem kq_504 : Jvm.Cond.instanceMethod ({ cls := "GlossRows", name := "arranged", desc := "(LGlossRows$Page;)LGlossRows$Layout;" } : Jvm.MethodName) ∈ kq_W := kq_of 504 (by decide +kernel) rfl
theorem kq_505 : Jvm.Cond.code ({ cls := "GlossRows", name := "arranged", desc := "(LGlossRows$Page;)LGlossRows$Layout;" } : Jvm.MethodName) prog_1_method_39_code (2 : Nat) (Option.some (Jvm.ClassFile.FieldType.object "GlossRows$Layout")) ∈ kq_W := kq_of 505 (by decide +kernel) rfl
theorem kq_506 : Jvm.Cond.methodLink "GlossRows" (303 : Nat) ({ cls := "GlossRows$Layout", name := "measure", desc := "(LGlossRows$Page;I)V" } : Jvm.MethodName) ∈ kq_W := kq_of 506 (by decide +kernel) rfl
theorem kq_507 : Jvm.Cond.instanceMethod ({ cls := "GlossRows$Layout", name := "measure", desc := "(LGlossRows$Page;I)V" } : Jvm.MethodName) ∈ kq_W := kq_of 507 (by decide +kernel) rfl
theorem kq_508 : Jvm.Cond.selects "GlossRows$Layout" ({ cls := "GlossRows$Layout", name := "measure", desc := "(LGlossRows$Page;I)V" } : Jvm.MethodName) ({ cls := "GlossRows$Layout", name := "measure", desc := "(LGlossRows$Page;I)V" } : Jvm.MethodName) ∈ kq_W := kq_of 508 (by decide +kernel) rfl
theorem kq_509 : Jvm.Cond.code ({ cls := "GlossRows$Layout", name := "measure", desc := "(LGlossRows$Page;I)V" } : Jvm.MethodName) prog_3_method_2_code (4 : Nat) (Option.none : Option Jvm.ClassFile.FieldType) ∈ kq_W := kq_of 509 (by decide +kernel) rfl
theorem kq_510 : Jvm.Cond.methodLink "GlossRows$Layout" (37 : Nat) ({ cls := "GlossRows$Word", name := "width", desc := "(I)I" } : Jvm.MethodName) ∈ kq_W := kq_of 510 (by decide +kernel) rfl
theorem kq_511 : Jvm.Cond.instanceMethod ({ cls := "GlossRows$Word", name := "width", desc := "(I)I" } : Jvm.MethodName) ∈ kq_W := kq_of 511 (by decide +kernel) rfl
theorem kq_512 : Jvm.Cond.selects "GlossRows$Word" ({ cls := "GlossRows$Word", name := "width", desc := "(I)I" } : Jvm.MethodName) ({ cls := "GlossRows$Word", name := "width", desc := "(I)I" } : Jvm.MethodName) ∈ kq_W := kq_of 512 (by decide +kernel) rfl
theorem kq_513 : Jvm.Cond.code ({ cls := "GlossRows$Word", name := "width", desc := "(I)I" } : Jvm.MethodName) prog_9_method_9_code (8 : Nat) (Option.some Jvm.ClassFile.FieldType.int) ∈ kq_W := kq_of 513 (by decide +kernel) rfl
theorem kq_514 : Jvm.Cond.methodLink "GlossRows$Word" (53 : Nat) ({ cls := "GlossRows$Letters", name := "length", desc := "(J)I" } : Jvm.MethodName) ∈ kq_W := kq_of 514 (by decide +kernel) rfl
theorem kq_515 : Jvm.Cond.methodLink "GlossRows$Word" (58 : Nat) ({ cls := "GlossRows$Word", name := "shownGloss", desc := "(I)J" } : Jvm.MethodName) ∈ kq_W := kq_of 515 (by decide +kernel) rfl
theorem kq_517 : Jvm.Cond.instanceMethod ({ cls := "GlossRows$Word", name := "shownGloss", desc := "(I)J" } : Jvm.MethodName) ∈ kq_W := kq_of 517 (by decide +kernel) rfl
theorem kq_518 : Jvm.Cond.code ({ cls := "GlossRows$Word", name := "shownGloss", desc := "(I)J" } : Jvm.MethodName) prog_9_method_12_code (2 : Nat) (Option.some Jvm.ClassFile.FieldType.long) ∈ kq_W := kq_of 518 (by decide +kernel) rfl
theorem kq_519 : Jvm.Cond.methodLink "GlossRows$Word" (69 : Nat) ({ cls := "GlossRows$Letters", name := "with", desc := "(JI)J" } : Jvm.MethodName) ∈ kq_W := kq_of 519 (by decide +kernel) rfl
theorem kq_520 : Jvm.Cond.methodLink "GlossRows$Word" (62 : Nat) ({ cls := "java/lang/Math", name := "max", desc := "(II)I" } : Jvm.MethodName) ∈ kq_W := kq_of 520 (by decide +kernel) rfl
theorem kq_521 : Jvm.Cond.static ({ cls := "java/lang/Math", name := "max", desc := "(II)I" } : Jvm.MethodName) ∈ kq_W := kq_of 521 (by decide +kernel) rfl
theorem kq_522 : Jvm.Cond.code ({ cls := "java/lang/Math", name := "max", desc := "(II)I" } : Jvm.MethodName) prog_16_method_65_code (2 : Nat) (Option.some Jvm.ClassFile.FieldType.int) ∈ kq_W := kq_of 522 (by decide +kernel) rfl
theorem kq_523 : Jvm.Cond.methodLink "GlossRows" (307 : Nat) ({ cls := "GlossRows$Layout", name := "wrap", desc := "(LGlossRows$Page;I)V" } : Jvm.MethodName) ∈ kq_W := kq_of 523 (by decide +kernel) rfl
theorem kq_524 : Jvm.Cond.instanceMethod ({ cls := "GlossRows$Layout", name := "wrap", desc := "(LGlossRows$Page;I)V" } : Jvm.MethodName) ∈ kq_W := kq_of 524 (by decide +kernel) rfl
theorem kq_525 : Jvm.Cond.selects "GlossRows$Layout" ({ cls := "GlossRows$Layout", name := "wrap", desc := "(LGlossRows$Page;I)V" } : Jvm.MethodName) ({ cls := "GlossRows$Layout", name := "wrap", desc := "(LGlossRows$Page;I)V" } : Jvm.MethodName) ∈ kq_W := kq_of 525 (by decide +kernel) rfl
theorem kq_526 : Jvm.Cond.code ({ cls := "GlossRows$Layout", name := "wrap", desc := "(LGlossRows$Page;I)V" } : Jvm.MethodName) prog_3_method_3_code (8 : Nat) (Option.none : Option Jvm.ClassFile.FieldType) ∈ kq_W := kq_of 526 (by decide +kernel) rfl
theorem kq_527 : Jvm.Cond.methodLink "GlossRows$Layout" (59 : Nat) ({ cls := "GlossRows$Layout", name := "rowsOfFree", desc := "(II)I" } : Jvm.MethodName) ∈ kq_W := kq_of 527 (by decide +kernel) rfl
theorem kq_528 : Jvm.Cond.static ({ cls := "GlossRows$Layout", name := "rowsOfFree", desc := "(II)I" } : Jvm.MethodName) ∈ kq_W := kq_of 528 (by decide +kernel) rfl
theorem kq_529 : Jvm.Cond.code ({ cls := "GlossRows$Layout", name := "rowsOfFree", desc := "(II)I" } : Jvm.MethodName) prog_3_method_4_code (2 : Nat) (Option.some Jvm.ClassFile.FieldType.int) ∈ kq_W := kq_of 529 (by decide +kernel) rfl
theorem kq_530 : Jvm.Cond.methodLink "GlossRows" (117 : Nat) ({ cls := "GlossRows$Layout", name := "countWider", desc := "(LGlossRows$Page;I)I" } : Jvm.MethodName) ∈ kq_W := kq_of 530 (by decide +kernel) rfl
theorem kq_531 : Jvm.Cond.instanceMethod ({ cls := "GlossRows$Layout", name := "countWider", desc := "(LGlossRows$Page;I)I" } : Jvm.MethodName) ∈ kq_W := kq_of 531 (by decide +kernel) rfl
theorem kq_532 : Jvm.Cond.selects "GlossRows$Layout" ({ cls := "GlossRows$Layout", name := "countWider", desc := "(LGlossRows$Page;I)I" } : Jvm.MethodName) ({ cls := "GlossRows$Layout", name := "countWider", desc := "(LGlossRows$Page;I)I" } : Jvm.MethodName) ∈ kq_W := kq_of 532 (by decide +kernel) rfl
theorem kq_533 : Jvm.Cond.code ({ cls := "GlossRows$Layout", name := "countWider", desc := "(LGlossRows$Page;I)I" } : Jvm.MethodName) prog_3_method_5_code (5 : Nat) (Option.some Jvm.ClassFile.FieldType.int) ∈ kq_W := kq_of 533 (by decide +kernel) rfl
theorem kq_534 : Jvm.Cond.methodLink "GlossRows" (130 : Nat) ({ cls := "GlossRows$Page", name := "countDiffering", desc := "()I" } : Jvm.MethodName) ∈ kq_W := kq_of 534 (by decide +kernel) rfl
theorem kq_535 : Jvm.Cond.instanceMethod ({ cls := "GlossRows$Page", name := "countDiffering", desc := "()I" } : Jvm.MethodName) ∈ kq_W := kq_of 535 (by decide +kernel) rfl
theorem kq_536 : Jvm.Cond.selects "GlossRows$Page" ({ cls := "GlossRows$Page", name := "countDiffering", desc := "()I" } : Jvm.MethodName) ({ cls := "GlossRows$Page", name := "countDiffering", desc := "()I" } : Jvm.MethodName) ∈ kq_W := kq_of 536 (by decide +kernel) rfl
theorem kq_537 : Jvm.Cond.code ({ cls := "GlossRows$Page", name := "countDiffering", desc := "()I" } : Jvm.MethodName) prog_6_method_16_code (7 : Nat) (Option.some Jvm.ClassFile.FieldType.int) ∈ kq_W := kq_of 537 (by decide +kernel) rfl
theorem kq_538 : Jvm.Cond.methodLink "GlossRows$Page" (82 : Nat) ({ cls := "GlossRows$Lexicon", name := "find", desc := "(J)I" } : Jvm.MethodName) ∈ kq_W := kq_of 538 (by decide +kernel) rfl
theorem kq_539 : Jvm.Cond.instanceMethod ({ cls := "GlossRows$Lexicon", name := "find", desc := "(J)I" } : Jvm.MethodName) ∈ kq_W := kq_of 539 (by decide +kernel) rfl
theorem kq_540 : Jvm.Cond.selects "GlossRows$Lexicon" ({ cls := "GlossRows$Lexicon", name := "find", desc := "(J)I" } : Jvm.MethodName) ({ cls := "GlossRows$Lexicon", name := "find", desc := "(J)I" } : Jvm.MethodName) ∈ kq_W := kq_of 540 (by decide +kernel) rfl
theorem kq_541 : Jvm.Cond.code ({ cls := "GlossRows$Lexicon", name := "find", desc := "(J)I" } : Jvm.MethodName) prog_5_method_3_code (4 : Nat) (Option.some Jvm.ClassFile.FieldType.int) ∈ kq_W := kq_of 541 (by decide +kernel) rfl
theorem kq_542 : Jvm.Cond.classLink "GlossRows" (55 : Nat) "java/lang/IllegalArgumentException" ∈ kq_W := kq_of 542 (by decide +kernel) rfl
theorem kq_543 : Jvm.Cond.instantiable "java/lang/IllegalArgumentException" (6 : Nat) ∈ kq_W := kq_of 543 (by decide +kernel) rfl
theorem kq_545 : Jvm.Cond.selects "java/lang/IllegalArgumentException" ({ cls := "java/lang/Throwable", name := "fillInStackTrace", desc := "(I)Ljava/lang/Throwable;" } : Jvm.MethodName) ({ cls := "java/lang/Throwable", name := "fillInStackTrace", desc := "(I)Ljava/lang/Throwable;" } : Jvm.MethodName) ∈ kq_W := kq_of 545 (by decide +kernel) rfl
theorem kq_546 : Jvm.Cond.lays "java/lang/IllegalArgumentException" "java/lang/Throwable" "cause" "Ljava/lang/Throwable;" ∈ kq_W := kq_of 546 (by decide +kernel) rfl
theorem kq_547 : Jvm.Cond.lays "java/lang/IllegalArgumentException" "java/lang/Throwable" "stackTrace" "[Ljava/lang/StackTraceElement;" ∈ kq_W := kq_of 547 (by decide +kernel) rfl
theorem kq_548 : Jvm.Cond.lays "java/lang/IllegalArgumentException" "java/lang/Throwable" "suppressedExceptions" "Ljava/util/List;" ∈ kq_W := kq_of 548 (by decide +kernel) rfl
theorem kq_549 : Jvm.Cond.lays "java/lang/IllegalArgumentException" "java/lang/Throwable" "detailMessage" "Ljava/lang/String;" ∈ kq_W := kq_of 549 (by decide +kernel) rfl
theorem kq_550 : Jvm.Cond.lays "java/lang/IllegalArgumentException" "java/lang/Throwable" "backtrace" "Ljava/lang/Object;" ∈ kq_W := kq_of 550 (by decide +kernel) rfl
theorem kq_552 : Jvm.Cond.methodLink "GlossRows" (59 : Nat) ({ cls := "java/lang/IllegalArgumentException", name := "<init>", desc := "(Ljava/lang/String;)V" } : Jvm.MethodName) ∈ kq_W := kq_of 552 (by decide +kernel) rfl
theorem kq_553 : Jvm.Cond.instanceMethod ({ cls := "java/lang/IllegalArgumentException", name := "<init>", desc := "(Ljava/lang/String;)V" } : Jvm.MethodName) ∈ kq_W := kq_of 553 (by decide +kernel) rfl
theorem kq_554 : Jvm.Cond.code ({ cls := "java/lang/IllegalArgumentException", name := "<init>", desc := "(Ljava/lang/String;)V" } : Jvm.MethodName) prog_13_method_2_code (2 : Nat) (Option.none : Option Jvm.ClassFile.FieldType) ∈ kq_W := kq_of 554 (by decide +kernel) rfl
theorem kq_555 : Jvm.Cond.methodLink "java/lang/IllegalArgumentException" (7 : Nat) ({ cls := "java/lang/RuntimeException", name := "<init>", desc := "(Ljava/lang/String;)V" } : Jvm.MethodName) ∈ kq_W := kq_of 555 (by decide +kernel) rfl
theorem kq_556 : Jvm.Cond.lays "java/lang/IllegalArgumentException" "java/lang/Throwable" "depth" "I" ∈ kq_W := kq_of 556 (by decide +kernel) rfl
theorem kq_558 : Jvm.Cond.constantLong "GlossRowsLaw" (17 : Nat) (-9000000000000000002 : Int64) ∈ kq_W := kq_of 558 (by decide +kernel) rfl
theorem kq_559 : Jvm.Cond.constantLong "GlossRowsLaw" (118 : Nat) (1000000007 : Int64) ∈ kq_W := kq_of 559 (by decide +kernel) rfl
theorem kq_560 : Jvm.Cond.methodLink "GlossRowsLaw" (120 : Nat) ({ cls := "GlossRowsLaw", name := "words", desc := "(LGlossRows;)I" } : Jvm.MethodName) ∈ kq_W := kq_of 560 (by decide +kernel) rfl
theorem kq_561 : Jvm.Cond.static ({ cls := "GlossRowsLaw", name := "words", desc := "(LGlossRows;)I" } : Jvm.MethodName) ∈ kq_W := kq_of 561 (by decide +kernel) rfl
theorem kq_562 : Jvm.Cond.code ({ cls := "GlossRowsLaw", name := "words", desc := "(LGlossRows;)I" } : Jvm.MethodName) method_30_code (1 : Nat) (Option.some Jvm.ClassFile.FieldType.int) ∈ kq_W := kq_of 562 (by decide +kernel) rfl
theorem kq_563 : Jvm.Cond.methodLink "GlossRowsLaw" (124 : Nat) ({ cls := "GlossRowsLaw", name := "word", desc := "(LGlossRows;II)J" } : Jvm.MethodName) ∈ kq_W := kq_of 563 (by decide +kernel) rfl
theorem kq_564 : Jvm.Cond.static ({ cls := "GlossRowsLaw", name := "word", desc := "(LGlossRows;II)J" } : Jvm.MethodName) ∈ kq_W := kq_of 564 (by decide +kernel) rfl
theorem kq_566 : Jvm.Cond.methodLink "GlossRowsLaw" (30 : Nat) ({ cls := "GlossRows", name := "word", desc := "(II)I" } : Jvm.MethodName) ∈ kq_W := kq_of 566 (by decide +kernel) rfl
theorem kq_567 : Jvm.Cond.instanceMethod ({ cls := "GlossRows", name := "word", desc := "(II)I" } : Jvm.MethodName) ∈ kq_W := kq_of 567 (by decide +kernel) rfl
theorem kq_568 : Jvm.Cond.selects "GlossRows" ({ cls := "GlossRows", name := "word", desc := "(II)I" } : Jvm.MethodName) ({ cls := "GlossRows", name := "word", desc := "(II)I" } : Jvm.MethodName) ∈ kq_W := kq_of 568 (by decide +kernel) rfl
theorem kq_569 : Jvm.Cond.code ({ cls := "GlossRows", name := "word", desc := "(II)I" } : Jvm.MethodName) prog_1_method_7_code (3 : Nat) (Option.some Jvm.ClassFile.FieldType.int) ∈ kq_W := kq_of 569 (by decide +kernel) rfl
theorem kq_570 : Jvm.Cond.methodLink "GlossRows" (141 : Nat) ({ cls := "GlossRows", name := "requireWord", desc := "(I)V" } : Jvm.MethodName) ∈ kq_W := kq_of 570 (by decide +kernel) rfl
theorem kq_572 : Jvm.Cond.instanceMethod ({ cls := "GlossRows", name := "requireWord", desc := "(I)V" } : Jvm.MethodName) ∈ kq_W := kq_of 572 (by decide +kernel) rfl
theorem kq_573 : Jvm.Cond.code ({ cls := "GlossRows", name := "requireWord", desc := "(I)V" } : Jvm.MethodName) prog_1_method_33_code (2 : Nat) (Option.none : Option Jvm.ClassFile.FieldType) ∈ kq_W := kq_of 573 (by decide +kernel) rfl
theorem kq_574 : Jvm.Cond.methodLink "GlossRows" (346 : Nat) ({ cls := "GlossRows$Page", name := "hasWord", desc := "(I)Z" } : Jvm.MethodName) ∈ kq_W := kq_of 574 (by decide +kernel) rfl
theorem kq_575 : Jvm.Cond.instanceMethod ({ cls := "GlossRows$Page", name := "hasWord", desc := "(I)Z" } : Jvm.MethodName) ∈ kq_W := kq_of 575 (by decide +kernel) rfl
theorem kq_576 : Jvm.Cond.selects "GlossRows$Page" ({ cls := "GlossRows$Page", name := "hasWord", desc := "(I)Z" } : Jvm.MethodName) ({ cls := "GlossRows$Page", name := "hasWord", desc := "(I)Z" } : Jvm.MethodName) ∈ kq_W := kq_of 576 (by decide +kernel) rfl
theorem kq_577 : Jvm.Cond.code ({ cls := "GlossRows$Page", name := "hasWord", desc := "(I)Z" } : Jvm.MethodName) prog_6_method_4_code (2 : Nat) (Option.some Jvm.ClassFile.FieldType.boolean) ∈ kq_W := kq_of 577 (by decide +kernel) rfl
theorem kq_579 : Jvm.Cond.methodLink "GlossRows" (151 : Nat) ({ cls := "GlossRows$Word", name := "width", desc := "(I)I" } : Jvm.MethodName) ∈ kq_W := kq_of 579 (by decide +kernel) rfl
theorem kq_580 : Jvm.Cond.methodLink "GlossRows" (168 : Nat) ({ cls := "GlossRows$Word", name := "countGaps", desc := "()I" } : Jvm.MethodName) ∈ kq_W := kq_of 580 (by decide +kernel) rfl
theorem kq_582 : Jvm.Cond.methodLink "GlossRowsLaw" (127 : Nat) ({ cls := "GlossRowsLaw", name := "letter", desc := "(LGlossRows;IIZI)J" } : Jvm.MethodName) ∈ kq_W := kq_of 582 (by decide +kernel) rfl
theorem kq_583 : Jvm.Cond.static ({ cls := "GlossRowsLaw", name := "letter", desc := "(LGlossRows;IIZI)J" } : Jvm.MethodName) ∈ kq_W := kq_of 583 (by decide +kernel) rfl
theorem kq_585 : Jvm.Cond.methodLink "GlossRowsLaw" (42 : Nat) ({ cls := "GlossRows", name := "letter", desc := "(IIZI)I" } : Jvm.MethodName) ∈ kq_W := kq_of 585 (by decide +kernel) rfl
theorem kq_586 : Jvm.Cond.instanceMethod ({ cls := "GlossRows", name := "letter", desc := "(IIZI)I" } : Jvm.MethodName) ∈ kq_W := kq_of 586 (by decide +kernel) rfl
theorem kq_587 : Jvm.Cond.selects "GlossRows" ({ cls := "GlossRows", name := "letter", desc := "(IIZI)I" } : Jvm.MethodName) ({ cls := "GlossRows", name := "letter", desc := "(IIZI)I" } : Jvm.MethodName) ∈ kq_W := kq_of 587 (by decide +kernel) rfl
theorem kq_588 : Jvm.Cond.code ({ cls := "GlossRows", name := "letter", desc := "(IIZI)I" } : Jvm.MethodName) prog_1_method_9_code (5 : Nat) (Option.some Jvm.ClassFile.FieldType.int) ∈ kq_W := kq_of 588 (by decide +kernel) rfl
theorem kq_589 : Jvm.Cond.methodLink "GlossRows" (174 : Nat) ({ cls := "GlossRows", name := "requirePart", desc := "(II)V" } : Jvm.MethodName) ∈ kq_W := kq_of 589 (by decide +kernel) rfl
theorem kq_591 : Jvm.Cond.instanceMethod ({ cls := "GlossRows", name := "requirePart", desc := "(II)V" } : Jvm.MethodName) ∈ kq_W := kq_of 591 (by decide +kernel) rfl
theorem kq_592 : Jvm.Cond.code ({ cls := "GlossRows", name := "requirePart", desc := "(II)V" } : Jvm.MethodName) prog_1_method_34_code (3 : Nat) (Option.none : Option Jvm.ClassFile.FieldType) ∈ kq_W := kq_of 592 (by decide +kernel) rfl
theorem kq_593 : Jvm.Cond.methodLink "GlossRows" (351 : Nat) ({ cls := "GlossRows$Page", name := "hasPart", desc := "(II)Z" } : Jvm.MethodName) ∈ kq_W := kq_of 593 (by decide +kernel) rfl
theorem kq_594 : Jvm.Cond.instanceMethod ({ cls := "GlossRows$Page", name := "hasPart", desc := "(II)Z" } : Jvm.MethodName) ∈ kq_W := kq_of 594 (by decide +kernel) rfl
theorem kq_595 : Jvm.Cond.selects "GlossRows$Page" ({ cls := "GlossRows$Page", name := "hasPart", desc := "(II)Z" } : Jvm.MethodName) ({ cls := "GlossRows$Page", name := "hasPart", desc := "(II)Z" } : Jvm.MethodName) ∈ kq_W := kq_of 595 (by decide +kernel) rfl
theorem kq_596 : Jvm.Cond.code ({ cls := "GlossRows$Page", name := "hasPart", desc := "(II)Z" } : Jvm.MethodName) prog_6_method_5_code (3 : Nat) (Option.some Jvm.ClassFile.FieldType.boolean) ∈ kq_W := kq_of 596 (by decide +kernel) rfl
theorem kq_597 : Jvm.Cond.methodLink "GlossRows$Page" (51 : Nat) ({ cls := "GlossRows$Page", name := "hasWord", desc := "(I)Z" } : Jvm.MethodName) ∈ kq_W := kq_of 597 (by decide +kernel) rfl
theorem kq_599 : Jvm.Cond.methodLink "GlossRows" (198 : Nat) ({ cls := "GlossRows", name := "requireNotNegative", desc := "(I)V" } : Jvm.MethodName) ∈ kq_W := kq_of 599 (by decide +kernel) rfl
theorem kq_601 : Jvm.Cond.instanceMethod ({ cls := "GlossRows", name := "requireNotNegative", desc := "(I)V" } : Jvm.MethodName) ∈ kq_W := kq_of 601 (by decide +kernel) rfl
theorem kq_602 : Jvm.Cond.code ({ cls := "GlossRows", name := "requireNotNegative", desc := "(I)V" } : Jvm.MethodName) prog_1_method_38_code (2 : Nat) (Option.none : Option Jvm.ClassFile.FieldType) ∈ kq_W := kq_of 602 (by decide +kernel) rfl
theorem kq_604 : Jvm.Cond.methodLink "GlossRows" (201 : Nat) ({ cls := "GlossRows$Letters", name := "code", desc := "(JI)I" } : Jvm.MethodName) ∈ kq_W := kq_of 604 (by decide +kernel) rfl
theorem kq_605 : Jvm.Cond.static ({ cls := "GlossRows$Letters", name := "code", desc := "(JI)I" } : Jvm.MethodName) ∈ kq_W := kq_of 605 (by decide +kernel) rfl
theorem kq_606 : Jvm.Cond.code ({ cls := "GlossRows$Letters", name := "code", desc := "(JI)I" } : Jvm.MethodName) prog_4_method_3_code (3 : Nat) (Option.some Jvm.ClassFile.FieldType.int) ∈ kq_W := kq_of 606 (by decide +kernel) rfl
theorem kq_607 : Jvm.Cond.constantLong "GlossRowsLaw" (130 : Nat) (200 : Int64) ∈ kq_W := kq_of 607 (by decide +kernel) rfl
theorem kq_608 : Jvm.Cond.constantLong "GlossRowsLaw" (132 : Nat) (2000 : Int64) ∈ kq_W := kq_of 608 (by decide +kernel) rfl
theorem kq_609 : Jvm.Cond.methodLink "GlossRowsLaw" (134 : Nat) ({ cls := "GlossRowsLaw", name := "part", desc := "(LGlossRows;III)J" } : Jvm.MethodName) ∈ kq_W := kq_of 609 (by decide +kernel) rfl
theorem kq_610 : Jvm.Cond.static ({ cls := "GlossRowsLaw", name := "part", desc := "(LGlossRows;III)J" } : Jvm.MethodName) ∈ kq_W := kq_of 610 (by decide +kernel) rfl
theorem kq_612 : Jvm.Cond.methodLink "GlossRowsLaw" (38 : Nat) ({ cls := "GlossRows", name := "part", desc := "(III)I" } : Jvm.MethodName) ∈ kq_W := kq_of 612 (by decide +kernel) rfl
theorem kq_613 : Jvm.Cond.instanceMethod ({ cls := "GlossRows", name := "part", desc := "(III)I" } : Jvm.MethodName) ∈ kq_W := kq_of 613 (by decide +kernel) rfl
theorem kq_614 : Jvm.Cond.selects "GlossRows" ({ cls := "GlossRows", name := "part", desc := "(III)I" } : Jvm.MethodName) ({ cls := "GlossRows", name := "part", desc := "(III)I" } : Jvm.MethodName) ∈ kq_W := kq_of 614 (by decide +kernel) rfl
theorem kq_615 : Jvm.Cond.code ({ cls := "GlossRows", name := "part", desc := "(III)I" } : Jvm.MethodName) prog_1_method_8_code (4 : Nat) (Option.some Jvm.ClassFile.FieldType.int) ∈ kq_W := kq_of 615 (by decide +kernel) rfl
theorem kq_616 : Jvm.Cond.methodLink "GlossRows" (182 : Nat) ({ cls := "GlossRows$Letters", name := "length", desc := "(J)I" } : Jvm.MethodName) ∈ kq_W := kq_of 616 (by decide +kernel) rfl
theorem kq_617 : Jvm.Cond.methodLink "GlossRows" (193 : Nat) ({ cls := "GlossRows$Lexicon", name := "find", desc := "(J)I" } : Jvm.MethodName) ∈ kq_W := kq_of 617 (by decide +kernel) rfl
theorem kq_619 : Jvm.Cond.constantLong "GlossRowsLaw" (137 : Nat) (20 : Int64) ∈ kq_W := kq_of 619 (by decide +kernel) rfl
theorem kq_620 : Jvm.Cond.methodLink "GlossRowsLaw" (139 : Nat) ({ cls := "GlossRowsLaw", name := "entry", desc := "(LGlossRows;IZI)J" } : Jvm.MethodName) ∈ kq_W := kq_of 620 (by decide +kernel) rfl
theorem kq_621 : Jvm.Cond.static ({ cls := "GlossRowsLaw", name := "entry", desc := "(LGlossRows;IZI)J" } : Jvm.MethodName) ∈ kq_W := kq_of 621 (by decide +kernel) rfl
theorem kq_623 : Jvm.Cond.methodLink "GlossRowsLaw" (46 : Nat) ({ cls := "GlossRows", name := "entry", desc := "(IZI)I" } : Jvm.MethodName) ∈ kq_W := kq_of 623 (by decide +kernel) rfl
theorem kq_624 : Jvm.Cond.instanceMethod ({ cls := "GlossRows", name := "entry", desc := "(IZI)I" } : Jvm.MethodName) ∈ kq_W := kq_of 624 (by decide +kernel) rfl
theorem kq_625 : Jvm.Cond.selects "GlossRows" ({ cls := "GlossRows", name := "entry", desc := "(IZI)I" } : Jvm.MethodName) ({ cls := "GlossRows", name := "entry", desc := "(IZI)I" } : Jvm.MethodName) ∈ kq_W := kq_of 625 (by decide +kernel) rfl
theorem kq_626 : Jvm.Cond.code ({ cls := "GlossRows", name := "entry", desc := "(IZI)I" } : Jvm.MethodName) prog_1_method_10_code (4 : Nat) (Option.some Jvm.ClassFile.FieldType.int) ∈ kq_W := kq_of 626 (by decide +kernel) rfl
theorem kq_627 : Jvm.Cond.methodLink "GlossRows" (205 : Nat) ({ cls := "GlossRows", name := "requireEntry", desc := "(I)V" } : Jvm.MethodName) ∈ kq_W := kq_of 627 (by decide +kernel) rfl
theorem kq_629 : Jvm.Cond.instanceMethod ({ cls := "GlossRows", name := "requireEntry", desc := "(I)V" } : Jvm.MethodName) ∈ kq_W := kq_of 629 (by decide +kernel) rfl
theorem kq_630 : Jvm.Cond.code ({ cls := "GlossRows", name := "requireEntry", desc := "(I)V" } : Jvm.MethodName) prog_1_method_35_code (2 : Nat) (Option.none : Option Jvm.ClassFile.FieldType) ∈ kq_W := kq_of 630 (by decide +kernel) rfl
theorem kq_632 : Jvm.Cond.methodLink "GlossRowsLaw" (146 : Nat) ({ cls := "GlossRows", name := "errorPosition", desc := "()I" } : Jvm.MethodName) ∈ kq_W := kq_of 632 (by decide +kernel) rfl
theorem kq_633 : Jvm.Cond.instanceMethod ({ cls := "GlossRows", name := "errorPosition", desc := "()I" } : Jvm.MethodName) ∈ kq_W := kq_of 633 (by decide +kernel) rfl
theorem kq_634 : Jvm.Cond.selects "GlossRows" ({ cls := "GlossRows", name := "errorPosition", desc := "()I" } : Jvm.MethodName) ({ cls := "GlossRows", name := "errorPosition", desc := "()I" } : Jvm.MethodName) ∈ kq_W := kq_of 634 (by decide +kernel) rfl
theorem kq_635 : Jvm.Cond.code ({ cls := "GlossRows", name := "errorPosition", desc := "()I" } : Jvm.MethodName) prog_1_method_4_code (1 : Nat) (Option.some Jvm.ClassFile.FieldType.int) ∈ kq_W := kq_of 635 (by decide +kernel) rfl
theorem kq_636 : Jvm.Cond.methodLink "GlossRowsLaw" (149 : Nat) ({ cls := "GlossRowsLaw", name := "gap", desc := "(LGlossRows;I)J" } : Jvm.MethodName) ∈ kq_W := kq_of 636 (by decide +kernel) rfl
theorem kq_637 : Jvm.Cond.static ({ cls := "GlossRowsLaw", name := "gap", desc := "(LGlossRows;I)J" } : Jvm.MethodName) ∈ kq_W := kq_of 637 (by decide +kernel) rfl
theorem kq_639 : Jvm.Cond.methodLink "GlossRowsLaw" (86 : Nat) ({ cls := "GlossRows", name := "gap", desc := "(I)I" } : Jvm.MethodName) ∈ kq_W := kq_of 639 (by decide +kernel) rfl
theorem kq_640 : Jvm.Cond.instanceMethod ({ cls := "GlossRows", name := "gap", desc := "(I)I" } : Jvm.MethodName) ∈ kq_W := kq_of 640 (by decide +kernel) rfl
theorem kq_641 : Jvm.Cond.selects "GlossRows" ({ cls := "GlossRows", name := "gap", desc := "(I)I" } : Jvm.MethodName) ({ cls := "GlossRows", name := "gap", desc := "(I)I" } : Jvm.MethodName) ∈ kq_W := kq_of 641 (by decide +kernel) rfl
theorem kq_642 : Jvm.Cond.code ({ cls := "GlossRows", name := "gap", desc := "(I)I" } : Jvm.MethodName) prog_1_method_24_code (2 : Nat) (Option.some Jvm.ClassFile.FieldType.int) ∈ kq_W := kq_of 642 (by decide +kernel) rfl
theorem kq_643 : Jvm.Cond.methodLink "GlossRows" (295 : Nat) ({ cls := "GlossRows$Page", name := "placeOfGap", desc := "(I)I" } : Jvm.MethodName) ∈ kq_W := kq_of 643 (by decide +kernel) rfl
theorem kq_644 : Jvm.Cond.instanceMethod ({ cls := "GlossRows$Page", name := "placeOfGap", desc := "(I)I" } : Jvm.MethodName) ∈ kq_W := kq_of 644 (by decide +kernel) rfl
theorem kq_645 : Jvm.Cond.selects "GlossRows$Page" ({ cls := "GlossRows$Page", name := "placeOfGap", desc := "(I)I" } : Jvm.MethodName) ({ cls := "GlossRows$Page", name := "placeOfGap", desc := "(I)I" } : Jvm.MethodName) ∈ kq_W := kq_of 645 (by decide +kernel) rfl
theorem kq_646 : Jvm.Cond.code ({ cls := "GlossRows$Page", name := "placeOfGap", desc := "(I)I" } : Jvm.MethodName) prog_6_method_17_code (5 : Nat) (Option.some Jvm.ClassFile.FieldType.int) ∈ kq_W := kq_of 646 (by decide +kernel) rfl
theorem kq_647 : Jvm.Cond.methodLink "GlossRowsLaw" (151 : Nat) ({ cls := "GlossRows", name := "mostUsed", desc := "()I" } : Jvm.MethodName) ∈ kq_W := kq_of 647 (by decide +kernel) rfl
theorem kq_648 : Jvm.Cond.instanceMethod ({ cls := "GlossRows", name := "mostUsed", desc := "()I" } : Jvm.MethodName) ∈ kq_W := kq_of 648 (by decide +kernel) rfl
theorem kq_649 : Jvm.Cond.selects "GlossRows" ({ cls := "GlossRows", name := "mostUsed", desc := "()I" } : Jvm.MethodName) ({ cls := "GlossRows", name := "mostUsed", desc := "()I" } : Jvm.MethodName) ∈ kq_W := kq_of 649 (by decide +kernel) rfl
theorem kq_650 : Jvm.Cond.code ({ cls := "GlossRows", name := "mostUsed", desc := "()I" } : Jvm.MethodName) prog_1_method_25_code (1 : Nat) (Option.some Jvm.ClassFile.FieldType.int) ∈ kq_W := kq_of 650 (by decide +kernel) rfl
theorem kq_651 : Jvm.Cond.methodLink "GlossRows" (298 : Nat) ({ cls := "GlossRows$Page", name := "placeOfMostUsed", desc := "()I" } : Jvm.MethodName) ∈ kq_W := kq_of 651 (by decide +kernel) rfl
theorem kq_652 : Jvm.Cond.instanceMethod ({ cls := "GlossRows$Page", name := "placeOfMostUsed", desc := "()I" } : Jvm.MethodName) ∈ kq_W := kq_of 652 (by decide +kernel) rfl
theorem kq_653 : Jvm.Cond.selects "GlossRows$Page" ({ cls := "GlossRows$Page", name := "placeOfMostUsed", desc := "()I" } : Jvm.MethodName) ({ cls := "GlossRows$Page", name := "placeOfMostUsed", desc := "()I" } : Jvm.MethodName) ∈ kq_W := kq_of 653 (by decide +kernel) rfl
theorem kq_654 : Jvm.Cond.code ({ cls := "GlossRows$Page", name := "placeOfMostUsed", desc := "()I" } : Jvm.MethodName) prog_6_method_18_code (10 : Nat) (Option.some Jvm.ClassFile.FieldType.int) ∈ kq_W := kq_of 654 (by decide +kernel) rfl
theorem kq_655 : Jvm.Cond.methodLink "GlossRows$Page" (95 : Nat) ({ cls := "GlossRows$Page", name := "countUses", desc := "(J)I" } : Jvm.MethodName) ∈ kq_W := kq_of 655 (by decide +kernel) rfl
theorem kq_657 : Jvm.Cond.instanceMethod ({ cls := "GlossRows$Page", name := "countUses", desc := "(J)I" } : Jvm.MethodName) ∈ kq_W := kq_of 657 (by decide +kernel) rfl
theorem kq_658 : Jvm.Cond.code ({ cls := "GlossRows$Page", name := "countUses", desc := "(J)I" } : Jvm.MethodName) prog_6_method_19_code (6 : Nat) (Option.some Jvm.ClassFile.FieldType.int) ∈ kq_W := kq_of 658 (by decide +kernel) rfl
theorem kq_659 : Jvm.Cond.methodLink "GlossRowsLaw" (154 : Nat) ({ cls := "GlossRowsLaw", name := "widthFor", desc := "(LGlossRows;I)J" } : Jvm.MethodName) ∈ kq_W := kq_of 659 (by decide +kernel) rfl
theorem kq_660 : Jvm.Cond.static ({ cls := "GlossRowsLaw", name := "widthFor", desc := "(LGlossRows;I)J" } : Jvm.MethodName) ∈ kq_W := kq_of 660 (by decide +kernel) rfl
theorem kq_662 : Jvm.Cond.methodLink "GlossRowsLaw" (89 : Nat) ({ cls := "GlossRows", name := "widthFor", desc := "(I)I" } : Jvm.MethodName) ∈ kq_W := kq_of 662 (by decide +kernel) rfl
theorem kq_663 : Jvm.Cond.instanceMethod ({ cls := "GlossRows", name := "widthFor", desc := "(I)I" } : Jvm.MethodName) ∈ kq_W := kq_of 663 (by decide +kernel) rfl
theorem kq_664 : Jvm.Cond.selects "GlossRows" ({ cls := "GlossRows", name := "widthFor", desc := "(I)I" } : Jvm.MethodName) ({ cls := "GlossRows", name := "widthFor", desc := "(I)I" } : Jvm.MethodName) ∈ kq_W := kq_of 664 (by decide +kernel) rfl
theorem kq_665 : Jvm.Cond.code ({ cls := "GlossRows", name := "widthFor", desc := "(I)I" } : Jvm.MethodName) prog_1_method_26_code (3 : Nat) (Option.some Jvm.ClassFile.FieldType.int) ∈ kq_W := kq_of 665 (by decide +kernel) rfl
theorem kq_667 : Jvm.Cond.methodLink "GlossRowsLaw" (156 : Nat) ({ cls := "GlossRows", name := "empty", desc := "()I" } : Jvm.MethodName) ∈ kq_W := kq_of 667 (by decide +kernel) rfl
theorem kq_668 : Jvm.Cond.instanceMethod ({ cls := "GlossRows", name := "empty", desc := "()I" } : Jvm.MethodName) ∈ kq_W := kq_of 668 (by decide +kernel) rfl
theorem kq_669 : Jvm.Cond.selects "GlossRows" ({ cls := "GlossRows", name := "empty", desc := "()I" } : Jvm.MethodName) ({ cls := "GlossRows", name := "empty", desc := "()I" } : Jvm.MethodName) ∈ kq_W := kq_of 669 (by decide +kernel) rfl
theorem kq_670 : Jvm.Cond.code ({ cls := "GlossRows", name := "empty", desc := "()I" } : Jvm.MethodName) prog_1_method_27_code (1 : Nat) (Option.some Jvm.ClassFile.FieldType.int) ∈ kq_W := kq_of 670 (by decide +kernel) rfl
theorem kq_671 : Jvm.Cond.methodLink "GlossRows" (310 : Nat) ({ cls := "GlossRows$Layout", name := "countEmpty", desc := "(LGlossRows$Page;I)I" } : Jvm.MethodName) ∈ kq_W := kq_of 671 (by decide +kernel) rfl
theorem kq_672 : Jvm.Cond.instanceMethod ({ cls := "GlossRows$Layout", name := "countEmpty", desc := "(LGlossRows$Page;I)I" } : Jvm.MethodName) ∈ kq_W := kq_of 672 (by decide +kernel) rfl
theorem kq_673 : Jvm.Cond.selects "GlossRows$Layout" ({ cls := "GlossRows$Layout", name := "countEmpty", desc := "(LGlossRows$Page;I)I" } : Jvm.MethodName) ({ cls := "GlossRows$Layout", name := "countEmpty", desc := "(LGlossRows$Page;I)I" } : Jvm.MethodName) ∈ kq_W := kq_of 673 (by decide +kernel) rfl
theorem kq_674 : Jvm.Cond.code ({ cls := "GlossRows$Layout", name := "countEmpty", desc := "(LGlossRows$Page;I)I" } : Jvm.MethodName) prog_3_method_6_code (6 : Nat) (Option.some Jvm.ClassFile.FieldType.int) ∈ kq_W := kq_of 674 (by decide +kernel) rfl
theorem kq_675 : Jvm.Cond.methodLink "GlossRows$Layout" (63 : Nat) ({ cls := "java/lang/Math", name := "max", desc := "(II)I" } : Jvm.MethodName) ∈ kq_W := kq_of 675 (by decide +kernel) rfl
theorem kq_676 : Jvm.Cond.methodLink "GlossRowsLaw" (159 : Nat) ({ cls := "GlossRowsLaw", name := "rowsWith", desc := "(LGlossRows;II)J" } : Jvm.MethodName) ∈ kq_W := kq_of 676 (by decide +kernel) rfl
theorem kq_677 : Jvm.Cond.static ({ cls := "GlossRowsLaw", name := "rowsWith", desc := "(LGlossRows;II)J" } : Jvm.MethodName) ∈ kq_W := kq_of 677 (by decide +kernel) rfl
theorem kq_679 : Jvm.Cond.methodLink "GlossRowsLaw" (92 : Nat) ({ cls := "GlossRows", name := "rowsWith", desc := "(II)I" } : Jvm.MethodName) ∈ kq_W := kq_of 679 (by decide +kernel) rfl
theorem kq_680 : Jvm.Cond.instanceMethod ({ cls := "GlossRows", name := "rowsWith", desc := "(II)I" } : Jvm.MethodName) ∈ kq_W := kq_of 680 (by decide +kernel) rfl
theorem kq_681 : Jvm.Cond.selects "GlossRows" ({ cls := "GlossRows", name := "rowsWith", desc := "(II)I" } : Jvm.MethodName) ({ cls := "GlossRows", name := "rowsWith", desc := "(II)I" } : Jvm.MethodName) ∈ kq_W := kq_of 681 (by decide +kernel) rfl
theorem kq_682 : Jvm.Cond.code ({ cls := "GlossRows", name := "rowsWith", desc := "(II)I" } : Jvm.MethodName) prog_1_method_28_code (3 : Nat) (Option.some Jvm.ClassFile.FieldType.int) ∈ kq_W := kq_of 682 (by decide +kernel) rfl
theorem kq_683 : Jvm.Cond.methodLink "GlossRows" (265 : Nat) ({ cls := "GlossRows$Page", name := "allows", desc := "(II)Z" } : Jvm.MethodName) ∈ kq_W := kq_of 683 (by decide +kernel) rfl
theorem kq_684 : Jvm.Cond.static ({ cls := "GlossRows$Page", name := "allows", desc := "(II)Z" } : Jvm.MethodName) ∈ kq_W := kq_of 684 (by decide +kernel) rfl
theorem kq_685 : Jvm.Cond.code ({ cls := "GlossRows$Page", name := "allows", desc := "(II)Z" } : Jvm.MethodName) prog_6_method_8_code (2 : Nat) (Option.some Jvm.ClassFile.FieldType.boolean) ∈ kq_W := kq_of 685 (by decide +kernel) rfl
theorem kq_687 : Jvm.Cond.methodLink "GlossRowsLaw" (161 : Nat) ({ cls := "GlossRowsLaw", name := "row", desc := "(LGlossRows;II)J" } : Jvm.MethodName) ∈ kq_W := kq_of 687 (by decide +kernel) rfl
theorem kq_688 : Jvm.Cond.static ({ cls := "GlossRowsLaw", name := "row", desc := "(LGlossRows;II)J" } : Jvm.MethodName) ∈ kq_W := kq_of 688 (by decide +kernel) rfl
theorem kq_690 : Jvm.Cond.methodLink "GlossRowsLaw" (50 : Nat) ({ cls := "GlossRows", name := "row", desc := "(II)I" } : Jvm.MethodName) ∈ kq_W := kq_of 690 (by decide +kernel) rfl
theorem kq_691 : Jvm.Cond.instanceMethod ({ cls := "GlossRows", name := "row", desc := "(II)I" } : Jvm.MethodName) ∈ kq_W := kq_of 691 (by decide +kernel) rfl
theorem kq_692 : Jvm.Cond.selects "GlossRows" ({ cls := "GlossRows", name := "row", desc := "(II)I" } : Jvm.MethodName) ({ cls := "GlossRows", name := "row", desc := "(II)I" } : Jvm.MethodName) ∈ kq_W := kq_of 692 (by decide +kernel) rfl
theorem kq_693 : Jvm.Cond.code ({ cls := "GlossRows", name := "row", desc := "(II)I" } : Jvm.MethodName) prog_1_method_11_code (3 : Nat) (Option.some Jvm.ClassFile.FieldType.int) ∈ kq_W := kq_of 693 (by decide +kernel) rfl
theorem kq_694 : Jvm.Cond.methodLink "GlossRows" (210 : Nat) ({ cls := "GlossRows", name := "requireRow", desc := "(I)V" } : Jvm.MethodName) ∈ kq_W := kq_of 694 (by decide +kernel) rfl
theorem kq_696 : Jvm.Cond.instanceMethod ({ cls := "GlossRows", name := "requireRow", desc := "(I)V" } : Jvm.MethodName) ∈ kq_W := kq_of 696 (by decide +kernel) rfl
theorem kq_697 : Jvm.Cond.code ({ cls := "GlossRows", name := "requireRow", desc := "(I)V" } : Jvm.MethodName) prog_1_method_36_code (2 : Nat) (Option.none : Option Jvm.ClassFile.FieldType) ∈ kq_W := kq_of 697 (by decide +kernel) rfl
theorem kq_699 : Jvm.Cond.methodLink "GlossRows" (213 : Nat) ({ cls := "GlossRows$Layout", name := "kindOfRow", desc := "(LGlossRows$Page;I)I" } : Jvm.MethodName) ∈ kq_W := kq_of 699 (by decide +kernel) rfl
theorem kq_700 : Jvm.Cond.instanceMethod ({ cls := "GlossRows$Layout", name := "kindOfRow", desc := "(LGlossRows$Page;I)I" } : Jvm.MethodName) ∈ kq_W := kq_of 700 (by decide +kernel) rfl
theorem kq_701 : Jvm.Cond.selects "GlossRows$Layout" ({ cls := "GlossRows$Layout", name := "kindOfRow", desc := "(LGlossRows$Page;I)I" } : Jvm.MethodName) ({ cls := "GlossRows$Layout", name := "kindOfRow", desc := "(LGlossRows$Page;I)I" } : Jvm.MethodName) ∈ kq_W := kq_of 701 (by decide +kernel) rfl
theorem kq_702 : Jvm.Cond.code ({ cls := "GlossRows$Layout", name := "kindOfRow", desc := "(LGlossRows$Page;I)I" } : Jvm.MethodName) prog_3_method_7_code (3 : Nat) (Option.some Jvm.ClassFile.FieldType.int) ∈ kq_W := kq_of 702 (by decide +kernel) rfl
theorem kq_703 : Jvm.Cond.methodLink "GlossRows$Layout" (68 : Nat) ({ cls := "GlossRows$Layout", name := "lastWordOfRow", desc := "(LGlossRows$Page;I)I" } : Jvm.MethodName) ∈ kq_W := kq_of 703 (by decide +kernel) rfl
theorem kq_705 : Jvm.Cond.instanceMethod ({ cls := "GlossRows$Layout", name := "lastWordOfRow", desc := "(LGlossRows$Page;I)I" } : Jvm.MethodName) ∈ kq_W := kq_of 705 (by decide +kernel) rfl
theorem kq_706 : Jvm.Cond.code ({ cls := "GlossRows$Layout", name := "lastWordOfRow", desc := "(LGlossRows$Page;I)I" } : Jvm.MethodName) prog_3_method_12_code (5 : Nat) (Option.some Jvm.ClassFile.FieldType.int) ∈ kq_W := kq_of 706 (by decide +kernel) rfl
theorem kq_707 : Jvm.Cond.methodLink "GlossRows$Layout" (72 : Nat) ({ cls := "java/lang/Math", name := "min", desc := "(II)I" } : Jvm.MethodName) ∈ kq_W := kq_of 707 (by decide +kernel) rfl
theorem kq_708 : Jvm.Cond.static ({ cls := "java/lang/Math", name := "min", desc := "(II)I" } : Jvm.MethodName) ∈ kq_W := kq_of 708 (by decide +kernel) rfl
theorem kq_709 : Jvm.Cond.code ({ cls := "java/lang/Math", name := "min", desc := "(II)I" } : Jvm.MethodName) prog_16_method_69_code (2 : Nat) (Option.some Jvm.ClassFile.FieldType.int) ∈ kq_W := kq_of 709 (by decide +kernel) rfl
theorem kq_710 : Jvm.Cond.methodLink "GlossRows" (216 : Nat) ({ cls := "GlossRows$Layout", name := "lengthOfRow", desc := "(LGlossRows$Page;I)I" } : Jvm.MethodName) ∈ kq_W := kq_of 710 (by decide +kernel) rfl
theorem kq_711 : Jvm.Cond.instanceMethod ({ cls := "GlossRows$Layout", name := "lengthOfRow", desc := "(LGlossRows$Page;I)I" } : Jvm.MethodName) ∈ kq_W := kq_of 711 (by decide +kernel) rfl
theorem kq_712 : Jvm.Cond.selects "GlossRows$Layout" ({ cls := "GlossRows$Layout", name := "lengthOfRow", desc := "(LGlossRows$Page;I)I" } : Jvm.MethodName) ({ cls := "GlossRows$Layout", name := "lengthOfRow", desc := "(LGlossRows$Page;I)I" } : Jvm.MethodName) ∈ kq_W := kq_of 712 (by decide +kernel) rfl
theorem kq_713 : Jvm.Cond.code ({ cls := "GlossRows$Layout", name := "lengthOfRow", desc := "(LGlossRows$Page;I)I" } : Jvm.MethodName) prog_3_method_8_code (4 : Nat) (Option.some Jvm.ClassFile.FieldType.int) ∈ kq_W := kq_of 713 (by decide +kernel) rfl
theorem kq_714 : Jvm.Cond.methodLink "GlossRows$Layout" (75 : Nat) ({ cls := "GlossRows$Layout", name := "kindOfRow", desc := "(LGlossRows$Page;I)I" } : Jvm.MethodName) ∈ kq_W := kq_of 714 (by decide +kernel) rfl
theorem kq_715 : Jvm.Cond.methodLink "GlossRows$Layout" (80 : Nat) ({ cls := "GlossRows$Layout", name := "beginInFree", desc := "(LGlossRows$Page;I)I" } : Jvm.MethodName) ∈ kq_W := kq_of 715 (by decide +kernel) rfl
theorem kq_717 : Jvm.Cond.instanceMethod ({ cls := "GlossRows$Layout", name := "beginInFree", desc := "(LGlossRows$Page;I)I" } : Jvm.MethodName) ∈ kq_W := kq_of 717 (by decide +kernel) rfl
theorem kq_718 : Jvm.Cond.code ({ cls := "GlossRows$Layout", name := "beginInFree", desc := "(LGlossRows$Page;I)I" } : Jvm.MethodName) prog_3_method_11_code (3 : Nat) (Option.some Jvm.ClassFile.FieldType.int) ∈ kq_W := kq_of 718 (by decide +kernel) rfl
theorem kq_719 : Jvm.Cond.methodLink "GlossRows" (219 : Nat) ({ cls := "GlossRows$Layout", name := "sentenceOfRow", desc := "(LGlossRows$Page;I)I" } : Jvm.MethodName) ∈ kq_W := kq_of 719 (by decide +kernel) rfl
theorem kq_720 : Jvm.Cond.instanceMethod ({ cls := "GlossRows$Layout", name := "sentenceOfRow", desc := "(LGlossRows$Page;I)I" } : Jvm.MethodName) ∈ kq_W := kq_of 720 (by decide +kernel) rfl
theorem kq_721 : Jvm.Cond.selects "GlossRows$Layout" ({ cls := "GlossRows$Layout", name := "sentenceOfRow", desc := "(LGlossRows$Page;I)I" } : Jvm.MethodName) ({ cls := "GlossRows$Layout", name := "sentenceOfRow", desc := "(LGlossRows$Page;I)I" } : Jvm.MethodName) ∈ kq_W := kq_of 721 (by decide +kernel) rfl
theorem kq_722 : Jvm.Cond.code ({ cls := "GlossRows$Layout", name := "sentenceOfRow", desc := "(LGlossRows$Page;I)I" } : Jvm.MethodName) prog_3_method_9_code (3 : Nat) (Option.some Jvm.ClassFile.FieldType.int) ∈ kq_W := kq_of 722 (by decide +kernel) rfl
theorem kq_724 : Jvm.Cond.methodLink "GlossRowsLaw" (163 : Nat) ({ cls := "GlossRowsLaw", name := "at", desc := "(LGlossRows;II)J" } : Jvm.MethodName) ∈ kq_W := kq_of 724 (by decide +kernel) rfl
theorem kq_725 : Jvm.Cond.static ({ cls := "GlossRowsLaw", name := "at", desc := "(LGlossRows;II)J" } : Jvm.MethodName) ∈ kq_W := kq_of 725 (by decide +kernel) rfl
theorem kq_727 : Jvm.Cond.methodLink "GlossRowsLaw" (53 : Nat) ({ cls := "GlossRows", name := "at", desc := "(II)I" } : Jvm.MethodName) ∈ kq_W := kq_of 727 (by decide +kernel) rfl
theorem kq_728 : Jvm.Cond.instanceMethod ({ cls := "GlossRows", name := "at", desc := "(II)I" } : Jvm.MethodName) ∈ kq_W := kq_of 728 (by decide +kernel) rfl
theorem kq_729 : Jvm.Cond.selects "GlossRows" ({ cls := "GlossRows", name := "at", desc := "(II)I" } : Jvm.MethodName) ({ cls := "GlossRows", name := "at", desc := "(II)I" } : Jvm.MethodName) ∈ kq_W := kq_of 729 (by decide +kernel) rfl
theorem kq_730 : Jvm.Cond.code ({ cls := "GlossRows", name := "at", desc := "(II)I" } : Jvm.MethodName) prog_1_method_12_code (3 : Nat) (Option.some Jvm.ClassFile.FieldType.int) ∈ kq_W := kq_of 730 (by decide +kernel) rfl
theorem kq_731 : Jvm.Cond.methodLink "GlossRows" (224 : Nat) ({ cls := "GlossRows$Layout", name := "codeInRow", desc := "(LGlossRows$Page;II)I" } : Jvm.MethodName) ∈ kq_W := kq_of 731 (by decide +kernel) rfl
theorem kq_732 : Jvm.Cond.instanceMethod ({ cls := "GlossRows$Layout", name := "codeInRow", desc := "(LGlossRows$Page;II)I" } : Jvm.MethodName) ∈ kq_W := kq_of 732 (by decide +kernel) rfl
theorem kq_733 : Jvm.Cond.selects "GlossRows$Layout" ({ cls := "GlossRows$Layout", name := "codeInRow", desc := "(LGlossRows$Page;II)I" } : Jvm.MethodName) ({ cls := "GlossRows$Layout", name := "codeInRow", desc := "(LGlossRows$Page;II)I" } : Jvm.MethodName) ∈ kq_W := kq_of 733 (by decide +kernel) rfl
theorem kq_734 : Jvm.Cond.code ({ cls := "GlossRows$Layout", name := "codeInRow", desc := "(LGlossRows$Page;II)I" } : Jvm.MethodName) prog_3_method_10_code (7 : Nat) (Option.some Jvm.ClassFile.FieldType.int) ∈ kq_W := kq_of 734 (by decide +kernel) rfl
theorem kq_735 : Jvm.Cond.methodLink "GlossRows$Layout" (83 : Nat) ({ cls := "GlossRows$Layout", name := "lengthOfRow", desc := "(LGlossRows$Page;I)I" } : Jvm.MethodName) ∈ kq_W := kq_of 735 (by decide +kernel) rfl
theorem kq_736 : Jvm.Cond.methodLink "GlossRows$Layout" (86 : Nat) ({ cls := "GlossRows$Word", name := "codeOfFree", desc := "(I)I" } : Jvm.MethodName) ∈ kq_W := kq_of 736 (by decide +kernel) rfl
theorem kq_737 : Jvm.Cond.instanceMethod ({ cls := "GlossRows$Word", name := "codeOfFree", desc := "(I)I" } : Jvm.MethodName) ∈ kq_W := kq_of 737 (by decide +kernel) rfl
theorem kq_738 : Jvm.Cond.selects "GlossRows$Word" ({ cls := "GlossRows$Word", name := "codeOfFree", desc := "(I)I" } : Jvm.MethodName) ({ cls := "GlossRows$Word", name := "codeOfFree", desc := "(I)I" } : Jvm.MethodName) ∈ kq_W := kq_of 738 (by decide +kernel) rfl
theorem kq_739 : Jvm.Cond.code ({ cls := "GlossRows$Word", name := "codeOfFree", desc := "(I)I" } : Jvm.MethodName) prog_9_method_11_code (2 : Nat) (Option.some Jvm.ClassFile.FieldType.int) ∈ kq_W := kq_of 739 (by decide +kernel) rfl
theorem kq_740 : Jvm.Cond.methodLink "GlossRows$Layout" (92 : Nat) ({ cls := "GlossRows$Word", name := "codeShown", desc := "(III)I" } : Jvm.MethodName) ∈ kq_W := kq_of 740 (by decide +kernel) rfl
theorem kq_741 : Jvm.Cond.instanceMethod ({ cls := "GlossRows$Word", name := "codeShown", desc := "(III)I" } : Jvm.MethodName) ∈ kq_W := kq_of 741 (by decide +kernel) rfl
theorem kq_742 : Jvm.Cond.selects "GlossRows$Word" ({ cls := "GlossRows$Word", name := "codeShown", desc := "(III)I" } : Jvm.MethodName) ({ cls := "GlossRows$Word", name := "codeShown", desc := "(III)I" } : Jvm.MethodName) ∈ kq_W := kq_of 742 (by decide +kernel) rfl
theorem kq_743 : Jvm.Cond.code ({ cls := "GlossRows$Word", name := "codeShown", desc := "(III)I" } : Jvm.MethodName) prog_9_method_10_code (9 : Nat) (Option.some Jvm.ClassFile.FieldType.int) ∈ kq_W := kq_of 743 (by decide +kernel) rfl
theorem kq_744 : Jvm.Cond.methodLink "GlossRows$Word" (65 : Nat) ({ cls := "GlossRows$Letters", name := "code", desc := "(JI)I" } : Jvm.MethodName) ∈ kq_W := kq_of 744 (by decide +kernel) rfl
theorem kq_745 : Jvm.Cond.constantLong "GlossRowsLaw" (165 : Nat) (10000 : Int64) ∈ kq_W := kq_of 745 (by decide +kernel) rfl
theorem kq_746 : Jvm.Cond.methodLink "GlossRowsLaw" (167 : Nat) ({ cls := "GlossRowsLaw", name := "script", desc := "(LGlossRows;IJ)J" } : Jvm.MethodName) ∈ kq_W := kq_of 746 (by decide +kernel) rfl
theorem kq_747 : Jvm.Cond.static ({ cls := "GlossRowsLaw", name := "script", desc := "(LGlossRows;IJ)J" } : Jvm.MethodName) ∈ kq_W := kq_of 747 (by decide +kernel) rfl
theorem kq_749 : Jvm.Cond.methodLink "GlossRowsLaw" (95 : Nat) ({ cls := "GlossRows", name := "runScript", desc := "(IJ)I" } : Jvm.MethodName) ∈ kq_W := kq_of 749 (by decide +kernel) rfl
theorem kq_750 : Jvm.Cond.instanceMethod ({ cls := "GlossRows", name := "runScript", desc := "(IJ)I" } : Jvm.MethodName) ∈ kq_W := kq_of 750 (by decide +kernel) rfl
theorem kq_751 : Jvm.Cond.selects "GlossRows" ({ cls := "GlossRows", name := "runScript", desc := "(IJ)I" } : Jvm.MethodName) ({ cls := "GlossRows", name := "runScript", desc := "(IJ)I" } : Jvm.MethodName) ∈ kq_W := kq_of 751 (by decide +kernel) rfl
theorem kq_752 : Jvm.Cond.code ({ cls := "GlossRows", name := "runScript", desc := "(IJ)I" } : Jvm.MethodName) prog_1_method_29_code (5 : Nat) (Option.some Jvm.ClassFile.FieldType.int) ∈ kq_W := kq_of 752 (by decide +kernel) rfl
theorem kq_754 : Jvm.Cond.methodLink "GlossRows" (317 : Nat) ({ cls := "GlossRows", name := "withoutLowest", desc := "(JI)J" } : Jvm.MethodName) ∈ kq_W := kq_of 754 (by decide +kernel) rfl
theorem kq_755 : Jvm.Cond.static ({ cls := "GlossRows", name := "withoutLowest", desc := "(JI)J" } : Jvm.MethodName) ∈ kq_W := kq_of 755 (by decide +kernel) rfl
theorem kq_756 : Jvm.Cond.code ({ cls := "GlossRows", name := "withoutLowest", desc := "(JI)J" } : Jvm.MethodName) prog_1_method_40_code (6 : Nat) (Option.some Jvm.ClassFile.FieldType.long) ∈ kq_W := kq_of 756 (by decide +kernel) rfl
theorem kq_757 : Jvm.Cond.constantLong "GlossRows" (326 : Nat) (10000 : Int64) ∈ kq_W := kq_of 757 (by decide +kernel) rfl
theorem kq_759 : Jvm.Cond.methodLink "GlossRows" (328 : Nat) ({ cls := "GlossRows", name := "succeeds", desc := "(I)Z" } : Jvm.MethodName) ∈ kq_W := kq_of 759 (by decide +kernel) rfl
theorem kq_761 : Jvm.Cond.instanceMethod ({ cls := "GlossRows", name := "succeeds", desc := "(I)Z" } : Jvm.MethodName) ∈ kq_W := kq_of 761 (by decide +kernel) rfl
theorem kq_762 : Jvm.Cond.code ({ cls := "GlossRows", name := "succeeds", desc := "(I)Z" } : Jvm.MethodName) prog_1_method_41_code (5 : Nat) (Option.some Jvm.ClassFile.FieldType.boolean) ∈ kq_W := kq_of 762 (by decide +kernel) rfl
theorem kq_763 : Jvm.Cond.methodLink "GlossRows" (364 : Nat) ({ cls := "GlossRows", name := "learnsOnTrial", desc := "(II)Z" } : Jvm.MethodName) ∈ kq_W := kq_of 763 (by decide +kernel) rfl
theorem kq_765 : Jvm.Cond.instanceMethod ({ cls := "GlossRows", name := "learnsOnTrial", desc := "(II)Z" } : Jvm.MethodName) ∈ kq_W := kq_of 765 (by decide +kernel) rfl
theorem kq_766 : Jvm.Cond.code ({ cls := "GlossRows", name := "learnsOnTrial", desc := "(II)Z" } : Jvm.MethodName) prog_1_method_44_code (3 : Nat) (Option.some Jvm.ClassFile.FieldType.boolean) ∈ kq_W := kq_of 766 (by decide +kernel) rfl
theorem kq_767 : Jvm.Cond.methodLink "GlossRows" (275 : Nat) ({ cls := "GlossRows$Page", name := "canLearn", desc := "(II)Z" } : Jvm.MethodName) ∈ kq_W := kq_of 767 (by decide +kernel) rfl
theorem kq_768 : Jvm.Cond.instanceMethod ({ cls := "GlossRows$Page", name := "canLearn", desc := "(II)Z" } : Jvm.MethodName) ∈ kq_W := kq_of 768 (by decide +kernel) rfl
theorem kq_769 : Jvm.Cond.selects "GlossRows$Page" ({ cls := "GlossRows$Page", name := "canLearn", desc := "(II)Z" } : Jvm.MethodName) ({ cls := "GlossRows$Page", name := "canLearn", desc := "(II)Z" } : Jvm.MethodName) ∈ kq_W := kq_of 769 (by decide +kernel) rfl
theorem kq_770 : Jvm.Cond.code ({ cls := "GlossRows$Page", name := "canLearn", desc := "(II)Z" } : Jvm.MethodName) prog_6_method_10_code (3 : Nat) (Option.some Jvm.ClassFile.FieldType.boolean) ∈ kq_W := kq_of 770 (by decide +kernel) rfl
theorem kq_771 : Jvm.Cond.methodLink "GlossRows$Page" (60 : Nat) ({ cls := "GlossRows$Page", name := "hasPart", desc := "(II)Z" } : Jvm.MethodName) ∈ kq_W := kq_of 771 (by decide +kernel) rfl
theorem kq_772 : Jvm.Cond.methodLink "GlossRows$Page" (71 : Nat) ({ cls := "GlossRows$Lexicon", name := "canTake", desc := "(J)Z" } : Jvm.MethodName) ∈ kq_W := kq_of 772 (by decide +kernel) rfl
theorem kq_773 : Jvm.Cond.instanceMethod ({ cls := "GlossRows$Lexicon", name := "canTake", desc := "(J)Z" } : Jvm.MethodName) ∈ kq_W := kq_of 773 (by decide +kernel) rfl
theorem kq_774 : Jvm.Cond.selects "GlossRows$Lexicon" ({ cls := "GlossRows$Lexicon", name := "canTake", desc := "(J)Z" } : Jvm.MethodName) ({ cls := "GlossRows$Lexicon", name := "canTake", desc := "(J)Z" } : Jvm.MethodName) ∈ kq_W := kq_of 774 (by decide +kernel) rfl
theorem kq_775 : Jvm.Cond.code ({ cls := "GlossRows$Lexicon", name := "canTake", desc := "(J)Z" } : Jvm.MethodName) prog_5_method_4_code (3 : Nat) (Option.some Jvm.ClassFile.FieldType.boolean) ∈ kq_W := kq_of 775 (by decide +kernel) rfl
theorem kq_776 : Jvm.Cond.methodLink "GlossRows$Lexicon" (22 : Nat) ({ cls := "GlossRows$Lexicon", name := "find", desc := "(J)I" } : Jvm.MethodName) ∈ kq_W := kq_of 776 (by decide +kernel) rfl
theorem kq_777 : Jvm.Cond.methodLink "GlossRows" (280 : Nat) ({ cls := "GlossRows$Page", name := "learnPart", desc := "(II)V" } : Jvm.MethodName) ∈ kq_W := kq_of 777 (by decide +kernel) rfl
theorem kq_778 : Jvm.Cond.instanceMethod ({ cls := "GlossRows$Page", name := "learnPart", desc := "(II)V" } : Jvm.MethodName) ∈ kq_W := kq_of 778 (by decide +kernel) rfl
theorem kq_779 : Jvm.Cond.selects "GlossRows$Page" ({ cls := "GlossRows$Page", name := "learnPart", desc := "(II)V" } : Jvm.MethodName) ({ cls := "GlossRows$Page", name := "learnPart", desc := "(II)V" } : Jvm.MethodName) ∈ kq_W := kq_of 779 (by decide +kernel) rfl
theorem kq_780 : Jvm.Cond.code ({ cls := "GlossRows$Page", name := "learnPart", desc := "(II)V" } : Jvm.MethodName) prog_6_method_11_code (3 : Nat) (Option.none : Option Jvm.ClassFile.FieldType) ∈ kq_W := kq_of 780 (by decide +kernel) rfl
theorem kq_781 : Jvm.Cond.methodLink "GlossRows$Page" (75 : Nat) ({ cls := "GlossRows$Page", name := "canLearn", desc := "(II)Z" } : Jvm.MethodName) ∈ kq_W := kq_of 781 (by decide +kernel) rfl
theorem kq_782 : Jvm.Cond.methodLink "GlossRows$Page" (78 : Nat) ({ cls := "GlossRows$Lexicon", name := "take", desc := "(JJ)V" } : Jvm.MethodName) ∈ kq_W := kq_of 782 (by decide +kernel) rfl
theorem kq_783 : Jvm.Cond.instanceMethod ({ cls := "GlossRows$Lexicon", name := "take", desc := "(JJ)V" } : Jvm.MethodName) ∈ kq_W := kq_of 783 (by decide +kernel) rfl
theorem kq_784 : Jvm.Cond.selects "GlossRows$Lexicon" ({ cls := "GlossRows$Lexicon", name := "take", desc := "(JJ)V" } : Jvm.MethodName) ({ cls := "GlossRows$Lexicon", name := "take", desc := "(JJ)V" } : Jvm.MethodName) ∈ kq_W := kq_of 784 (by decide +kernel) rfl
theorem kq_785 : Jvm.Cond.code ({ cls := "GlossRows$Lexicon", name := "take", desc := "(JJ)V" } : Jvm.MethodName) prog_5_method_5_code (6 : Nat) (Option.none : Option Jvm.ClassFile.FieldType) ∈ kq_W := kq_of 785 (by decide +kernel) rfl
theorem kq_786 : Jvm.Cond.methodLink "GlossRows$Lexicon" (26 : Nat) ({ cls := "GlossRows$Lexicon", name := "makePlaceFor", desc := "(J)I" } : Jvm.MethodName) ∈ kq_W := kq_of 786 (by decide +kernel) rfl
theorem kq_788 : Jvm.Cond.instanceMethod ({ cls := "GlossRows$Lexicon", name := "makePlaceFor", desc := "(J)I" } : Jvm.MethodName) ∈ kq_W := kq_of 788 (by decide +kernel) rfl
theorem kq_789 : Jvm.Cond.code ({ cls := "GlossRows$Lexicon", name := "makePlaceFor", desc := "(J)I" } : Jvm.MethodName) prog_5_method_6_code (4 : Nat) (Option.some Jvm.ClassFile.FieldType.int) ∈ kq_W := kq_of 789 (by decide +kernel) rfl
theorem kq_790 : Jvm.Cond.methodLink "GlossRows" (367 : Nat) ({ cls := "GlossRows", name := "setsOnTrial", desc := "(II)Z" } : Jvm.MethodName) ∈ kq_W := kq_of 790 (by decide +kernel) rfl
theorem kq_792 : Jvm.Cond.instanceMethod ({ cls := "GlossRows", name := "setsOnTrial", desc := "(II)Z" } : Jvm.MethodName) ∈ kq_W := kq_of 792 (by decide +kernel) rfl
theorem kq_793 : Jvm.Cond.code ({ cls := "GlossRows", name := "setsOnTrial", desc := "(II)Z" } : Jvm.MethodName) prog_1_method_42_code (3 : Nat) (Option.some Jvm.ClassFile.FieldType.boolean) ∈ kq_W := kq_of 793 (by decide +kernel) rfl
theorem kq_794 : Jvm.Cond.methodLink "GlossRows" (271 : Nat) ({ cls := "GlossRows$Page", name := "change", desc := "(II)I" } : Jvm.MethodName) ∈ kq_W := kq_of 794 (by decide +kernel) rfl
theorem kq_795 : Jvm.Cond.instanceMethod ({ cls := "GlossRows$Page", name := "change", desc := "(II)I" } : Jvm.MethodName) ∈ kq_W := kq_of 795 (by decide +kernel) rfl
theorem kq_796 : Jvm.Cond.selects "GlossRows$Page" ({ cls := "GlossRows$Page", name := "change", desc := "(II)I" } : Jvm.MethodName) ({ cls := "GlossRows$Page", name := "change", desc := "(II)I" } : Jvm.MethodName) ∈ kq_W := kq_of 796 (by decide +kernel) rfl
theorem kq_797 : Jvm.Cond.code ({ cls := "GlossRows$Page", name := "change", desc := "(II)I" } : Jvm.MethodName) prog_6_method_9_code (4 : Nat) (Option.some Jvm.ClassFile.FieldType.int) ∈ kq_W := kq_of 797 (by decide +kernel) rfl
theorem kq_798 : Jvm.Cond.methodLink "GlossRows" (370 : Nat) ({ cls := "GlossRows", name := "changesWordOfTrial", desc := "(II)Z" } : Jvm.MethodName) ∈ kq_W := kq_of 798 (by decide +kernel) rfl
theorem kq_800 : Jvm.Cond.instanceMethod ({ cls := "GlossRows", name := "changesWordOfTrial", desc := "(II)Z" } : Jvm.MethodName) ∈ kq_W := kq_of 800 (by decide +kernel) rfl
theorem kq_801 : Jvm.Cond.code ({ cls := "GlossRows", name := "changesWordOfTrial", desc := "(II)Z" } : Jvm.MethodName) prog_1_method_43_code (3 : Nat) (Option.some Jvm.ClassFile.FieldType.boolean) ∈ kq_W := kq_of 801 (by decide +kernel) rfl
theorem kq_802 : Jvm.Cond.methodLink "GlossRows" (243 : Nat) ({ cls := "GlossRows$Word", name := "dropEnd", desc := "()V" } : Jvm.MethodName) ∈ kq_W := kq_of 802 (by decide +kernel) rfl
theorem kq_803 : Jvm.Cond.instanceMethod ({ cls := "GlossRows$Word", name := "dropEnd", desc := "()V" } : Jvm.MethodName) ∈ kq_W := kq_of 803 (by decide +kernel) rfl
theorem kq_804 : Jvm.Cond.selects "GlossRows$Word" ({ cls := "GlossRows$Word", name := "dropEnd", desc := "()V" } : Jvm.MethodName) ({ cls := "GlossRows$Word", name := "dropEnd", desc := "()V" } : Jvm.MethodName) ∈ kq_W := kq_of 804 (by decide +kernel) rfl
theorem kq_805 : Jvm.Cond.code ({ cls := "GlossRows$Word", name := "dropEnd", desc := "()V" } : Jvm.MethodName) prog_9_method_5_code (1 : Nat) (Option.none : Option Jvm.ClassFile.FieldType) ∈ kq_W := kq_of 805 (by decide +kernel) rfl
theorem kq_806 : Jvm.Cond.methodLink "GlossRows" (240 : Nat) ({ cls := "GlossRows$Page", name := "dropWord", desc := "(I)V" } : Jvm.MethodName) ∈ kq_W := kq_of 806 (by decide +kernel) rfl
theorem kq_807 : Jvm.Cond.instanceMethod ({ cls := "GlossRows$Page", name := "dropWord", desc := "(I)V" } : Jvm.MethodName) ∈ kq_W := kq_of 807 (by decide +kernel) rfl
theorem kq_808 : Jvm.Cond.selects "GlossRows$Page" ({ cls := "GlossRows$Page", name := "dropWord", desc := "(I)V" } : Jvm.MethodName) ({ cls := "GlossRows$Page", name := "dropWord", desc := "(I)V" } : Jvm.MethodName) ∈ kq_W := kq_of 808 (by decide +kernel) rfl
theorem kq_809 : Jvm.Cond.code ({ cls := "GlossRows$Page", name := "dropWord", desc := "(I)V" } : Jvm.MethodName) prog_6_method_7_code (3 : Nat) (Option.none : Option Jvm.ClassFile.FieldType) ∈ kq_W := kq_of 809 (by decide +kernel) rfl
theorem kq_810 : Jvm.Cond.methodLink "GlossRows" (373 : Nat) ({ cls := "GlossRows", name := "fillsTrial", desc := "()Z" } : Jvm.MethodName) ∈ kq_W := kq_of 810 (by decide +kernel) rfl
theorem kq_812 : Jvm.Cond.instanceMethod ({ cls := "GlossRows", name := "fillsTrial", desc := "()Z" } : Jvm.MethodName) ∈ kq_W := kq_of 812 (by decide +kernel) rfl
theorem kq_813 : Jvm.Cond.code ({ cls := "GlossRows", name := "fillsTrial", desc := "()Z" } : Jvm.MethodName) prog_1_method_45_code (1 : Nat) (Option.some Jvm.ClassFile.FieldType.boolean) ∈ kq_W := kq_of 813 (by decide +kernel) rfl
theorem kq_814 : Jvm.Cond.methodLink "GlossRows" (286 : Nat) ({ cls := "GlossRows$Page", name := "fill", desc := "()I" } : Jvm.MethodName) ∈ kq_W := kq_of 814 (by decide +kernel) rfl
theorem kq_815 : Jvm.Cond.instanceMethod ({ cls := "GlossRows$Page", name := "fill", desc := "()I" } : Jvm.MethodName) ∈ kq_W := kq_of 815 (by decide +kernel) rfl
theorem kq_816 : Jvm.Cond.selects "GlossRows$Page" ({ cls := "GlossRows$Page", name := "fill", desc := "()I" } : Jvm.MethodName) ({ cls := "GlossRows$Page", name := "fill", desc := "()I" } : Jvm.MethodName) ∈ kq_W := kq_of 816 (by decide +kernel) rfl
theorem kq_817 : Jvm.Cond.code ({ cls := "GlossRows$Page", name := "fill", desc := "()I" } : Jvm.MethodName) prog_6_method_12_code (5 : Nat) (Option.some Jvm.ClassFile.FieldType.int) ∈ kq_W := kq_of 817 (by decide +kernel) rfl
theorem kq_818 : Jvm.Cond.methodLink "GlossRowsLaw" (171 : Nat) ({ cls := "GlossRowsLaw", name := "simulate", desc := "(LGlossRows;JI)J" } : Jvm.MethodName) ∈ kq_W := kq_of 818 (by decide +kernel) rfl
theorem kq_819 : Jvm.Cond.static ({ cls := "GlossRowsLaw", name := "simulate", desc := "(LGlossRows;JI)J" } : Jvm.MethodName) ∈ kq_W := kq_of 819 (by decide +kernel) rfl
theorem kq_821 : Jvm.Cond.methodLink "GlossRowsLaw" (99 : Nat) ({ cls := "GlossRows", name := "simulate", desc := "(JI)I" } : Jvm.MethodName) ∈ kq_W := kq_of 821 (by decide +kernel) rfl
theorem kq_822 : Jvm.Cond.instanceMethod ({ cls := "GlossRows", name := "simulate", desc := "(JI)I" } : Jvm.MethodName) ∈ kq_W := kq_of 822 (by decide +kernel) rfl
theorem kq_823 : Jvm.Cond.selects "GlossRows" ({ cls := "GlossRows", name := "simulate", desc := "(JI)I" } : Jvm.MethodName) ({ cls := "GlossRows", name := "simulate", desc := "(JI)I" } : Jvm.MethodName) ∈ kq_W := kq_of 823 (by decide +kernel) rfl
theorem kq_824 : Jvm.Cond.code ({ cls := "GlossRows", name := "simulate", desc := "(JI)I" } : Jvm.MethodName) prog_1_method_30_code (8 : Nat) (Option.some Jvm.ClassFile.FieldType.int) ∈ kq_W := kq_of 824 (by decide +kernel) rfl
theorem kq_826 : Jvm.Cond.constantLong "GlossRows" (334 : Nat) (6364136223846793005 : Int64) ∈ kq_W := kq_of 826 (by decide +kernel) rfl
theorem kq_827 : Jvm.Cond.constantLong "GlossRows" (336 : Nat) (1442695040888963407 : Int64) ∈ kq_W := kq_of 827 (by decide +kernel) rfl
theorem kq_828 : Jvm.Cond.methodLink "GlossRows" (338 : Nat) ({ cls := "GlossRows", name := "playRound", desc := "(I)V" } : Jvm.MethodName) ∈ kq_W := kq_of 828 (by decide +kernel) rfl
theorem kq_830 : Jvm.Cond.instanceMethod ({ cls := "GlossRows", name := "playRound", desc := "(I)V" } : Jvm.MethodName) ∈ kq_W := kq_of 830 (by decide +kernel) rfl
theorem kq_831 : Jvm.Cond.code ({ cls := "GlossRows", name := "playRound", desc := "(I)V" } : Jvm.MethodName) prog_1_method_46_code (3 : Nat) (Option.none : Option Jvm.ClassFile.FieldType) ∈ kq_W := kq_of 831 (by decide +kernel) rfl
theorem kq_832 : Jvm.Cond.methodLink "GlossRows" (376 : Nat) ({ cls := "GlossRows$Word", name := "turnEnd", desc := "()V" } : Jvm.MethodName) ∈ kq_W := kq_of 832 (by decide +kernel) rfl
theorem kq_833 : Jvm.Cond.instanceMethod ({ cls := "GlossRows$Word", name := "turnEnd", desc := "()V" } : Jvm.MethodName) ∈ kq_W := kq_of 833 (by decide +kernel) rfl
theorem kq_834 : Jvm.Cond.selects "GlossRows$Word" ({ cls := "GlossRows$Word", name := "turnEnd", desc := "()V" } : Jvm.MethodName) ({ cls := "GlossRows$Word", name := "turnEnd", desc := "()V" } : Jvm.MethodName) ∈ kq_W := kq_of 834 (by decide +kernel) rfl
theorem kq_835 : Jvm.Cond.code ({ cls := "GlossRows$Word", name := "turnEnd", desc := "()V" } : Jvm.MethodName) prog_9_method_6_code (1 : Nat) (Option.none : Option Jvm.ClassFile.FieldType) ∈ kq_W := kq_of 835 (by decide +kernel) rfl
theorem kq_836 : Jvm.Cond.methodLink "GlossRows$Word" (36 : Nat) ({ cls := "GlossRows$Word", name := "dropEnd", desc := "()V" } : Jvm.MethodName) ∈ kq_W := kq_of 836 (by decide +kernel) rfl
theorem kq_837 : Jvm.Cond.methodLink "GlossRowsLaw" (239 : Nat) ({ cls := "GlossRowsLaw", name := "errors", desc := "(LGlossRows;)Z" } : Jvm.MethodName) ∈ kq_W := kq_of 837 (by decide +kernel) rfl
theorem kq_838 : Jvm.Cond.static ({ cls := "GlossRowsLaw", name := "errors", desc := "(LGlossRows;)Z" } : Jvm.MethodName) ∈ kq_W := kq_of 838 (by decide +kernel) rfl
set_option maxRecDepth 100000 in
theorem kq_839 : Jvm.Cond.code ({ cls := "GlossRowsLaw", name := "errors", desc := "(LGlossRows;)Z" } : Jvm.MethodName) method_33_code (10 : Nat) (Option.some Jvm.ClassFile.FieldType.boolean) ∈ kq_W := List.mem_filter.mpr ⟨List.mem_append_right _ (List.mem_append_right _ (List.mem_append_right _ (List.mem_append_right _ (List.mem_append_left _ (List.mem_of_getElem? (l := tables_1_4) (i := 119) rfl))))), rfl⟩
theorem kq_840 : Jvm.Cond.methodLink "GlossRowsLaw" (174 : Nat) ({ cls := "GlossRowsLaw", name := "append", desc := "(LGlossRows;I)J" } : Jvm.MethodName) ∈ kq_W := kq_of 840 (by decide +kernel) rfl
theorem kq_841 : Jvm.Cond.static ({ cls := "GlossRowsLaw", name := "append", desc := "(LGlossRows;I)J" } : Jvm.MethodName) ∈ kq_W := kq_of 841 (by decide +kernel) rfl
theorem kq_843 : Jvm.Cond.methodLink "GlossRowsLaw" (9 : Nat) ({ cls := "GlossRows", name := "append", desc := "(I)I" } : Jvm.MethodName) ∈ kq_W := kq_of 843 (by decide +kernel) rfl
theorem kq_844 : Jvm.Cond.instanceMethod ({ cls := "GlossRows", name := "append", desc := "(I)I" } : Jvm.MethodName) ∈ kq_W := kq_of 844 (by decide +kernel) rfl
theorem kq_845 : Jvm.Cond.selects "GlossRows" ({ cls := "GlossRows", name := "append", desc := "(I)I" } : Jvm.MethodName) ({ cls := "GlossRows", name := "append", desc := "(I)I" } : Jvm.MethodName) ∈ kq_W := kq_of 845 (by decide +kernel) rfl
theorem kq_846 : Jvm.Cond.code ({ cls := "GlossRows", name := "append", desc := "(I)I" } : Jvm.MethodName) prog_1_method_2_code (2 : Nat) (Option.some Jvm.ClassFile.FieldType.int) ∈ kq_W := kq_of 846 (by decide +kernel) rfl
theorem kq_849 : Jvm.Cond.methodLink "GlossRows" (71 : Nat) ({ cls := "GlossRows$Text", name := "add", desc := "(I)V" } : Jvm.MethodName) ∈ kq_W := kq_of 849 (by decide +kernel) rfl
theorem kq_850 : Jvm.Cond.instanceMethod ({ cls := "GlossRows$Text", name := "add", desc := "(I)V" } : Jvm.MethodName) ∈ kq_W := kq_of 850 (by decide +kernel) rfl
theorem kq_851 : Jvm.Cond.selects "GlossRows$Text" ({ cls := "GlossRows$Text", name := "add", desc := "(I)V" } : Jvm.MethodName) ({ cls := "GlossRows$Text", name := "add", desc := "(I)V" } : Jvm.MethodName) ∈ kq_W := kq_of 851 (by decide +kernel) rfl
theorem kq_852 : Jvm.Cond.code ({ cls := "GlossRows$Text", name := "add", desc := "(I)V" } : Jvm.MethodName) prog_8_method_2_code (2 : Nat) (Option.none : Option Jvm.ClassFile.FieldType) ∈ kq_W := kq_of 852 (by decide +kernel) rfl
theorem kq_853 : Jvm.Cond.methodLink "GlossRowsLaw" (176 : Nat) ({ cls := "GlossRowsLaw", name := "insert", desc := "(LGlossRows;I)J" } : Jvm.MethodName) ∈ kq_W := kq_of 853 (by decide +kernel) rfl
theorem kq_854 : Jvm.Cond.static ({ cls := "GlossRowsLaw", name := "insert", desc := "(LGlossRows;I)J" } : Jvm.MethodName) ∈ kq_W := kq_of 854 (by decide +kernel) rfl
theorem kq_856 : Jvm.Cond.methodLink "GlossRowsLaw" (56 : Nat) ({ cls := "GlossRows", name := "insert", desc := "(I)I" } : Jvm.MethodName) ∈ kq_W := kq_of 856 (by decide +kernel) rfl
theorem kq_857 : Jvm.Cond.instanceMethod ({ cls := "GlossRows", name := "insert", desc := "(I)I" } : Jvm.MethodName) ∈ kq_W := kq_of 857 (by decide +kernel) rfl
theorem kq_858 : Jvm.Cond.selects "GlossRows" ({ cls := "GlossRows", name := "insert", desc := "(I)I" } : Jvm.MethodName) ({ cls := "GlossRows", name := "insert", desc := "(I)I" } : Jvm.MethodName) ∈ kq_W := kq_of 858 (by decide +kernel) rfl
theorem kq_859 : Jvm.Cond.code ({ cls := "GlossRows", name := "insert", desc := "(I)I" } : Jvm.MethodName) prog_1_method_13_code (2 : Nat) (Option.some Jvm.ClassFile.FieldType.int) ∈ kq_W := kq_of 859 (by decide +kernel) rfl
theorem kq_862 : Jvm.Cond.methodLink "GlossRows" (236 : Nat) ({ cls := "GlossRows$History", name := "remember", desc := "(LGlossRows$Page;)V" } : Jvm.MethodName) ∈ kq_W := kq_of 862 (by decide +kernel) rfl
theorem kq_863 : Jvm.Cond.instanceMethod ({ cls := "GlossRows$History", name := "remember", desc := "(LGlossRows$Page;)V" } : Jvm.MethodName) ∈ kq_W := kq_of 863 (by decide +kernel) rfl
theorem kq_864 : Jvm.Cond.selects "GlossRows$History" ({ cls := "GlossRows$History", name := "remember", desc := "(LGlossRows$Page;)V" } : Jvm.MethodName) ({ cls := "GlossRows$History", name := "remember", desc := "(LGlossRows$Page;)V" } : Jvm.MethodName) ∈ kq_W := kq_of 864 (by decide +kernel) rfl
theorem kq_865 : Jvm.Cond.code ({ cls := "GlossRows$History", name := "remember", desc := "(LGlossRows$Page;)V" } : Jvm.MethodName) prog_2_method_3_code (2 : Nat) (Option.none : Option Jvm.ClassFile.FieldType) ∈ kq_W := kq_of 865 (by decide +kernel) rfl
theorem kq_866 : Jvm.Cond.methodLink "GlossRows$History" (25 : Nat) ({ cls := "GlossRows$Page", name := "copyFrom", desc := "(LGlossRows$Page;)V" } : Jvm.MethodName) ∈ kq_W := kq_of 866 (by decide +kernel) rfl
theorem kq_867 : Jvm.Cond.methodLink "GlossRowsLaw" (178 : Nat) ({ cls := "GlossRowsLaw", name := "remove", desc := "(LGlossRows;I)J" } : Jvm.MethodName) ∈ kq_W := kq_of 867 (by decide +kernel) rfl
theorem kq_868 : Jvm.Cond.static ({ cls := "GlossRowsLaw", name := "remove", desc := "(LGlossRows;I)J" } : Jvm.MethodName) ∈ kq_W := kq_of 868 (by decide +kernel) rfl
theorem kq_870 : Jvm.Cond.methodLink "GlossRowsLaw" (59 : Nat) ({ cls := "GlossRows", name := "remove", desc := "(I)I" } : Jvm.MethodName) ∈ kq_W := kq_of 870 (by decide +kernel) rfl
theorem kq_871 : Jvm.Cond.instanceMethod ({ cls := "GlossRows", name := "remove", desc := "(I)I" } : Jvm.MethodName) ∈ kq_W := kq_of 871 (by decide +kernel) rfl
theorem kq_872 : Jvm.Cond.selects "GlossRows" ({ cls := "GlossRows", name := "remove", desc := "(I)I" } : Jvm.MethodName) ({ cls := "GlossRows", name := "remove", desc := "(I)I" } : Jvm.MethodName) ∈ kq_W := kq_of 872 (by decide +kernel) rfl
theorem kq_873 : Jvm.Cond.code ({ cls := "GlossRows", name := "remove", desc := "(I)I" } : Jvm.MethodName) prog_1_method_14_code (2 : Nat) (Option.some Jvm.ClassFile.FieldType.int) ∈ kq_W := kq_of 873 (by decide +kernel) rfl
theorem kq_874 : Jvm.Cond.methodLink "GlossRowsLaw" (180 : Nat) ({ cls := "GlossRowsLaw", name := "end", desc := "(LGlossRows;I)J" } : Jvm.MethodName) ∈ kq_W := kq_of 874 (by decide +kernel) rfl
theorem kq_875 : Jvm.Cond.static ({ cls := "GlossRowsLaw", name := "end", desc := "(LGlossRows;I)J" } : Jvm.MethodName) ∈ kq_W := kq_of 875 (by decide +kernel) rfl
theorem kq_877 : Jvm.Cond.methodLink "GlossRowsLaw" (62 : Nat) ({ cls := "GlossRows", name := "end", desc := "(I)I" } : Jvm.MethodName) ∈ kq_W := kq_of 877 (by decide +kernel) rfl
theorem kq_878 : Jvm.Cond.instanceMethod ({ cls := "GlossRows", name := "end", desc := "(I)I" } : Jvm.MethodName) ∈ kq_W := kq_of 878 (by decide +kernel) rfl
theorem kq_879 : Jvm.Cond.selects "GlossRows" ({ cls := "GlossRows", name := "end", desc := "(I)I" } : Jvm.MethodName) ({ cls := "GlossRows", name := "end", desc := "(I)I" } : Jvm.MethodName) ∈ kq_W := kq_of 879 (by decide +kernel) rfl
theorem kq_880 : Jvm.Cond.code ({ cls := "GlossRows", name := "end", desc := "(I)I" } : Jvm.MethodName) prog_1_method_15_code (2 : Nat) (Option.some Jvm.ClassFile.FieldType.int) ∈ kq_W := kq_of 880 (by decide +kernel) rfl
theorem kq_881 : Jvm.Cond.methodLink "GlossRowsLaw" (182 : Nat) ({ cls := "GlossRowsLaw", name := "join", desc := "(LGlossRows;I)J" } : Jvm.MethodName) ∈ kq_W := kq_of 881 (by decide +kernel) rfl
theorem kq_882 : Jvm.Cond.static ({ cls := "GlossRowsLaw", name := "join", desc := "(LGlossRows;I)J" } : Jvm.MethodName) ∈ kq_W := kq_of 882 (by decide +kernel) rfl
theorem kq_884 : Jvm.Cond.methodLink "GlossRowsLaw" (65 : Nat) ({ cls := "GlossRows", name := "join", desc := "(I)I" } : Jvm.MethodName) ∈ kq_W := kq_of 884 (by decide +kernel) rfl
theorem kq_885 : Jvm.Cond.instanceMethod ({ cls := "GlossRows", name := "join", desc := "(I)I" } : Jvm.MethodName) ∈ kq_W := kq_of 885 (by decide +kernel) rfl
theorem kq_886 : Jvm.Cond.selects "GlossRows" ({ cls := "GlossRows", name := "join", desc := "(I)I" } : Jvm.MethodName) ({ cls := "GlossRows", name := "join", desc := "(I)I" } : Jvm.MethodName) ∈ kq_W := kq_of 886 (by decide +kernel) rfl
theorem kq_887 : Jvm.Cond.code ({ cls := "GlossRows", name := "join", desc := "(I)I" } : Jvm.MethodName) prog_1_method_16_code (2 : Nat) (Option.some Jvm.ClassFile.FieldType.int) ∈ kq_W := kq_of 887 (by decide +kernel) rfl
theorem kq_888 : Jvm.Cond.methodLink "GlossRowsLaw" (184 : Nat) ({ cls := "GlossRowsLaw", name := "setFree", desc := "(LGlossRows;I)J" } : Jvm.MethodName) ∈ kq_W := kq_of 888 (by decide +kernel) rfl
theorem kq_889 : Jvm.Cond.static ({ cls := "GlossRowsLaw", name := "setFree", desc := "(LGlossRows;I)J" } : Jvm.MethodName) ∈ kq_W := kq_of 889 (by decide +kernel) rfl
theorem kq_891 : Jvm.Cond.methodLink "GlossRowsLaw" (68 : Nat) ({ cls := "GlossRows", name := "setFree", desc := "(I)I" } : Jvm.MethodName) ∈ kq_W := kq_of 891 (by decide +kernel) rfl
theorem kq_892 : Jvm.Cond.instanceMethod ({ cls := "GlossRows", name := "setFree", desc := "(I)I" } : Jvm.MethodName) ∈ kq_W := kq_of 892 (by decide +kernel) rfl
theorem kq_893 : Jvm.Cond.selects "GlossRows" ({ cls := "GlossRows", name := "setFree", desc := "(I)I" } : Jvm.MethodName) ({ cls := "GlossRows", name := "setFree", desc := "(I)I" } : Jvm.MethodName) ∈ kq_W := kq_of 893 (by decide +kernel) rfl
theorem kq_894 : Jvm.Cond.code ({ cls := "GlossRows", name := "setFree", desc := "(I)I" } : Jvm.MethodName) prog_1_method_17_code (2 : Nat) (Option.some Jvm.ClassFile.FieldType.int) ∈ kq_W := kq_of 894 (by decide +kernel) rfl
theorem kq_895 : Jvm.Cond.methodLink "GlossRows" (246 : Nat) ({ cls := "GlossRows$Text", name := "isFreeLine", desc := "()Z" } : Jvm.MethodName) ∈ kq_W := kq_of 895 (by decide +kernel) rfl
theorem kq_896 : Jvm.Cond.instanceMethod ({ cls := "GlossRows$Text", name := "isFreeLine", desc := "()Z" } : Jvm.MethodName) ∈ kq_W := kq_of 896 (by decide +kernel) rfl
theorem kq_897 : Jvm.Cond.selects "GlossRows$Text" ({ cls := "GlossRows$Text", name := "isFreeLine", desc := "()Z" } : Jvm.MethodName) ({ cls := "GlossRows$Text", name := "isFreeLine", desc := "()Z" } : Jvm.MethodName) ∈ kq_W := kq_of 897 (by decide +kernel) rfl
theorem kq_898 : Jvm.Cond.code ({ cls := "GlossRows$Text", name := "isFreeLine", desc := "()Z" } : Jvm.MethodName) prog_8_method_3_code (2 : Nat) (Option.some Jvm.ClassFile.FieldType.boolean) ∈ kq_W := kq_of 898 (by decide +kernel) rfl
theorem kq_900 : Jvm.Cond.methodLink "GlossRows" (252 : Nat) ({ cls := "GlossRows$Word", name := "takeFree", desc := "(LGlossRows$Text;)V" } : Jvm.MethodName) ∈ kq_W := kq_of 900 (by decide +kernel) rfl
theorem kq_901 : Jvm.Cond.instanceMethod ({ cls := "GlossRows$Word", name := "takeFree", desc := "(LGlossRows$Text;)V" } : Jvm.MethodName) ∈ kq_W := kq_of 901 (by decide +kernel) rfl
theorem kq_902 : Jvm.Cond.selects "GlossRows$Word" ({ cls := "GlossRows$Word", name := "takeFree", desc := "(LGlossRows$Text;)V" } : Jvm.MethodName) ({ cls := "GlossRows$Word", name := "takeFree", desc := "(LGlossRows$Text;)V" } : Jvm.MethodName) ∈ kq_W := kq_of 902 (by decide +kernel) rfl
theorem kq_903 : Jvm.Cond.code ({ cls := "GlossRows$Word", name := "takeFree", desc := "(LGlossRows$Text;)V" } : Jvm.MethodName) prog_9_method_7_code (3 : Nat) (Option.none : Option Jvm.ClassFile.FieldType) ∈ kq_W := kq_of 903 (by decide +kernel) rfl
theorem kq_904 : Jvm.Cond.methodLink "GlossRows$Word" (44 : Nat) ({ cls := "java/lang/Math", name := "min", desc := "(II)I" } : Jvm.MethodName) ∈ kq_W := kq_of 904 (by decide +kernel) rfl
theorem kq_905 : Jvm.Cond.methodLink "GlossRowsLaw" (186 : Nat) ({ cls := "GlossRowsLaw", name := "setGloss", desc := "(LGlossRows;II)J" } : Jvm.MethodName) ∈ kq_W := kq_of 905 (by decide +kernel) rfl
theorem kq_906 : Jvm.Cond.static ({ cls := "GlossRowsLaw", name := "setGloss", desc := "(LGlossRows;II)J" } : Jvm.MethodName) ∈ kq_W := kq_of 906 (by decide +kernel) rfl
theorem kq_908 : Jvm.Cond.methodLink "GlossRowsLaw" (71 : Nat) ({ cls := "GlossRows", name := "setGloss", desc := "(II)I" } : Jvm.MethodName) ∈ kq_W := kq_of 908 (by decide +kernel) rfl
theorem kq_909 : Jvm.Cond.instanceMethod ({ cls := "GlossRows", name := "setGloss", desc := "(II)I" } : Jvm.MethodName) ∈ kq_W := kq_of 909 (by decide +kernel) rfl
theorem kq_910 : Jvm.Cond.selects "GlossRows" ({ cls := "GlossRows", name := "setGloss", desc := "(II)I" } : Jvm.MethodName) ({ cls := "GlossRows", name := "setGloss", desc := "(II)I" } : Jvm.MethodName) ∈ kq_W := kq_of 910 (by decide +kernel) rfl
theorem kq_911 : Jvm.Cond.code ({ cls := "GlossRows", name := "setGloss", desc := "(II)I" } : Jvm.MethodName) prog_1_method_18_code (3 : Nat) (Option.some Jvm.ClassFile.FieldType.int) ∈ kq_W := kq_of 911 (by decide +kernel) rfl
theorem kq_912 : Jvm.Cond.methodLink "GlossRows" (256 : Nat) ({ cls := "GlossRows$Text", name := "isGloss", desc := "()Z" } : Jvm.MethodName) ∈ kq_W := kq_of 912 (by decide +kernel) rfl
theorem kq_913 : Jvm.Cond.instanceMethod ({ cls := "GlossRows$Text", name := "isGloss", desc := "()Z" } : Jvm.MethodName) ∈ kq_W := kq_of 913 (by decide +kernel) rfl
theorem kq_914 : Jvm.Cond.selects "GlossRows$Text" ({ cls := "GlossRows$Text", name := "isGloss", desc := "()Z" } : Jvm.MethodName) ({ cls := "GlossRows$Text", name := "isGloss", desc := "()Z" } : Jvm.MethodName) ∈ kq_W := kq_of 914 (by decide +kernel) rfl
theorem kq_915 : Jvm.Cond.code ({ cls := "GlossRows$Text", name := "isGloss", desc := "()Z" } : Jvm.MethodName) prog_8_method_4_code (2 : Nat) (Option.some Jvm.ClassFile.FieldType.boolean) ∈ kq_W := kq_of 915 (by decide +kernel) rfl
theorem kq_916 : Jvm.Cond.methodLink "GlossRows$Text" (19 : Nat) ({ cls := "GlossRows$Letters", name := "isGlossLetter", desc := "(I)Z" } : Jvm.MethodName) ∈ kq_W := kq_of 916 (by decide +kernel) rfl
theorem kq_918 : Jvm.Cond.methodLink "GlossRows" (261 : Nat) ({ cls := "GlossRows$Text", name := "letters", desc := "()J" } : Jvm.MethodName) ∈ kq_W := kq_of 918 (by decide +kernel) rfl
theorem kq_919 : Jvm.Cond.instanceMethod ({ cls := "GlossRows$Text", name := "letters", desc := "()J" } : Jvm.MethodName) ∈ kq_W := kq_of 919 (by decide +kernel) rfl
theorem kq_920 : Jvm.Cond.selects "GlossRows$Text" ({ cls := "GlossRows$Text", name := "letters", desc := "()J" } : Jvm.MethodName) ({ cls := "GlossRows$Text", name := "letters", desc := "()J" } : Jvm.MethodName) ∈ kq_W := kq_of 920 (by decide +kernel) rfl
theorem kq_921 : Jvm.Cond.code ({ cls := "GlossRows$Text", name := "letters", desc := "()J" } : Jvm.MethodName) prog_8_method_5_code (4 : Nat) (Option.some Jvm.ClassFile.FieldType.long) ∈ kq_W := kq_of 921 (by decide +kernel) rfl
theorem kq_922 : Jvm.Cond.methodLink "GlossRows$Text" (25 : Nat) ({ cls := "GlossRows$Letters", name := "with", desc := "(JI)J" } : Jvm.MethodName) ∈ kq_W := kq_of 922 (by decide +kernel) rfl
theorem kq_923 : Jvm.Cond.methodLink "GlossRowsLaw" (188 : Nat) ({ cls := "GlossRowsLaw", name := "set", desc := "(LGlossRows;II)J" } : Jvm.MethodName) ∈ kq_W := kq_of 923 (by decide +kernel) rfl
theorem kq_924 : Jvm.Cond.static ({ cls := "GlossRowsLaw", name := "set", desc := "(LGlossRows;II)J" } : Jvm.MethodName) ∈ kq_W := kq_of 924 (by decide +kernel) rfl
theorem kq_926 : Jvm.Cond.methodLink "GlossRowsLaw" (74 : Nat) ({ cls := "GlossRows", name := "set", desc := "(II)I" } : Jvm.MethodName) ∈ kq_W := kq_of 926 (by decide +kernel) rfl
theorem kq_927 : Jvm.Cond.instanceMethod ({ cls := "GlossRows", name := "set", desc := "(II)I" } : Jvm.MethodName) ∈ kq_W := kq_of 927 (by decide +kernel) rfl
theorem kq_928 : Jvm.Cond.selects "GlossRows" ({ cls := "GlossRows", name := "set", desc := "(II)I" } : Jvm.MethodName) ({ cls := "GlossRows", name := "set", desc := "(II)I" } : Jvm.MethodName) ∈ kq_W := kq_of 928 (by decide +kernel) rfl
theorem kq_929 : Jvm.Cond.code ({ cls := "GlossRows", name := "set", desc := "(II)I" } : Jvm.MethodName) prog_1_method_19_code (3 : Nat) (Option.some Jvm.ClassFile.FieldType.int) ∈ kq_W := kq_of 929 (by decide +kernel) rfl
theorem kq_931 : Jvm.Cond.methodLink "GlossRowsLaw" (190 : Nat) ({ cls := "GlossRowsLaw", name := "learn", desc := "(LGlossRows;II)J" } : Jvm.MethodName) ∈ kq_W := kq_of 931 (by decide +kernel) rfl
theorem kq_932 : Jvm.Cond.static ({ cls := "GlossRowsLaw", name := "learn", desc := "(LGlossRows;II)J" } : Jvm.MethodName) ∈ kq_W := kq_of 932 (by decide +kernel) rfl
theorem kq_934 : Jvm.Cond.methodLink "GlossRowsLaw" (77 : Nat) ({ cls := "GlossRows", name := "learn", desc := "(II)I" } : Jvm.MethodName) ∈ kq_W := kq_of 934 (by decide +kernel) rfl
theorem kq_935 : Jvm.Cond.instanceMethod ({ cls := "GlossRows", name := "learn", desc := "(II)I" } : Jvm.MethodName) ∈ kq_W := kq_of 935 (by decide +kernel) rfl
theorem kq_936 : Jvm.Cond.selects "GlossRows" ({ cls := "GlossRows", name := "learn", desc := "(II)I" } : Jvm.MethodName) ({ cls := "GlossRows", name := "learn", desc := "(II)I" } : Jvm.MethodName) ∈ kq_W := kq_of 936 (by decide +kernel) rfl
theorem kq_937 : Jvm.Cond.code ({ cls := "GlossRows", name := "learn", desc := "(II)I" } : Jvm.MethodName) prog_1_method_20_code (3 : Nat) (Option.some Jvm.ClassFile.FieldType.int) ∈ kq_W := kq_of 937 (by decide +kernel) rfl
theorem kq_939 : Jvm.Cond.methodLink "GlossRowsLaw" (192 : Nat) ({ cls := "GlossRowsLaw", name := "forget", desc := "(LGlossRows;I)J" } : Jvm.MethodName) ∈ kq_W := kq_of 939 (by decide +kernel) rfl
theorem kq_940 : Jvm.Cond.static ({ cls := "GlossRowsLaw", name := "forget", desc := "(LGlossRows;I)J" } : Jvm.MethodName) ∈ kq_W := kq_of 940 (by decide +kernel) rfl
theorem kq_942 : Jvm.Cond.methodLink "GlossRowsLaw" (80 : Nat) ({ cls := "GlossRows", name := "forget", desc := "(I)I" } : Jvm.MethodName) ∈ kq_W := kq_of 942 (by decide +kernel) rfl
theorem kq_943 : Jvm.Cond.instanceMethod ({ cls := "GlossRows", name := "forget", desc := "(I)I" } : Jvm.MethodName) ∈ kq_W := kq_of 943 (by decide +kernel) rfl
theorem kq_944 : Jvm.Cond.selects "GlossRows" ({ cls := "GlossRows", name := "forget", desc := "(I)I" } : Jvm.MethodName) ({ cls := "GlossRows", name := "forget", desc := "(I)I" } : Jvm.MethodName) ∈ kq_W := kq_of 944 (by decide +kernel) rfl
theorem kq_945 : Jvm.Cond.code ({ cls := "GlossRows", name := "forget", desc := "(I)I" } : Jvm.MethodName) prog_1_method_21_code (2 : Nat) (Option.some Jvm.ClassFile.FieldType.int) ∈ kq_W := kq_of 945 (by decide +kernel) rfl
theorem kq_946 : Jvm.Cond.methodLink "GlossRows" (283 : Nat) ({ cls := "GlossRows$Lexicon", name := "drop", desc := "(I)V" } : Jvm.MethodName) ∈ kq_W := kq_of 946 (by decide +kernel) rfl
theorem kq_947 : Jvm.Cond.instanceMethod ({ cls := "GlossRows$Lexicon", name := "drop", desc := "(I)V" } : Jvm.MethodName) ∈ kq_W := kq_of 947 (by decide +kernel) rfl
theorem kq_948 : Jvm.Cond.selects "GlossRows$Lexicon" ({ cls := "GlossRows$Lexicon", name := "drop", desc := "(I)V" } : Jvm.MethodName) ({ cls := "GlossRows$Lexicon", name := "drop", desc := "(I)V" } : Jvm.MethodName) ∈ kq_W := kq_of 948 (by decide +kernel) rfl
theorem kq_949 : Jvm.Cond.code ({ cls := "GlossRows$Lexicon", name := "drop", desc := "(I)V" } : Jvm.MethodName) prog_5_method_7_code (3 : Nat) (Option.none : Option Jvm.ClassFile.FieldType) ∈ kq_W := kq_of 949 (by decide +kernel) rfl
theorem kq_950 : Jvm.Cond.methodLink "GlossRowsLaw" (243 : Nat) ({ cls := "GlossRowsLaw", name := "built", desc := "(LGlossRows;)Z" } : Jvm.MethodName) ∈ kq_W := kq_of 950 (by decide +kernel) rfl
theorem kq_951 : Jvm.Cond.static ({ cls := "GlossRowsLaw", name := "built", desc := "(LGlossRows;)Z" } : Jvm.MethodName) ∈ kq_W := kq_of 951 (by decide +kernel) rfl
set_option maxRecDepth 100000 in
theorem kq_952 : Jvm.Cond.code ({ cls := "GlossRowsLaw", name := "built", desc := "(LGlossRows;)Z" } : Jvm.MethodName) method_34_code (37 : Nat) (Option.some Jvm.ClassFile.FieldType.boolean) ∈ kq_W := List.mem_filter.mpr ⟨List.mem_append_right _ (List.mem_append_right _ (List.mem_append_right _ (List.mem_append_right _ (List.mem_append_left _ (List.mem_of_getElem? (l := tables_1_4) (i := 232) rfl))))), rfl⟩
theorem kq_953 : Jvm.Cond.constantLong "GlossRowsLaw" (198 : Nat) (8 : Int64) ∈ kq_W := kq_of 953 (by decide +kernel) rfl
theorem kq_954 : Jvm.Cond.methodLink "GlossRowsLaw" (200 : Nat) ({ cls := "GlossRowsLaw", name := "in", desc := "(JJJ)Z" } : Jvm.MethodName) ∈ kq_W := kq_of 954 (by decide +kernel) rfl
theorem kq_955 : Jvm.Cond.static ({ cls := "GlossRowsLaw", name := "in", desc := "(JJJ)Z" } : Jvm.MethodName) ∈ kq_W := kq_of 955 (by decide +kernel) rfl
theorem kq_956 : Jvm.Cond.code ({ cls := "GlossRowsLaw", name := "in", desc := "(JJJ)Z" } : Jvm.MethodName) method_3_code (6 : Nat) (Option.some Jvm.ClassFile.FieldType.boolean) ∈ kq_W := kq_of 956 (by decide +kernel) rfl
theorem kq_957 : Jvm.Cond.constantLong "GlossRowsLaw" (204 : Nat) (-9 : Int64) ∈ kq_W := kq_of 957 (by decide +kernel) rfl
theorem kq_958 : Jvm.Cond.constantLong "GlossRowsLaw" (206 : Nat) (45 : Int64) ∈ kq_W := kq_of 958 (by decide +kernel) rfl
theorem kq_959 : Jvm.Cond.constantLong "GlossRowsLaw" (208 : Nat) (61 : Int64) ∈ kq_W := kq_of 959 (by decide +kernel) rfl
theorem kq_960 : Jvm.Cond.constantLong "GlossRowsLaw" (210 : Nat) (2 : Int64) ∈ kq_W := kq_of 960 (by decide +kernel) rfl
theorem kq_961 : Jvm.Cond.constantLong "GlossRowsLaw" (212 : Nat) (16 : Int64) ∈ kq_W := kq_of 961 (by decide +kernel) rfl
theorem kq_962 : Jvm.Cond.methodLink "GlossRowsLaw" (251 : Nat) ({ cls := "GlossRowsLaw", name := "follows", desc := "(LGlossRows;I)Z" } : Jvm.MethodName) ∈ kq_W := kq_of 962 (by decide +kernel) rfl
theorem kq_963 : Jvm.Cond.static ({ cls := "GlossRowsLaw", name := "follows", desc := "(LGlossRows;I)Z" } : Jvm.MethodName) ∈ kq_W := kq_of 963 (by decide +kernel) rfl
set_option maxRecDepth 100000 in
theorem kq_964 : Jvm.Cond.code ({ cls := "GlossRowsLaw", name := "follows", desc := "(LGlossRows;I)Z" } : Jvm.MethodName) method_35_code (27 : Nat) (Option.some Jvm.ClassFile.FieldType.boolean) ∈ kq_W := List.mem_filter.mpr ⟨List.mem_append_right _ (List.mem_append_right _ (List.mem_append_right _ (List.mem_append_right _ (List.mem_append_right _ (List.mem_of_getElem? (l := tables_1_5) (i := 4) rfl))))), rfl⟩
theorem kq_965 : Jvm.Cond.constantLong "GlossRowsLaw" (214 : Nat) (10 : Int64) ∈ kq_W := kq_of 965 (by decide +kernel) rfl
theorem kq_966 : Jvm.Cond.methodLink "GlossRowsLaw" (216 : Nat) ({ cls := "GlossRowsLaw", name := "undo", desc := "(LGlossRows;)J" } : Jvm.MethodName) ∈ kq_W := kq_of 966 (by decide +kernel) rfl
theorem kq_967 : Jvm.Cond.static ({ cls := "GlossRowsLaw", name := "undo", desc := "(LGlossRows;)J" } : Jvm.MethodName) ∈ kq_W := kq_of 967 (by decide +kernel) rfl
theorem kq_969 : Jvm.Cond.methodLink "GlossRowsLaw" (83 : Nat) ({ cls := "GlossRows", name := "undo", desc := "()I" } : Jvm.MethodName) ∈ kq_W := kq_of 969 (by decide +kernel) rfl
theorem kq_970 : Jvm.Cond.instanceMethod ({ cls := "GlossRows", name := "undo", desc := "()I" } : Jvm.MethodName) ∈ kq_W := kq_of 970 (by decide +kernel) rfl
theorem kq_971 : Jvm.Cond.selects "GlossRows" ({ cls := "GlossRows", name := "undo", desc := "()I" } : Jvm.MethodName) ({ cls := "GlossRows", name := "undo", desc := "()I" } : Jvm.MethodName) ∈ kq_W := kq_of 971 (by decide +kernel) rfl
theorem kq_972 : Jvm.Cond.code ({ cls := "GlossRows", name := "undo", desc := "()I" } : Jvm.MethodName) prog_1_method_23_code (1 : Nat) (Option.some Jvm.ClassFile.FieldType.int) ∈ kq_W := kq_of 972 (by decide +kernel) rfl
theorem kq_974 : Jvm.Cond.methodLink "GlossRows" (292 : Nat) ({ cls := "GlossRows$History", name := "takeBack", desc := "(LGlossRows$Page;)V" } : Jvm.MethodName) ∈ kq_W := kq_of 974 (by decide +kernel) rfl
theorem kq_975 : Jvm.Cond.instanceMethod ({ cls := "GlossRows$History", name := "takeBack", desc := "(LGlossRows$Page;)V" } : Jvm.MethodName) ∈ kq_W := kq_of 975 (by decide +kernel) rfl
theorem kq_976 : Jvm.Cond.selects "GlossRows$History" ({ cls := "GlossRows$History", name := "takeBack", desc := "(LGlossRows$Page;)V" } : Jvm.MethodName) ({ cls := "GlossRows$History", name := "takeBack", desc := "(LGlossRows$Page;)V" } : Jvm.MethodName) ∈ kq_W := kq_of 976 (by decide +kernel) rfl
theorem kq_977 : Jvm.Cond.code ({ cls := "GlossRows$History", name := "takeBack", desc := "(LGlossRows$Page;)V" } : Jvm.MethodName) prog_2_method_4_code (2 : Nat) (Option.none : Option Jvm.ClassFile.FieldType) ∈ kq_W := kq_of 977 (by decide +kernel) rfl
theorem kq_978 : Jvm.Cond.methodLink "GlossRowsLaw" (218 : Nat) ({ cls := "GlossRows", name := "fillGaps", desc := "()I" } : Jvm.MethodName) ∈ kq_W := kq_of 978 (by decide +kernel) rfl
theorem kq_979 : Jvm.Cond.instanceMethod ({ cls := "GlossRows", name := "fillGaps", desc := "()I" } : Jvm.MethodName) ∈ kq_W := kq_of 979 (by decide +kernel) rfl
theorem kq_980 : Jvm.Cond.selects "GlossRows" ({ cls := "GlossRows", name := "fillGaps", desc := "()I" } : Jvm.MethodName) ({ cls := "GlossRows", name := "fillGaps", desc := "()I" } : Jvm.MethodName) ∈ kq_W := kq_of 980 (by decide +kernel) rfl
theorem kq_981 : Jvm.Cond.code ({ cls := "GlossRows", name := "fillGaps", desc := "()I" } : Jvm.MethodName) prog_1_method_22_code (1 : Nat) (Option.some Jvm.ClassFile.FieldType.int) ∈ kq_W := kq_of 981 (by decide +kernel) rfl
theorem kq_982 : Jvm.Cond.methodLink "GlossRowsLaw" (224 : Nat) ({ cls := "GlossRowsLaw", name := "tells", desc := "(LGlossRows;II)Z" } : Jvm.MethodName) ∈ kq_W := kq_of 982 (by decide +kernel) rfl
theorem kq_983 : Jvm.Cond.static ({ cls := "GlossRowsLaw", name := "tells", desc := "(LGlossRows;II)Z" } : Jvm.MethodName) ∈ kq_W := kq_of 983 (by decide +kernel) rfl
theorem kq_984 : Jvm.Cond.code ({ cls := "GlossRowsLaw", name := "tells", desc := "(LGlossRows;II)Z" } : Jvm.MethodName) method_36_code (9 : Nat) (Option.some Jvm.ClassFile.FieldType.boolean) ∈ kq_W := kq_of 984 (by decide +kernel) rfl
theorem kq_985 : Jvm.Cond.methodLink "GlossRowsLaw" (221 : Nat) ({ cls := "GlossRows", name := "clearText", desc := "()I" } : Jvm.MethodName) ∈ kq_W := kq_of 985 (by decide +kernel) rfl
theorem kq_986 : Jvm.Cond.instanceMethod ({ cls := "GlossRows", name := "clearText", desc := "()I" } : Jvm.MethodName) ∈ kq_W := kq_of 986 (by decide +kernel) rfl
theorem kq_987 : Jvm.Cond.selects "GlossRows" ({ cls := "GlossRows", name := "clearText", desc := "()I" } : Jvm.MethodName) ({ cls := "GlossRows", name := "clearText", desc := "()I" } : Jvm.MethodName) ∈ kq_W := kq_of 987 (by decide +kernel) rfl
theorem kq_988 : Jvm.Cond.code ({ cls := "GlossRows", name := "clearText", desc := "()I" } : Jvm.MethodName) prog_1_method_3_code (2 : Nat) (Option.some Jvm.ClassFile.FieldType.int) ∈ kq_W := kq_of 988 (by decide +kernel) rfl
theorem kq_989 : Jvm.Cond.methodLink "GlossRowsLaw" (248 : Nat) ({ cls := "GlossRowsLaw", name := "act", desc := "(LGlossRows;II)J" } : Jvm.MethodName) ∈ kq_W := kq_of 989 (by decide +kernel) rfl
theorem kq_990 : Jvm.Cond.static ({ cls := "GlossRowsLaw", name := "act", desc := "(LGlossRows;II)J" } : Jvm.MethodName) ∈ kq_W := kq_of 990 (by decide +kernel) rfl
theorem kq_991 : Jvm.Cond.code ({ cls := "GlossRowsLaw", name := "act", desc := "(LGlossRows;II)J" } : Jvm.MethodName) method_37_code (5 : Nat) (Option.some Jvm.ClassFile.FieldType.long) ∈ kq_W := kq_of 991 (by decide +kernel) rfl
theorem kq_992 : Jvm.Cond.constantLong "GlossRowsLaw" (228 : Nat) (-1 : Int64) ∈ kq_W := kq_of 992 (by decide +kernel) rfl
theorem kq_993 : Jvm.Cond.constant "GlossRowsLaw" (255 : Nat) (83003 : Int32) ∈ kq_W := kq_of 993 (by decide +kernel) rfl
theorem kq_s0 : Cond.selects "GlossRows$Reader" ({ cls := "GlossRows$Reader", name := "openWord", desc := "()V" } : Jvm.MethodName) ({ cls := "GlossRows$Reader", name := "openWord", desc := "()V" } : Jvm.MethodName) ∈ kq_W := kq_sel 0 (by decide +kernel) rfl
theorem kq_s1 : Cond.selects "GlossRows$Reader" ({ cls := "GlossRows$Reader", name := "takes", desc := "(I)Z" } : Jvm.MethodName) ({ cls := "GlossRows$Reader", name := "takes", desc := "(I)Z" } : Jvm.MethodName) ∈ kq_W := kq_sel 1 (by decide +kernel) rfl
theorem kq_s2 : Cond.selects "GlossRows$Reader" ({ cls := "GlossRows$Reader", name := "takesBlank", desc := "()Z" } : Jvm.MethodName) ({ cls := "GlossRows$Reader", name := "takesBlank", desc := "()Z" } : Jvm.MethodName) ∈ kq_W := kq_sel 2 (by decide +kernel) rfl
theorem kq_s3 : Cond.selects "GlossRows$Reader" ({ cls := "GlossRows$Reader", name := "isWordWhole", desc := "()Z" } : Jvm.MethodName) ({ cls := "GlossRows$Reader", name := "isWordWhole", desc := "()Z" } : Jvm.MethodName) ∈ kq_W := kq_sel 3 (by decide +kernel) rfl
theorem kq_s4 : Cond.selects "GlossRows$Reader" ({ cls := "GlossRows$Reader", name := "hasPartLetters", desc := "()Z" } : Jvm.MethodName) ({ cls := "GlossRows$Reader", name := "hasPartLetters", desc := "()Z" } : Jvm.MethodName) ∈ kq_W := kq_sel 4 (by decide +kernel) rfl
theorem kq_s5 : Cond.selects "GlossRows$Reader" ({ cls := "GlossRows$Reader", name := "takesColon", desc := "()Z" } : Jvm.MethodName) ({ cls := "GlossRows$Reader", name := "takesColon", desc := "()Z" } : Jvm.MethodName) ∈ kq_W := kq_sel 5 (by decide +kernel) rfl
theorem kq_s6 : Cond.selects "GlossRows$Reader" ({ cls := "GlossRows$Reader", name := "takesMarkOfGlosses", desc := "(I)Z" } : Jvm.MethodName) ({ cls := "GlossRows$Reader", name := "takesMarkOfGlosses", desc := "(I)Z" } : Jvm.MethodName) ∈ kq_W := kq_sel 6 (by decide +kernel) rfl
theorem kq_s7 : Cond.selects "GlossRows$Reader" ({ cls := "GlossRows$Reader", name := "takesMarkOfParts", desc := "(I)Z" } : Jvm.MethodName) ({ cls := "GlossRows$Reader", name := "takesMarkOfParts", desc := "(I)Z" } : Jvm.MethodName) ∈ kq_W := kq_sel 7 (by decide +kernel) rfl
theorem kq_s8 : Cond.selects "GlossRows$Reader" ({ cls := "GlossRows$Reader", name := "takesGlossLetter", desc := "(I)Z" } : Jvm.MethodName) ({ cls := "GlossRows$Reader", name := "takesGlossLetter", desc := "(I)Z" } : Jvm.MethodName) ∈ kq_W := kq_sel 8 (by decide +kernel) rfl
theorem kq_s9 : Cond.selects "GlossRows$Reader" ({ cls := "GlossRows$Reader", name := "takesLetter", desc := "(I)Z" } : Jvm.MethodName) ({ cls := "GlossRows$Reader", name := "takesLetter", desc := "(I)Z" } : Jvm.MethodName) ∈ kq_W := kq_sel 9 (by decide +kernel) rfl
theorem kq_s10 : Cond.selects "java/lang/Throwable" ({ cls := "java/lang/Throwable", name := "fillInStackTrace", desc := "(I)Ljava/lang/Throwable;" } : Jvm.MethodName) ({ cls := "java/lang/Throwable", name := "fillInStackTrace", desc := "(I)Ljava/lang/Throwable;" } : Jvm.MethodName) ∈ kq_W := kq_sel 10 (by decide +kernel) rfl
theorem kq_s11 : Cond.selects "GlossRows" ({ cls := "GlossRows", name := "requireSlot", desc := "(I)V" } : Jvm.MethodName) ({ cls := "GlossRows", name := "requireSlot", desc := "(I)V" } : Jvm.MethodName) ∈ kq_W := kq_sel 11 (by decide +kernel) rfl
theorem kq_s12 : Cond.selects "GlossRows" ({ cls := "GlossRows", name := "arranged", desc := "(LGlossRows$Page;)LGlossRows$Layout;" } : Jvm.MethodName) ({ cls := "GlossRows", name := "arranged", desc := "(LGlossRows$Page;)LGlossRows$Layout;" } : Jvm.MethodName) ∈ kq_W := kq_sel 12 (by decide +kernel) rfl
theorem kq_s13 : Cond.selects "GlossRows$Word" ({ cls := "GlossRows$Word", name := "shownGloss", desc := "(I)J" } : Jvm.MethodName) ({ cls := "GlossRows$Word", name := "shownGloss", desc := "(I)J" } : Jvm.MethodName) ∈ kq_W := kq_sel 13 (by decide +kernel) rfl
theorem kq_s14 : Cond.selects "GlossRows" ({ cls := "GlossRows", name := "requireWord", desc := "(I)V" } : Jvm.MethodName) ({ cls := "GlossRows", name := "requireWord", desc := "(I)V" } : Jvm.MethodName) ∈ kq_W := kq_sel 14 (by decide +kernel) rfl
theorem kq_s15 : Cond.selects "GlossRows" ({ cls := "GlossRows", name := "requirePart", desc := "(II)V" } : Jvm.MethodName) ({ cls := "GlossRows", name := "requirePart", desc := "(II)V" } : Jvm.MethodName) ∈ kq_W := kq_sel 15 (by decide +kernel) rfl
theorem kq_s16 : Cond.selects "GlossRows" ({ cls := "GlossRows", name := "requireNotNegative", desc := "(I)V" } : Jvm.MethodName) ({ cls := "GlossRows", name := "requireNotNegative", desc := "(I)V" } : Jvm.MethodName) ∈ kq_W := kq_sel 16 (by decide +kernel) rfl
theorem kq_s17 : Cond.selects "GlossRows" ({ cls := "GlossRows", name := "requireEntry", desc := "(I)V" } : Jvm.MethodName) ({ cls := "GlossRows", name := "requireEntry", desc := "(I)V" } : Jvm.MethodName) ∈ kq_W := kq_sel 17 (by decide +kernel) rfl
theorem kq_s18 : Cond.selects "GlossRows$Page" ({ cls := "GlossRows$Page", name := "countUses", desc := "(J)I" } : Jvm.MethodName) ({ cls := "GlossRows$Page", name := "countUses", desc := "(J)I" } : Jvm.MethodName) ∈ kq_W := kq_sel 18 (by decide +kernel) rfl
theorem kq_s19 : Cond.selects "GlossRows" ({ cls := "GlossRows", name := "requireRow", desc := "(I)V" } : Jvm.MethodName) ({ cls := "GlossRows", name := "requireRow", desc := "(I)V" } : Jvm.MethodName) ∈ kq_W := kq_sel 19 (by decide +kernel) rfl
theorem kq_s20 : Cond.selects "GlossRows$Layout" ({ cls := "GlossRows$Layout", name := "lastWordOfRow", desc := "(LGlossRows$Page;I)I" } : Jvm.MethodName) ({ cls := "GlossRows$Layout", name := "lastWordOfRow", desc := "(LGlossRows$Page;I)I" } : Jvm.MethodName) ∈ kq_W := kq_sel 20 (by decide +kernel) rfl
theorem kq_s21 : Cond.selects "GlossRows$Layout" ({ cls := "GlossRows$Layout", name := "beginInFree", desc := "(LGlossRows$Page;I)I" } : Jvm.MethodName) ({ cls := "GlossRows$Layout", name := "beginInFree", desc := "(LGlossRows$Page;I)I" } : Jvm.MethodName) ∈ kq_W := kq_sel 21 (by decide +kernel) rfl
theorem kq_s22 : Cond.selects "GlossRows" ({ cls := "GlossRows", name := "succeeds", desc := "(I)Z" } : Jvm.MethodName) ({ cls := "GlossRows", name := "succeeds", desc := "(I)Z" } : Jvm.MethodName) ∈ kq_W := kq_sel 22 (by decide +kernel) rfl
theorem kq_s23 : Cond.selects "GlossRows" ({ cls := "GlossRows", name := "learnsOnTrial", desc := "(II)Z" } : Jvm.MethodName) ({ cls := "GlossRows", name := "learnsOnTrial", desc := "(II)Z" } : Jvm.MethodName) ∈ kq_W := kq_sel 23 (by decide +kernel) rfl
theorem kq_s24 : Cond.selects "GlossRows$Lexicon" ({ cls := "GlossRows$Lexicon", name := "makePlaceFor", desc := "(J)I" } : Jvm.MethodName) ({ cls := "GlossRows$Lexicon", name := "makePlaceFor", desc := "(J)I" } : Jvm.MethodName) ∈ kq_W := kq_sel 24 (by decide +kernel) rfl
theorem kq_s25 : Cond.selects "GlossRows" ({ cls := "GlossRows", name := "setsOnTrial", desc := "(II)Z" } : Jvm.MethodName) ({ cls := "GlossRows", name := "setsOnTrial", desc := "(II)Z" } : Jvm.MethodName) ∈ kq_W := kq_sel 25 (by decide +kernel) rfl
theorem kq_s26 : Cond.selects "GlossRows" ({ cls := "GlossRows", name := "changesWordOfTrial", desc := "(II)Z" } : Jvm.MethodName) ({ cls := "GlossRows", name := "changesWordOfTrial", desc := "(II)Z" } : Jvm.MethodName) ∈ kq_W := kq_sel 26 (by decide +kernel) rfl
theorem kq_s27 : Cond.selects "GlossRows" ({ cls := "GlossRows", name := "fillsTrial", desc := "()Z" } : Jvm.MethodName) ({ cls := "GlossRows", name := "fillsTrial", desc := "()Z" } : Jvm.MethodName) ∈ kq_W := kq_sel 27 (by decide +kernel) rfl
theorem kq_s28 : Cond.selects "GlossRows" ({ cls := "GlossRows", name := "playRound", desc := "(I)V" } : Jvm.MethodName) ({ cls := "GlossRows", name := "playRound", desc := "(I)V" } : Jvm.MethodName) ∈ kq_W := kq_sel 28 (by decide +kernel) rfl
theorem kq_inX0 : ∀ w ∈ u_ws RX0 TX0 3, w ∈ kq_W := by
  intro w hw
  obtain ⟨k, hk, rfl⟩ := List.mem_map.mp hw
  have hk := List.mem_range.mp hk
  rcases Nat.lt_or_ge k 1 with h0 | h0
  · obtain rfl : k = 0 := by omega
    exact kq_224
  rcases Nat.lt_or_ge k 2 with h1 | h1
  · obtain rfl : k = 1 := by omega
    exact kq_226
  rcases Nat.lt_or_ge k 3 with h2 | h2
  · obtain rfl : k = 2 := by omega
    exact kq_228
  omega
theorem kq_inX1 : ∀ w ∈ u_ws RX1 TX1 7, w ∈ kq_W := by
  intro w hw
  obtain ⟨k, hk, rfl⟩ := List.mem_map.mp hw
  have hk := List.mem_range.mp hk
  rcases Nat.lt_or_ge k 1 with h0 | h0
  · obtain rfl : k = 0 := by omega
    exact kq_196
  rcases Nat.lt_or_ge k 2 with h1 | h1
  · obtain rfl : k = 1 := by omega
    exact kq_198
  rcases Nat.lt_or_ge k 3 with h2 | h2
  · obtain rfl : k = 2 := by omega
    exact kq_200
  rcases Nat.lt_or_ge k 4 with h3 | h3
  · obtain rfl : k = 3 := by omega
    exact kq_202
  rcases Nat.lt_or_ge k 5 with h4 | h4
  · obtain rfl : k = 4 := by omega
    exact kq_204
  rcases Nat.lt_or_ge k 6 with h5 | h5
  · obtain rfl : k = 5 := by omega
    exact kq_206
  rcases Nat.lt_or_ge k 7 with h6 | h6
  · obtain rfl : k = 6 := by omega
    exact kq_208
  omega
theorem kq_inX3 : ∀ w ∈ u_ws RX3 TX3 3, w ∈ kq_W := by
  intro w hw
  obtain ⟨k, hk, rfl⟩ := List.mem_map.mp hw
  have hk := List.mem_range.mp hk
  rcases Nat.lt_or_ge k 1 with h0 | h0
  · obtain rfl : k = 0 := by omega
    exact kq_136
  rcases Nat.lt_or_ge k 2 with h1 | h1
  · obtain rfl : k = 1 := by omega
    exact kq_138
  rcases Nat.lt_or_ge k 3 with h2 | h2
  · obtain rfl : k = 2 := by omega
    exact kq_140
  omega
theorem kq_inX4 : ∀ w ∈ u_ws RX4 TX4 6, w ∈ kq_W := by
  intro w hw
  obtain ⟨k, hk, rfl⟩ := List.mem_map.mp hw
  have hk := List.mem_range.mp hk
  rcases Nat.lt_or_ge k 1 with h0 | h0
  · obtain rfl : k = 0 := by omega
    exact kq_165
  rcases Nat.lt_or_ge k 2 with h1 | h1
  · obtain rfl : k = 1 := by omega
    exact kq_167
  rcases Nat.lt_or_ge k 3 with h2 | h2
  · obtain rfl : k = 2 := by omega
    exact kq_169
  rcases Nat.lt_or_ge k 4 with h3 | h3
  · obtain rfl : k = 3 := by omega
    exact kq_171
  rcases Nat.lt_or_ge k 5 with h4 | h4
  · obtain rfl : k = 4 := by omega
    exact kq_173
  rcases Nat.lt_or_ge k 6 with h5 | h5
  · obtain rfl : k = 5 := by omega
    exact kq_175
  omega
theorem kq_inX5 : ∀ w ∈ u_ws RX5 TX5 5, w ∈ kq_W := by
  intro w hw
  obtain ⟨k, hk, rfl⟩ := List.mem_map.mp hw
  have hk := List.mem_range.mp hk
  rcases Nat.lt_or_ge k 1 with h0 | h0
  · obtain rfl : k = 0 := by omega
    exact kq_104
  rcases Nat.lt_or_ge k 2 with h1 | h1
  · obtain rfl : k = 1 := by omega
    exact kq_106
  rcases Nat.lt_or_ge k 3 with h2 | h2
  · obtain rfl : k = 2 := by omega
    exact kq_108
  rcases Nat.lt_or_ge k 4 with h3 | h3
  · obtain rfl : k = 3 := by omega
    exact kq_110
  rcases Nat.lt_or_ge k 5 with h4 | h4
  · obtain rfl : k = 4 := by omega
    exact kq_112
  omega
theorem kq_inX6 : ∀ w ∈ u_ws RX6 TX6 2, w ∈ kq_W := by
  intro w hw
  obtain ⟨k, hk, rfl⟩ := List.mem_map.mp hw
  have hk := List.mem_range.mp hk
  rcases Nat.lt_or_ge k 1 with h0 | h0
  · obtain rfl : k = 0 := by omega
    exact kq_38
  rcases Nat.lt_or_ge k 2 with h1 | h1
  · obtain rfl : k = 1 := by omega
    exact kq_40
  omega
theorem kq_inX7 : ∀ w ∈ u_ws RX7 TX7 7, w ∈ kq_W := by
  intro w hw
  obtain ⟨k, hk, rfl⟩ := List.mem_map.mp hw
  have hk := List.mem_range.mp hk
  rcases Nat.lt_or_ge k 1 with h0 | h0
  · obtain rfl : k = 0 := by omega
    exact kq_80
  rcases Nat.lt_or_ge k 2 with h1 | h1
  · obtain rfl : k = 1 := by omega
    exact kq_82
  rcases Nat.lt_or_ge k 3 with h2 | h2
  · obtain rfl : k = 2 := by omega
    exact kq_84
  rcases Nat.lt_or_ge k 4 with h3 | h3
  · obtain rfl : k = 3 := by omega
    exact kq_86
  rcases Nat.lt_or_ge k 5 with h4 | h4
  · obtain rfl : k = 4 := by omega
    exact kq_88
  rcases Nat.lt_or_ge k 6 with h5 | h5
  · obtain rfl : k = 5 := by omega
    exact kq_90
  rcases Nat.lt_or_ge k 7 with h6 | h6
  · obtain rfl : k = 6 := by omega
    exact kq_92
  omega
theorem kq_inX8 : ∀ w ∈ u_ws RX8 TX8 8, w ∈ kq_W := by
  intro w hw
  obtain ⟨k, hk, rfl⟩ := List.mem_map.mp hw
  have hk := List.mem_range.mp hk
  rcases Nat.lt_or_ge k 1 with h0 | h0
  · obtain rfl : k = 0 := by omega
    exact kq_239
  rcases Nat.lt_or_ge k 2 with h1 | h1
  · obtain rfl : k = 1 := by omega
    exact kq_241
  rcases Nat.lt_or_ge k 3 with h2 | h2
  · obtain rfl : k = 2 := by omega
    exact kq_243
  rcases Nat.lt_or_ge k 4 with h3 | h3
  · obtain rfl : k = 3 := by omega
    exact kq_245
  rcases Nat.lt_or_ge k 5 with h4 | h4
  · obtain rfl : k = 4 := by omega
    exact kq_247
  rcases Nat.lt_or_ge k 6 with h5 | h5
  · obtain rfl : k = 5 := by omega
    exact kq_249
  rcases Nat.lt_or_ge k 7 with h6 | h6
  · obtain rfl : k = 6 := by omega
    exact kq_251
  rcases Nat.lt_or_ge k 8 with h7 | h7
  · obtain rfl : k = 7 := by omega
    exact kq_253
  omega
