theorem tw1 : (Jvm.Cond.initialized "OneBack") ∈ GT := GT_t 1 (by decide +kernel) rfl
theorem tw2 : (Jvm.Cond.initialized "OneBack$Told") ∈ GT := GT_t 2 (by decide +kernel) rfl
theorem tw3 : (Jvm.Cond.initialized "OneBack$Town") ∈ GT := GT_t 3 (by decide +kernel) rfl
theorem tw4 : (Jvm.Cond.initialized "OneBack$Law") ∈ GT := GT_t 4 (by decide +kernel) rfl
theorem tw5 : (Jvm.Cond.initialized "OneBack$Nights") ∈ GT := GT_t 5 (by decide +kernel) rfl
theorem tw6 : (Jvm.Cond.initialized "OneBack$Sight") ∈ GT := GT_t 6 (by decide +kernel) rfl
theorem tw7 : (Jvm.Cond.initialized "OneBack$Reader") ∈ GT := GT_t 7 (by decide +kernel) rfl
theorem tw8 : (Jvm.Cond.initialized "OneBack$Walk") ∈ GT := GT_t 8 (by decide +kernel) rfl
theorem tw9 : (Jvm.Cond.initialized "OneBack$Supply") ∈ GT := GT_t 9 (by decide +kernel) rfl
theorem tw10 : (Jvm.Cond.initialized "OneBack$Porter") ∈ GT := GT_t 10 (by decide +kernel) rfl
theorem tw11 : (Jvm.Cond.initialized "OneBackModel") ∈ GT := GT_t 11 (by decide +kernel) rfl
theorem tw12 : (Jvm.Cond.initialized "java/lang/Math") ∈ GT := GT_t 12 (by decide +kernel) rfl
theorem tw13 : (Jvm.Cond.initialized "java/lang/String") ∈ GT := GT_t 13 (by decide +kernel) rfl
theorem tw14 : (Jvm.Cond.initialized "java/lang/StringLatin1") ∈ GT := GT_t 14 (by decide +kernel) rfl
theorem tw15 : (Jvm.Cond.initialized "jdk/internal/util/Preconditions") ∈ GT := GT_t 15 (by decide +kernel) rfl
theorem tw17 : (Jvm.Cond.initialized "java/lang/System") ∈ GT := GT_t 17 (by decide +kernel) rfl
theorem tw18 : (Jvm.Cond.initialized "OneBack$Views") ∈ GT := GT_t 18 (by decide +kernel) rfl
theorem tw19 : (Jvm.Cond.initialized "java/lang/Integer") ∈ GT := GT_t 19 (by decide +kernel) rfl
theorem tw20 : (Jvm.Cond.classLink "OneBackLaw" (7 : Nat) "OneBack") ∈ GT := GT_t 20 (by decide +kernel) rfl
theorem tw21 : (Jvm.Cond.instantiable "OneBack" (6 : Nat)) ∈ GT := GT_t 21 (by decide +kernel) rfl
theorem tw22 : (Jvm.Cond.methodLink "OneBackLaw" (9 : Nat) ({ cls := "OneBack", name := "<init>", desc := "()V" } : Jvm.MethodName)) ∈ GT := GT_t 22 (by decide +kernel) rfl
theorem tw23 : (Jvm.Cond.instanceMethod ({ cls := "OneBack", name := "<init>", desc := "()V" } : Jvm.MethodName)) ∈ GT := GT_t 23 (by decide +kernel) rfl
theorem tw24 : (Jvm.Cond.code ({ cls := "OneBack", name := "<init>", desc := "()V" } : Jvm.MethodName) prog_1_method_1_code (1 : Nat) (Option.none : Option Jvm.ClassFile.FieldType)) ∈ GT := GT_t 24 (by decide +kernel) rfl
theorem tw25 : (Jvm.Cond.methodLink "OneBack" (3 : Nat) ({ cls := "java/lang/Object", name := "<init>", desc := "()V" } : Jvm.MethodName)) ∈ GT := GT_t 25 (by decide +kernel) rfl
theorem tw26 : (Jvm.Cond.instanceMethod ({ cls := "java/lang/Object", name := "<init>", desc := "()V" } : Jvm.MethodName)) ∈ GT := GT_t 26 (by decide +kernel) rfl
theorem tw27 : (Jvm.Cond.code ({ cls := "java/lang/Object", name := "<init>", desc := "()V" } : Jvm.MethodName) object_method_1_code (1 : Nat) (Option.none : Option Jvm.ClassFile.FieldType)) ∈ GT := GT_t 27 (by decide +kernel) rfl
theorem tw28 : (Jvm.Cond.classLink "OneBack" (9 : Nat) "OneBack$Told") ∈ GT := GT_t 28 (by decide +kernel) rfl
theorem tw29 : (Jvm.Cond.instantiable "OneBack$Told" (9 : Nat)) ∈ GT := GT_t 29 (by decide +kernel) rfl
theorem tw30 : (Jvm.Cond.methodLink "OneBack" (11 : Nat) ({ cls := "OneBack$Told", name := "<init>", desc := "()V" } : Jvm.MethodName)) ∈ GT := GT_t 30 (by decide +kernel) rfl
theorem tw31 : (Jvm.Cond.instanceMethod ({ cls := "OneBack$Told", name := "<init>", desc := "()V" } : Jvm.MethodName)) ∈ GT := GT_t 31 (by decide +kernel) rfl
theorem tw32 : (Jvm.Cond.code ({ cls := "OneBack$Told", name := "<init>", desc := "()V" } : Jvm.MethodName) prog_8_method_1_code (2 : Nat) (Option.none : Option Jvm.ClassFile.FieldType)) ∈ GT := GT_t 32 (by decide +kernel) rfl
theorem tw33 : (Jvm.Cond.methodLink "OneBack$Told" (3 : Nat) ({ cls := "java/lang/Object", name := "<init>", desc := "()V" } : Jvm.MethodName)) ∈ GT := GT_t 33 (by decide +kernel) rfl
theorem tw34 : (Jvm.Cond.classLink "OneBack$Told" (29 : Nat) "OneBack$Town") ∈ GT := GT_t 34 (by decide +kernel) rfl
theorem tw36 : (Jvm.Cond.classLink "OneBack$Told" (35 : Nat) "OneBack$Law") ∈ GT := GT_t 36 (by decide +kernel) rfl
theorem tw38 : (Jvm.Cond.classLink "OneBack$Told" (41 : Nat) "OneBack$Nights") ∈ GT := GT_t 38 (by decide +kernel) rfl
theorem tw40 : (Jvm.Cond.classLink "OneBack$Told" (47 : Nat) "OneBack$Sight") ∈ GT := GT_t 40 (by decide +kernel) rfl
theorem tw42 : (Jvm.Cond.instantiable "OneBack$Town" (10 : Nat)) ∈ GT := GT_t 42 (by decide +kernel) rfl
theorem tw43 : (Jvm.Cond.methodLink "OneBack$Told" (53 : Nat) ({ cls := "OneBack$Town", name := "<init>", desc := "()V" } : Jvm.MethodName)) ∈ GT := GT_t 43 (by decide +kernel) rfl
theorem tw44 : (Jvm.Cond.instanceMethod ({ cls := "OneBack$Town", name := "<init>", desc := "()V" } : Jvm.MethodName)) ∈ GT := GT_t 44 (by decide +kernel) rfl
theorem tw45 : (Jvm.Cond.code ({ cls := "OneBack$Town", name := "<init>", desc := "()V" } : Jvm.MethodName) prog_9_method_1_code (1 : Nat) (Option.none : Option Jvm.ClassFile.FieldType)) ∈ GT := GT_t 45 (by decide +kernel) rfl
theorem tw46 : (Jvm.Cond.methodLink "OneBack$Town" (3 : Nat) ({ cls := "java/lang/Object", name := "<init>", desc := "()V" } : Jvm.MethodName)) ∈ GT := GT_t 46 (by decide +kernel) rfl
theorem tw47 : (Jvm.Cond.methodLink "OneBack$Town" (36 : Nat) ({ cls := "OneBack$Town", name := "clear", desc := "()V" } : Jvm.MethodName)) ∈ GT := GT_t 47 (by decide +kernel) rfl
theorem tw48 : (Jvm.Cond.instanceMethod ({ cls := "OneBack$Town", name := "clear", desc := "()V" } : Jvm.MethodName)) ∈ GT := GT_t 48 (by decide +kernel) rfl
theorem tw49 : (Jvm.Cond.selects "OneBack$Town" ({ cls := "OneBack$Town", name := "clear", desc := "()V" } : Jvm.MethodName) ({ cls := "OneBack$Town", name := "clear", desc := "()V" } : Jvm.MethodName)) ∈ GT := GT_t 49 (by decide +kernel) rfl
theorem tw50 : (Jvm.Cond.code ({ cls := "OneBack$Town", name := "clear", desc := "()V" } : Jvm.MethodName) prog_9_method_2_code (2 : Nat) (Option.none : Option Jvm.ClassFile.FieldType)) ∈ GT := GT_t 50 (by decide +kernel) rfl
theorem tw52 : (Jvm.Cond.static ({ cls := "OneBack", name := "fillRow", desc := "([II)V" } : Jvm.MethodName)) ∈ GT := GT_t 52 (by decide +kernel) rfl
theorem tw53 : (Jvm.Cond.code ({ cls := "OneBack", name := "fillRow", desc := "([II)V" } : Jvm.MethodName) prog_1_method_43_code (3 : Nat) (Option.none : Option Jvm.ClassFile.FieldType)) ∈ GT := GT_t 53 (by decide +kernel) rfl
theorem tw54 : (Jvm.Cond.fieldLink "OneBack$Town" (39 : Nat) "OneBack$Town" "houses" "I") ∈ GT := GT_t 54 (by decide +kernel) rfl
theorem tw55 : (Jvm.Cond.fieldLink "OneBack$Supply" (18 : Nat) "OneBack$Town" "houses" "I") ∈ GT := GT_t 55 (by decide +kernel) rfl
theorem tw56 : (Jvm.Cond.fieldLink "OneBack$Reader" (96 : Nat) "OneBack$Town" "houses" "I") ∈ GT := GT_t 56 (by decide +kernel) rfl
theorem tw57 : (Jvm.Cond.fieldLink "OneBack$Views" (59 : Nat) "OneBack$Town" "houses" "I") ∈ GT := GT_t 57 (by decide +kernel) rfl
theorem tw58 : (Jvm.Cond.fieldLink "OneBack" (96 : Nat) "OneBack$Town" "houses" "I") ∈ GT := GT_t 58 (by decide +kernel) rfl
theorem tw59 : (Jvm.Cond.fieldLink "OneBack$Sight" (75 : Nat) "OneBack$Town" "houses" "I") ∈ GT := GT_t 59 (by decide +kernel) rfl
theorem tw60 : (Jvm.Cond.fieldLink "OneBack$Walk" (177 : Nat) "OneBack$Town" "houses" "I") ∈ GT := GT_t 60 (by decide +kernel) rfl
theorem tw61 : (Jvm.Cond.fieldLink "OneBack$Town" (43 : Nat) "OneBack$Town" "thieves" "I") ∈ GT := GT_t 61 (by decide +kernel) rfl
theorem tw62 : (Jvm.Cond.fieldLink "OneBack$Reader" (99 : Nat) "OneBack$Town" "thieves" "I") ∈ GT := GT_t 62 (by decide +kernel) rfl
theorem tw63 : (Jvm.Cond.fieldLink "OneBack$Views" (66 : Nat) "OneBack$Town" "thieves" "I") ∈ GT := GT_t 63 (by decide +kernel) rfl
theorem tw64 : (Jvm.Cond.fieldLink "OneBack" (101 : Nat) "OneBack$Town" "thieves" "I") ∈ GT := GT_t 64 (by decide +kernel) rfl
theorem tw65 : (Jvm.Cond.fieldLink "OneBack$Walk" (167 : Nat) "OneBack$Town" "thieves" "I") ∈ GT := GT_t 65 (by decide +kernel) rfl
theorem tw66 : (Jvm.Cond.fieldLink "OneBack$Town" (9 : Nat) "OneBack$Town" "has" "[I") ∈ GT := GT_t 66 (by decide +kernel) rfl
theorem tw67 : (Jvm.Cond.fieldLink "OneBack$Walk" (66 : Nat) "OneBack$Town" "has" "[I") ∈ GT := GT_t 67 (by decide +kernel) rfl
theorem tw68 : (Jvm.Cond.fieldLink "OneBack$Porter" (41 : Nat) "OneBack$Town" "has" "[I") ∈ GT := GT_t 68 (by decide +kernel) rfl
theorem tw69 : (Jvm.Cond.fieldLink "OneBack" (133 : Nat) "OneBack$Town" "has" "[I") ∈ GT := GT_t 69 (by decide +kernel) rfl
theorem tw70 : (Jvm.Cond.fieldLink "OneBack$Sight" (80 : Nat) "OneBack$Town" "has" "[I") ∈ GT := GT_t 70 (by decide +kernel) rfl
theorem tw71 : (Jvm.Cond.fieldLink "OneBack$Reader" (219 : Nat) "OneBack$Town" "has" "[I") ∈ GT := GT_t 71 (by decide +kernel) rfl
theorem tw72 : (Jvm.Cond.fieldLink "OneBack$Town" (15 : Nat) "OneBack$Town" "needs" "[I") ∈ GT := GT_t 72 (by decide +kernel) rfl
theorem tw73 : (Jvm.Cond.fieldLink "OneBack$Walk" (127 : Nat) "OneBack$Town" "needs" "[I") ∈ GT := GT_t 73 (by decide +kernel) rfl
theorem tw74 : (Jvm.Cond.fieldLink "OneBack" (139 : Nat) "OneBack$Town" "needs" "[I") ∈ GT := GT_t 74 (by decide +kernel) rfl
theorem tw75 : (Jvm.Cond.fieldLink "OneBack$Reader" (221 : Nat) "OneBack$Town" "needs" "[I") ∈ GT := GT_t 75 (by decide +kernel) rfl
theorem tw76 : (Jvm.Cond.fieldLink "OneBack$Town" (18 : Nat) "OneBack$Town" "watch" "[I") ∈ GT := GT_t 76 (by decide +kernel) rfl
theorem tw77 : (Jvm.Cond.fieldLink "OneBack$Supply" (35 : Nat) "OneBack$Town" "watch" "[I") ∈ GT := GT_t 77 (by decide +kernel) rfl
theorem tw78 : (Jvm.Cond.fieldLink "OneBack" (108 : Nat) "OneBack$Town" "watch" "[I") ∈ GT := GT_t 78 (by decide +kernel) rfl
theorem tw79 : (Jvm.Cond.fieldLink "OneBack$Walk" (157 : Nat) "OneBack$Town" "watch" "[I") ∈ GT := GT_t 79 (by decide +kernel) rfl
theorem tw80 : (Jvm.Cond.fieldLink "OneBack$Reader" (223 : Nat) "OneBack$Town" "watch" "[I") ∈ GT := GT_t 80 (by decide +kernel) rfl
theorem tw81 : (Jvm.Cond.fieldLink "OneBack$Town" (21 : Nat) "OneBack$Town" "passes" "[I") ∈ GT := GT_t 81 (by decide +kernel) rfl
theorem tw82 : (Jvm.Cond.fieldLink "OneBack" (112 : Nat) "OneBack$Town" "passes" "[I") ∈ GT := GT_t 82 (by decide +kernel) rfl
theorem tw83 : (Jvm.Cond.fieldLink "OneBack$Reader" (225 : Nat) "OneBack$Town" "passes" "[I") ∈ GT := GT_t 83 (by decide +kernel) rfl
theorem tw84 : (Jvm.Cond.fieldLink "OneBack$Town" (24 : Nat) "OneBack$Town" "weight" "[I") ∈ GT := GT_t 84 (by decide +kernel) rfl
theorem tw85 : (Jvm.Cond.fieldLink "OneBack$Porter" (55 : Nat) "OneBack$Town" "weight" "[I") ∈ GT := GT_t 85 (by decide +kernel) rfl
theorem tw86 : (Jvm.Cond.fieldLink "OneBack" (118 : Nat) "OneBack$Town" "weight" "[I") ∈ GT := GT_t 86 (by decide +kernel) rfl
theorem tw87 : (Jvm.Cond.fieldLink "OneBack$Supply" (61 : Nat) "OneBack$Town" "weight" "[I") ∈ GT := GT_t 87 (by decide +kernel) rfl
theorem tw88 : (Jvm.Cond.fieldLink "OneBack$Reader" (230 : Nat) "OneBack$Town" "weight" "[I") ∈ GT := GT_t 88 (by decide +kernel) rfl
theorem tw89 : (Jvm.Cond.fieldLink "OneBack$Town" (27 : Nat) "OneBack$Town" "worth" "[I") ∈ GT := GT_t 89 (by decide +kernel) rfl
theorem tw90 : (Jvm.Cond.fieldLink "OneBack$Porter" (58 : Nat) "OneBack$Town" "worth" "[I") ∈ GT := GT_t 90 (by decide +kernel) rfl
theorem tw91 : (Jvm.Cond.fieldLink "OneBack" (121 : Nat) "OneBack$Town" "worth" "[I") ∈ GT := GT_t 91 (by decide +kernel) rfl
theorem tw92 : (Jvm.Cond.fieldLink "OneBack$Reader" (232 : Nat) "OneBack$Town" "worth" "[I") ∈ GT := GT_t 92 (by decide +kernel) rfl
theorem tw93 : (Jvm.Cond.fieldLink "OneBack$Town" (30 : Nat) "OneBack$Town" "limit" "[I") ∈ GT := GT_t 93 (by decide +kernel) rfl
theorem tw94 : (Jvm.Cond.fieldLink "OneBack" (127 : Nat) "OneBack$Town" "limit" "[I") ∈ GT := GT_t 94 (by decide +kernel) rfl
theorem tw95 : (Jvm.Cond.fieldLink "OneBack$Walk" (148 : Nat) "OneBack$Town" "limit" "[I") ∈ GT := GT_t 95 (by decide +kernel) rfl
theorem tw96 : (Jvm.Cond.fieldLink "OneBack$Town" (33 : Nat) "OneBack$Town" "father" "[I") ∈ GT := GT_t 96 (by decide +kernel) rfl
theorem tw97 : (Jvm.Cond.fieldLink "OneBack" (130 : Nat) "OneBack$Town" "father" "[I") ∈ GT := GT_t 97 (by decide +kernel) rfl
theorem tw98 : (Jvm.Cond.fieldLink "OneBack$Reader" (234 : Nat) "OneBack$Town" "father" "[I") ∈ GT := GT_t 98 (by decide +kernel) rfl
theorem tw120 : (Jvm.Cond.arrayClass Jvm.ClassFile.FieldType.byte) ∈ GT := GT_t 120 (by decide +kernel) rfl
theorem tw121 : (Jvm.Cond.arrayClass Jvm.ClassFile.FieldType.int) ∈ GT := GT_t 121 (by decide +kernel) rfl
theorem tw122 : (Jvm.Cond.instantiable "OneBack$Law" (3 : Nat)) ∈ GT := GT_t 122 (by decide +kernel) rfl
theorem tw124 : (Jvm.Cond.instanceMethod ({ cls := "OneBack$Law", name := "<init>", desc := "()V" } : Jvm.MethodName)) ∈ GT := GT_t 124 (by decide +kernel) rfl
theorem tw125 : (Jvm.Cond.code ({ cls := "OneBack$Law", name := "<init>", desc := "()V" } : Jvm.MethodName) prog_2_method_1_code (1 : Nat) (Option.none : Option Jvm.ClassFile.FieldType)) ∈ GT := GT_t 125 (by decide +kernel) rfl
theorem tw126 : (Jvm.Cond.methodLink "OneBack$Law" (3 : Nat) ({ cls := "java/lang/Object", name := "<init>", desc := "()V" } : Jvm.MethodName)) ∈ GT := GT_t 126 (by decide +kernel) rfl
theorem tw127 : (Jvm.Cond.fieldLink "OneBack$Law" (9 : Nat) "OneBack$Law" "rate" "I") ∈ GT := GT_t 127 (by decide +kernel) rfl
theorem tw128 : (Jvm.Cond.fieldLink "OneBack" (152 : Nat) "OneBack$Law" "rate" "I") ∈ GT := GT_t 128 (by decide +kernel) rfl
theorem tw129 : (Jvm.Cond.fieldLink "OneBack$Reader" (240 : Nat) "OneBack$Law" "rate" "I") ∈ GT := GT_t 129 (by decide +kernel) rfl
theorem tw130 : (Jvm.Cond.fieldLink "OneBack$Law" (15 : Nat) "OneBack$Law" "caughtAt" "I") ∈ GT := GT_t 130 (by decide +kernel) rfl
theorem tw131 : (Jvm.Cond.fieldLink "OneBack" (157 : Nat) "OneBack$Law" "caughtAt" "I") ∈ GT := GT_t 131 (by decide +kernel) rfl
theorem tw132 : (Jvm.Cond.fieldLink "OneBack$Walk" (170 : Nat) "OneBack$Law" "caughtAt" "I") ∈ GT := GT_t 132 (by decide +kernel) rfl
theorem tw133 : (Jvm.Cond.fieldLink "OneBack$Reader" (242 : Nat) "OneBack$Law" "caughtAt" "I") ∈ GT := GT_t 133 (by decide +kernel) rfl
theorem tw134 : (Jvm.Cond.fieldLink "OneBack$Law" (18 : Nat) "OneBack$Law" "doubles" "I") ∈ GT := GT_t 134 (by decide +kernel) rfl
theorem tw135 : (Jvm.Cond.fieldLink "OneBack$Reader" (245 : Nat) "OneBack$Law" "doubles" "I") ∈ GT := GT_t 135 (by decide +kernel) rfl
theorem tw143 : (Jvm.Cond.instantiable "OneBack$Nights" (5 : Nat)) ∈ GT := GT_t 143 (by decide +kernel) rfl
theorem tw145 : (Jvm.Cond.instanceMethod ({ cls := "OneBack$Nights", name := "<init>", desc := "()V" } : Jvm.MethodName)) ∈ GT := GT_t 145 (by decide +kernel) rfl
theorem tw146 : (Jvm.Cond.code ({ cls := "OneBack$Nights", name := "<init>", desc := "()V" } : Jvm.MethodName) prog_3_method_1_code (1 : Nat) (Option.none : Option Jvm.ClassFile.FieldType)) ∈ GT := GT_t 146 (by decide +kernel) rfl
theorem tw147 : (Jvm.Cond.methodLink "OneBack$Nights" (3 : Nat) ({ cls := "java/lang/Object", name := "<init>", desc := "()V" } : Jvm.MethodName)) ∈ GT := GT_t 147 (by decide +kernel) rfl
theorem tw148 : (Jvm.Cond.fieldLink "OneBack$Nights" (9 : Nat) "OneBack$Nights" "size" "I") ∈ GT := GT_t 148 (by decide +kernel) rfl
theorem tw149 : (Jvm.Cond.fieldLink "OneBack$Walk" (77 : Nat) "OneBack$Nights" "size" "I") ∈ GT := GT_t 149 (by decide +kernel) rfl
theorem tw150 : (Jvm.Cond.fieldLink "OneBack$Reader" (138 : Nat) "OneBack$Nights" "size" "I") ∈ GT := GT_t 150 (by decide +kernel) rfl
theorem tw151 : (Jvm.Cond.fieldLink "OneBack" (168 : Nat) "OneBack$Nights" "size" "I") ∈ GT := GT_t 151 (by decide +kernel) rfl
theorem tw152 : (Jvm.Cond.fieldLink "OneBack$Nights" (15 : Nat) "OneBack$Nights" "kind" "[I") ∈ GT := GT_t 152 (by decide +kernel) rfl
theorem tw153 : (Jvm.Cond.fieldLink "OneBack$Walk" (101 : Nat) "OneBack$Nights" "kind" "[I") ∈ GT := GT_t 153 (by decide +kernel) rfl
theorem tw154 : (Jvm.Cond.fieldLink "OneBack" (173 : Nat) "OneBack$Nights" "kind" "[I") ∈ GT := GT_t 154 (by decide +kernel) rfl
theorem tw155 : (Jvm.Cond.fieldLink "OneBack$Nights" (19 : Nat) "OneBack$Nights" "first" "[I") ∈ GT := GT_t 155 (by decide +kernel) rfl
theorem tw156 : (Jvm.Cond.fieldLink "OneBack$Walk" (92 : Nat) "OneBack$Nights" "first" "[I") ∈ GT := GT_t 156 (by decide +kernel) rfl
theorem tw157 : (Jvm.Cond.fieldLink "OneBack" (176 : Nat) "OneBack$Nights" "first" "[I") ∈ GT := GT_t 157 (by decide +kernel) rfl
theorem tw158 : (Jvm.Cond.fieldLink "OneBack$Nights" (22 : Nat) "OneBack$Nights" "second" "[I") ∈ GT := GT_t 158 (by decide +kernel) rfl
theorem tw159 : (Jvm.Cond.fieldLink "OneBack$Walk" (95 : Nat) "OneBack$Nights" "second" "[I") ∈ GT := GT_t 159 (by decide +kernel) rfl
theorem tw160 : (Jvm.Cond.fieldLink "OneBack" (179 : Nat) "OneBack$Nights" "second" "[I") ∈ GT := GT_t 160 (by decide +kernel) rfl
theorem tw161 : (Jvm.Cond.fieldLink "OneBack$Nights" (25 : Nat) "OneBack$Nights" "third" "[I") ∈ GT := GT_t 161 (by decide +kernel) rfl
theorem tw162 : (Jvm.Cond.fieldLink "OneBack$Walk" (98 : Nat) "OneBack$Nights" "third" "[I") ∈ GT := GT_t 162 (by decide +kernel) rfl
theorem tw163 : (Jvm.Cond.fieldLink "OneBack" (182 : Nat) "OneBack$Nights" "third" "[I") ∈ GT := GT_t 163 (by decide +kernel) rfl
theorem tw175 : (Jvm.Cond.instantiable "OneBack$Sight" (4 : Nat)) ∈ GT := GT_t 175 (by decide +kernel) rfl
theorem tw176 : (Jvm.Cond.methodLink "OneBack$Told" (56 : Nat) ({ cls := "OneBack$Sight", name := "<init>", desc := "()V" } : Jvm.MethodName)) ∈ GT := GT_t 176 (by decide +kernel) rfl
theorem tw177 : (Jvm.Cond.instanceMethod ({ cls := "OneBack$Sight", name := "<init>", desc := "()V" } : Jvm.MethodName)) ∈ GT := GT_t 177 (by decide +kernel) rfl
theorem tw178 : (Jvm.Cond.code ({ cls := "OneBack$Sight", name := "<init>", desc := "()V" } : Jvm.MethodName) prog_6_method_1_code (1 : Nat) (Option.none : Option Jvm.ClassFile.FieldType)) ∈ GT := GT_t 178 (by decide +kernel) rfl
theorem tw179 : (Jvm.Cond.methodLink "OneBack$Sight" (3 : Nat) ({ cls := "java/lang/Object", name := "<init>", desc := "()V" } : Jvm.MethodName)) ∈ GT := GT_t 179 (by decide +kernel) rfl
theorem tw180 : (Jvm.Cond.methodLink "OneBack$Sight" (25 : Nat) ({ cls := "OneBack$Sight", name := "clear", desc := "()V" } : Jvm.MethodName)) ∈ GT := GT_t 180 (by decide +kernel) rfl
theorem tw181 : (Jvm.Cond.instanceMethod ({ cls := "OneBack$Sight", name := "clear", desc := "()V" } : Jvm.MethodName)) ∈ GT := GT_t 181 (by decide +kernel) rfl
theorem tw182 : (Jvm.Cond.selects "OneBack$Sight" ({ cls := "OneBack$Sight", name := "clear", desc := "()V" } : Jvm.MethodName) ({ cls := "OneBack$Sight", name := "clear", desc := "()V" } : Jvm.MethodName)) ∈ GT := GT_t 182 (by decide +kernel) rfl
theorem tw183 : (Jvm.Cond.code ({ cls := "OneBack$Sight", name := "clear", desc := "()V" } : Jvm.MethodName) prog_6_method_2_code (1 : Nat) (Option.none : Option Jvm.ClassFile.FieldType)) ∈ GT := GT_t 183 (by decide +kernel) rfl
theorem tw185 : (Jvm.Cond.fieldLink "OneBack$Sight" (9 : Nat) "OneBack$Sight" "size" "I") ∈ GT := GT_t 185 (by decide +kernel) rfl
theorem tw186 : (Jvm.Cond.fieldLink "OneBack$Reader" (141 : Nat) "OneBack$Sight" "size" "I") ∈ GT := GT_t 186 (by decide +kernel) rfl
theorem tw187 : (Jvm.Cond.fieldLink "OneBack" (251 : Nat) "OneBack$Sight" "size" "I") ∈ GT := GT_t 187 (by decide +kernel) rfl
theorem tw188 : (Jvm.Cond.fieldLink "OneBack$Sight" (15 : Nat) "OneBack$Sight" "house" "[I") ∈ GT := GT_t 188 (by decide +kernel) rfl
theorem tw189 : (Jvm.Cond.fieldLink "OneBack" (254 : Nat) "OneBack$Sight" "house" "[I") ∈ GT := GT_t 189 (by decide +kernel) rfl
theorem tw190 : (Jvm.Cond.fieldLink "OneBack$Sight" (19 : Nat) "OneBack$Sight" "good" "[I") ∈ GT := GT_t 190 (by decide +kernel) rfl
theorem tw191 : (Jvm.Cond.fieldLink "OneBack" (257 : Nat) "OneBack$Sight" "good" "[I") ∈ GT := GT_t 191 (by decide +kernel) rfl
theorem tw192 : (Jvm.Cond.fieldLink "OneBack$Sight" (22 : Nat) "OneBack$Sight" "left" "[I") ∈ GT := GT_t 192 (by decide +kernel) rfl
theorem tw193 : (Jvm.Cond.fieldLink "OneBack$Reader" (214 : Nat) "OneBack$Sight" "left" "[I") ∈ GT := GT_t 193 (by decide +kernel) rfl
theorem tw194 : (Jvm.Cond.fieldLink "OneBack" (260 : Nat) "OneBack$Sight" "left" "[I") ∈ GT := GT_t 194 (by decide +kernel) rfl
theorem tw204 : (Jvm.Cond.fieldLink "OneBack$Told" (9 : Nat) "OneBack$Told" "tape" "[B") ∈ GT := GT_t 204 (by decide +kernel) rfl
theorem tw205 : (Jvm.Cond.fieldLink "OneBack" (78 : Nat) "OneBack$Told" "tape" "[B") ∈ GT := GT_t 205 (by decide +kernel) rfl
theorem tw206 : (Jvm.Cond.fieldLink "OneBack$Told" (15 : Nat) "OneBack$Told" "length" "I") ∈ GT := GT_t 206 (by decide +kernel) rfl
theorem tw207 : (Jvm.Cond.fieldLink "OneBack" (60 : Nat) "OneBack$Told" "length" "I") ∈ GT := GT_t 207 (by decide +kernel) rfl
theorem tw208 : (Jvm.Cond.fieldLink "OneBack$Told" (19 : Nat) "OneBack$Told" "fault" "I") ∈ GT := GT_t 208 (by decide +kernel) rfl
theorem tw209 : (Jvm.Cond.fieldLink "OneBack" (68 : Nat) "OneBack$Told" "fault" "I") ∈ GT := GT_t 209 (by decide +kernel) rfl
theorem tw210 : (Jvm.Cond.fieldLink "OneBack$Told" (22 : Nat) "OneBack$Told" "place" "I") ∈ GT := GT_t 210 (by decide +kernel) rfl
theorem tw211 : (Jvm.Cond.fieldLink "OneBack" (71 : Nat) "OneBack$Told" "place" "I") ∈ GT := GT_t 211 (by decide +kernel) rfl
theorem tw212 : (Jvm.Cond.fieldLink "OneBack$Told" (25 : Nat) "OneBack$Told" "counts" "[I") ∈ GT := GT_t 212 (by decide +kernel) rfl
theorem tw213 : (Jvm.Cond.fieldLink "OneBack" (332 : Nat) "OneBack$Told" "counts" "[I") ∈ GT := GT_t 213 (by decide +kernel) rfl
theorem tw214 : (Jvm.Cond.fieldLink "OneBack$Told" (31 : Nat) "OneBack$Told" "towns" "[LOneBack$Town;") ∈ GT := GT_t 214 (by decide +kernel) rfl
theorem tw215 : (Jvm.Cond.fieldLink "OneBack" (29 : Nat) "OneBack$Told" "towns" "[LOneBack$Town;") ∈ GT := GT_t 215 (by decide +kernel) rfl
theorem tw216 : (Jvm.Cond.fieldLink "OneBack$Told" (37 : Nat) "OneBack$Told" "laws" "[LOneBack$Law;") ∈ GT := GT_t 216 (by decide +kernel) rfl
theorem tw217 : (Jvm.Cond.fieldLink "OneBack" (33 : Nat) "OneBack$Told" "laws" "[LOneBack$Law;") ∈ GT := GT_t 217 (by decide +kernel) rfl
theorem tw218 : (Jvm.Cond.fieldLink "OneBack$Told" (43 : Nat) "OneBack$Told" "nights" "[LOneBack$Nights;") ∈ GT := GT_t 218 (by decide +kernel) rfl
theorem tw219 : (Jvm.Cond.fieldLink "OneBack$Told" (49 : Nat) "OneBack$Told" "sights" "[LOneBack$Sight;") ∈ GT := GT_t 219 (by decide +kernel) rfl
theorem tw240 : (Jvm.Cond.classLink "OneBack" (20 : Nat) "OneBack$Reader") ∈ GT := GT_t 240 (by decide +kernel) rfl
theorem tw241 : (Jvm.Cond.instantiable "OneBack$Reader" (16 : Nat)) ∈ GT := GT_t 241 (by decide +kernel) rfl
theorem tw243 : (Jvm.Cond.instanceMethod ({ cls := "OneBack$Reader", name := "<init>", desc := "()V" } : Jvm.MethodName)) ∈ GT := GT_t 243 (by decide +kernel) rfl
theorem tw244 : (Jvm.Cond.code ({ cls := "OneBack$Reader", name := "<init>", desc := "()V" } : Jvm.MethodName) prog_5_method_1_code (1 : Nat) (Option.none : Option Jvm.ClassFile.FieldType)) ∈ GT := GT_t 244 (by decide +kernel) rfl
theorem tw245 : (Jvm.Cond.methodLink "OneBack$Reader" (3 : Nat) ({ cls := "java/lang/Object", name := "<init>", desc := "()V" } : Jvm.MethodName)) ∈ GT := GT_t 245 (by decide +kernel) rfl
theorem tw246 : (Jvm.Cond.classLink "OneBack$Reader" (18 : Nat) "OneBack$Town") ∈ GT := GT_t 246 (by decide +kernel) rfl
theorem tw247 : (Jvm.Cond.methodLink "OneBack$Reader" (20 : Nat) ({ cls := "OneBack$Town", name := "<init>", desc := "()V" } : Jvm.MethodName)) ∈ GT := GT_t 247 (by decide +kernel) rfl
theorem tw248 : (Jvm.Cond.classLink "OneBack$Reader" (25 : Nat) "OneBack$Law") ∈ GT := GT_t 248 (by decide +kernel) rfl
theorem tw250 : (Jvm.Cond.classLink "OneBack$Reader" (32 : Nat) "OneBack$Nights") ∈ GT := GT_t 250 (by decide +kernel) rfl
theorem tw252 : (Jvm.Cond.classLink "OneBack$Reader" (39 : Nat) "OneBack$Sight") ∈ GT := GT_t 252 (by decide +kernel) rfl
theorem tw253 : (Jvm.Cond.methodLink "OneBack$Reader" (41 : Nat) ({ cls := "OneBack$Sight", name := "<init>", desc := "()V" } : Jvm.MethodName)) ∈ GT := GT_t 253 (by decide +kernel) rfl
theorem tw254 : (Jvm.Cond.fieldLink "OneBack$Reader" (9 : Nat) "OneBack$Reader" "fault" "I") ∈ GT := GT_t 254 (by decide +kernel) rfl
theorem tw255 : (Jvm.Cond.fieldLink "OneBack" (86 : Nat) "OneBack$Reader" "fault" "I") ∈ GT := GT_t 255 (by decide +kernel) rfl
theorem tw256 : (Jvm.Cond.fieldLink "OneBack$Reader" (15 : Nat) "OneBack$Reader" "place" "I") ∈ GT := GT_t 256 (by decide +kernel) rfl
theorem tw257 : (Jvm.Cond.fieldLink "OneBack" (87 : Nat) "OneBack$Reader" "place" "I") ∈ GT := GT_t 257 (by decide +kernel) rfl
theorem tw258 : (Jvm.Cond.fieldLink "OneBack$Reader" (21 : Nat) "OneBack$Reader" "town" "LOneBack$Town;") ∈ GT := GT_t 258 (by decide +kernel) rfl
theorem tw259 : (Jvm.Cond.fieldLink "OneBack$Told" (61 : Nat) "OneBack$Reader" "town" "LOneBack$Town;") ∈ GT := GT_t 259 (by decide +kernel) rfl
theorem tw260 : (Jvm.Cond.fieldLink "OneBack$Reader" (28 : Nat) "OneBack$Reader" "law" "LOneBack$Law;") ∈ GT := GT_t 260 (by decide +kernel) rfl
theorem tw261 : (Jvm.Cond.fieldLink "OneBack$Told" (71 : Nat) "OneBack$Reader" "law" "LOneBack$Law;") ∈ GT := GT_t 261 (by decide +kernel) rfl
theorem tw262 : (Jvm.Cond.fieldLink "OneBack$Reader" (35 : Nat) "OneBack$Reader" "nights" "LOneBack$Nights;") ∈ GT := GT_t 262 (by decide +kernel) rfl
theorem tw263 : (Jvm.Cond.fieldLink "OneBack$Told" (78 : Nat) "OneBack$Reader" "nights" "LOneBack$Nights;") ∈ GT := GT_t 263 (by decide +kernel) rfl
theorem tw264 : (Jvm.Cond.fieldLink "OneBack$Reader" (42 : Nat) "OneBack$Reader" "sight" "LOneBack$Sight;") ∈ GT := GT_t 264 (by decide +kernel) rfl
theorem tw265 : (Jvm.Cond.fieldLink "OneBack$Told" (84 : Nat) "OneBack$Reader" "sight" "LOneBack$Sight;") ∈ GT := GT_t 265 (by decide +kernel) rfl
theorem tw266 : (Jvm.Cond.fieldLink "OneBack$Reader" (46 : Nat) "OneBack$Reader" "tape" "[B") ∈ GT := GT_t 266 (by decide +kernel) rfl
theorem tw267 : (Jvm.Cond.fieldLink "OneBack$Reader" (50 : Nat) "OneBack$Reader" "length" "I") ∈ GT := GT_t 267 (by decide +kernel) rfl
theorem tw268 : (Jvm.Cond.fieldLink "OneBack$Reader" (53 : Nat) "OneBack$Reader" "next" "I") ∈ GT := GT_t 268 (by decide +kernel) rfl
theorem tw269 : (Jvm.Cond.fieldLink "OneBack$Reader" (56 : Nat) "OneBack$Reader" "token" "I") ∈ GT := GT_t 269 (by decide +kernel) rfl
theorem tw270 : (Jvm.Cond.fieldLink "OneBack$Reader" (59 : Nat) "OneBack$Reader" "start" "I") ∈ GT := GT_t 270 (by decide +kernel) rfl
theorem tw271 : (Jvm.Cond.fieldLink "OneBack$Reader" (62 : Nat) "OneBack$Reader" "value" "I") ∈ GT := GT_t 271 (by decide +kernel) rfl
theorem tw272 : (Jvm.Cond.fieldLink "OneBack$Reader" (65 : Nat) "OneBack$Reader" "numbers" "[I") ∈ GT := GT_t 272 (by decide +kernel) rfl
theorem tw273 : (Jvm.Cond.fieldLink "OneBack$Reader" (69 : Nat) "OneBack$Reader" "broken" "Z") ∈ GT := GT_t 273 (by decide +kernel) rfl
theorem tw274 : (Jvm.Cond.fieldLink "OneBack$Reader" (73 : Nat) "OneBack$Reader" "topHouse" "I") ∈ GT := GT_t 274 (by decide +kernel) rfl
theorem tw275 : (Jvm.Cond.fieldLink "OneBack$Reader" (76 : Nat) "OneBack$Reader" "topThief" "I") ∈ GT := GT_t 275 (by decide +kernel) rfl
theorem tw309 : (Jvm.Cond.classLink "OneBack" (27 : Nat) "OneBack$Walk") ∈ GT := GT_t 309 (by decide +kernel) rfl
theorem tw310 : (Jvm.Cond.instantiable "OneBack$Walk" (17 : Nat)) ∈ GT := GT_t 310 (by decide +kernel) rfl
theorem tw311 : (Jvm.Cond.methodLink "OneBack" (37 : Nat) ({ cls := "OneBack$Walk", name := "<init>", desc := "(LOneBack$Town;LOneBack$Law;)V" } : Jvm.MethodName)) ∈ GT := GT_t 311 (by decide +kernel) rfl
theorem tw312 : (Jvm.Cond.instanceMethod ({ cls := "OneBack$Walk", name := "<init>", desc := "(LOneBack$Town;LOneBack$Law;)V" } : Jvm.MethodName)) ∈ GT := GT_t 312 (by decide +kernel) rfl
theorem tw313 : (Jvm.Cond.code ({ cls := "OneBack$Walk", name := "<init>", desc := "(LOneBack$Town;LOneBack$Law;)V" } : Jvm.MethodName) prog_11_method_1_code (3 : Nat) (Option.none : Option Jvm.ClassFile.FieldType)) ∈ GT := GT_t 313 (by decide +kernel) rfl
theorem tw314 : (Jvm.Cond.methodLink "OneBack$Walk" (3 : Nat) ({ cls := "java/lang/Object", name := "<init>", desc := "()V" } : Jvm.MethodName)) ∈ GT := GT_t 314 (by decide +kernel) rfl
theorem tw315 : (Jvm.Cond.fieldLink "OneBack$Walk" (58 : Nat) "OneBack$Walk" "town" "LOneBack$Town;") ∈ GT := GT_t 315 (by decide +kernel) rfl
theorem tw316 : (Jvm.Cond.fieldLink "OneBack$Views" (28 : Nat) "OneBack$Walk" "town" "LOneBack$Town;") ∈ GT := GT_t 316 (by decide +kernel) rfl
theorem tw317 : (Jvm.Cond.fieldLink "OneBack" (207 : Nat) "OneBack$Walk" "town" "LOneBack$Town;") ∈ GT := GT_t 317 (by decide +kernel) rfl
theorem tw318 : (Jvm.Cond.fieldLink "OneBack$Walk" (62 : Nat) "OneBack$Walk" "law" "LOneBack$Law;") ∈ GT := GT_t 318 (by decide +kernel) rfl
theorem tw319 : (Jvm.Cond.fieldLink "OneBack$Views" (86 : Nat) "OneBack$Walk" "law" "LOneBack$Law;") ∈ GT := GT_t 319 (by decide +kernel) rfl
theorem tw320 : (Jvm.Cond.fieldLink "OneBack$Walk" (9 : Nat) "OneBack$Walk" "has" "[I") ∈ GT := GT_t 320 (by decide +kernel) rfl
theorem tw321 : (Jvm.Cond.fieldLink "OneBack" (211 : Nat) "OneBack$Walk" "has" "[I") ∈ GT := GT_t 321 (by decide +kernel) rfl
theorem tw322 : (Jvm.Cond.fieldLink "OneBack$Views" (149 : Nat) "OneBack$Walk" "has" "[I") ∈ GT := GT_t 322 (by decide +kernel) rfl
theorem tw323 : (Jvm.Cond.fieldLink "OneBack$Walk" (15 : Nat) "OneBack$Walk" "bag" "[I") ∈ GT := GT_t 323 (by decide +kernel) rfl
theorem tw324 : (Jvm.Cond.fieldLink "OneBack" (212 : Nat) "OneBack$Walk" "bag" "[I") ∈ GT := GT_t 324 (by decide +kernel) rfl
theorem tw325 : (Jvm.Cond.fieldLink "OneBack$Views" (146 : Nat) "OneBack$Walk" "bag" "[I") ∈ GT := GT_t 325 (by decide +kernel) rfl
theorem tw326 : (Jvm.Cond.fieldLink "OneBack$Walk" (18 : Nat) "OneBack$Walk" "took" "[I") ∈ GT := GT_t 326 (by decide +kernel) rfl
theorem tw327 : (Jvm.Cond.fieldLink "OneBack$Views" (72 : Nat) "OneBack$Walk" "took" "[I") ∈ GT := GT_t 327 (by decide +kernel) rfl
theorem tw328 : (Jvm.Cond.fieldLink "OneBack" (215 : Nat) "OneBack$Walk" "took" "[I") ∈ GT := GT_t 328 (by decide +kernel) rfl
theorem tw329 : (Jvm.Cond.fieldLink "OneBack$Walk" (21 : Nat) "OneBack$Walk" "gave" "[I") ∈ GT := GT_t 329 (by decide +kernel) rfl
theorem tw330 : (Jvm.Cond.fieldLink "OneBack$Sight" (48 : Nat) "OneBack$Walk" "gave" "[I") ∈ GT := GT_t 330 (by decide +kernel) rfl
theorem tw331 : (Jvm.Cond.fieldLink "OneBack$Walk" (24 : Nat) "OneBack$Walk" "taken" "[I") ∈ GT := GT_t 331 (by decide +kernel) rfl
theorem tw332 : (Jvm.Cond.fieldLink "OneBack$Views" (45 : Nat) "OneBack$Walk" "taken" "[I") ∈ GT := GT_t 332 (by decide +kernel) rfl
theorem tw333 : (Jvm.Cond.fieldLink "OneBack$Walk" (27 : Nat) "OneBack$Walk" "given" "[I") ∈ GT := GT_t 333 (by decide +kernel) rfl
theorem tw334 : (Jvm.Cond.fieldLink "OneBack$Views" (49 : Nat) "OneBack$Walk" "given" "[I") ∈ GT := GT_t 334 (by decide +kernel) rfl
theorem tw335 : (Jvm.Cond.fieldLink "OneBack$Walk" (30 : Nat) "OneBack$Walk" "trace" "[I") ∈ GT := GT_t 335 (by decide +kernel) rfl
theorem tw336 : (Jvm.Cond.fieldLink "OneBack$Views" (56 : Nat) "OneBack$Walk" "trace" "[I") ∈ GT := GT_t 336 (by decide +kernel) rfl
theorem tw337 : (Jvm.Cond.fieldLink "OneBack$Walk" (33 : Nat) "OneBack$Walk" "takenTonight" "[I") ∈ GT := GT_t 337 (by decide +kernel) rfl
theorem tw338 : (Jvm.Cond.fieldLink "OneBack$Walk" (36 : Nat) "OneBack$Walk" "seenTonight" "[I") ∈ GT := GT_t 338 (by decide +kernel) rfl
theorem tw339 : (Jvm.Cond.fieldLink "OneBack$Walk" (39 : Nat) "OneBack$Walk" "lastTake" "[I") ∈ GT := GT_t 339 (by decide +kernel) rfl
theorem tw340 : (Jvm.Cond.fieldLink "OneBack$Views" (95 : Nat) "OneBack$Walk" "lastTake" "[I") ∈ GT := GT_t 340 (by decide +kernel) rfl
theorem tw341 : (Jvm.Cond.fieldLink "OneBack$Walk" (42 : Nat) "OneBack$Walk" "takes" "I") ∈ GT := GT_t 341 (by decide +kernel) rfl
theorem tw342 : (Jvm.Cond.fieldLink "OneBack$Walk" (46 : Nat) "OneBack$Walk" "caught" "I") ∈ GT := GT_t 342 (by decide +kernel) rfl
theorem tw343 : (Jvm.Cond.fieldLink "OneBack$Views" (15 : Nat) "OneBack$Walk" "caught" "I") ∈ GT := GT_t 343 (by decide +kernel) rfl
theorem tw344 : (Jvm.Cond.fieldLink "OneBack$Walk" (49 : Nat) "OneBack$Walk" "night" "I") ∈ GT := GT_t 344 (by decide +kernel) rfl
theorem tw345 : (Jvm.Cond.fieldLink "OneBack" (195 : Nat) "OneBack$Walk" "night" "I") ∈ GT := GT_t 345 (by decide +kernel) rfl
theorem tw346 : (Jvm.Cond.fieldLink "OneBack$Walk" (52 : Nat) "OneBack$Walk" "done" "I") ∈ GT := GT_t 346 (by decide +kernel) rfl
theorem tw347 : (Jvm.Cond.fieldLink "OneBack" (189 : Nat) "OneBack$Walk" "done" "I") ∈ GT := GT_t 347 (by decide +kernel) rfl
theorem tw348 : (Jvm.Cond.fieldLink "OneBack$Walk" (55 : Nat) "OneBack$Walk" "seed" "I") ∈ GT := GT_t 348 (by decide +kernel) rfl
theorem tw384 : (Jvm.Cond.classLink "OneBack" (44 : Nat) "OneBack$Supply") ∈ GT := GT_t 384 (by decide +kernel) rfl
theorem tw385 : (Jvm.Cond.instantiable "OneBack$Supply" (2 : Nat)) ∈ GT := GT_t 385 (by decide +kernel) rfl
theorem tw387 : (Jvm.Cond.instanceMethod ({ cls := "OneBack$Supply", name := "<init>", desc := "()V" } : Jvm.MethodName)) ∈ GT := GT_t 387 (by decide +kernel) rfl
theorem tw388 : (Jvm.Cond.code ({ cls := "OneBack$Supply", name := "<init>", desc := "()V" } : Jvm.MethodName) prog_7_method_1_code (1 : Nat) (Option.none : Option Jvm.ClassFile.FieldType)) ∈ GT := GT_t 388 (by decide +kernel) rfl
theorem tw389 : (Jvm.Cond.methodLink "OneBack$Supply" (3 : Nat) ({ cls := "java/lang/Object", name := "<init>", desc := "()V" } : Jvm.MethodName)) ∈ GT := GT_t 389 (by decide +kernel) rfl
theorem tw390 : (Jvm.Cond.fieldLink "OneBack$Supply" (11 : Nat) "OneBack$Supply" "costs" "[I") ∈ GT := GT_t 390 (by decide +kernel) rfl
theorem tw391 : (Jvm.Cond.fieldLink "OneBack$Supply" (15 : Nat) "OneBack$Supply" "nextCosts" "[I") ∈ GT := GT_t 391 (by decide +kernel) rfl
theorem tw397 : (Jvm.Cond.classLink "OneBack" (51 : Nat) "OneBack$Porter") ∈ GT := GT_t 397 (by decide +kernel) rfl
theorem tw398 : (Jvm.Cond.instantiable "OneBack$Porter" (5 : Nat)) ∈ GT := GT_t 398 (by decide +kernel) rfl
theorem tw399 : (Jvm.Cond.methodLink "OneBack" (53 : Nat) ({ cls := "OneBack$Porter", name := "<init>", desc := "(LOneBack$Town;)V" } : Jvm.MethodName)) ∈ GT := GT_t 399 (by decide +kernel) rfl
theorem tw400 : (Jvm.Cond.instanceMethod ({ cls := "OneBack$Porter", name := "<init>", desc := "(LOneBack$Town;)V" } : Jvm.MethodName)) ∈ GT := GT_t 400 (by decide +kernel) rfl
theorem tw401 : (Jvm.Cond.code ({ cls := "OneBack$Porter", name := "<init>", desc := "(LOneBack$Town;)V" } : Jvm.MethodName) prog_4_method_1_code (2 : Nat) (Option.none : Option Jvm.ClassFile.FieldType)) ∈ GT := GT_t 401 (by decide +kernel) rfl
theorem tw402 : (Jvm.Cond.methodLink "OneBack$Porter" (3 : Nat) ({ cls := "java/lang/Object", name := "<init>", desc := "()V" } : Jvm.MethodName)) ∈ GT := GT_t 402 (by decide +kernel) rfl
theorem tw403 : (Jvm.Cond.fieldLink "OneBack$Porter" (9 : Nat) "OneBack$Porter" "best" "[I") ∈ GT := GT_t 403 (by decide +kernel) rfl
theorem tw404 : (Jvm.Cond.fieldLink "OneBack" (318 : Nat) "OneBack$Porter" "best" "[I") ∈ GT := GT_t 404 (by decide +kernel) rfl
theorem tw405 : (Jvm.Cond.fieldLink "OneBack$Porter" (15 : Nat) "OneBack$Porter" "bestWorth" "I") ∈ GT := GT_t 405 (by decide +kernel) rfl
theorem tw406 : (Jvm.Cond.fieldLink "OneBack" (315 : Nat) "OneBack$Porter" "bestWorth" "I") ∈ GT := GT_t 406 (by decide +kernel) rfl
theorem tw407 : (Jvm.Cond.fieldLink "OneBack$Porter" (19 : Nat) "OneBack$Porter" "picked" "[I") ∈ GT := GT_t 407 (by decide +kernel) rfl
theorem tw408 : (Jvm.Cond.fieldLink "OneBack$Porter" (25 : Nat) "OneBack$Porter" "town" "LOneBack$Town;") ∈ GT := GT_t 408 (by decide +kernel) rfl
theorem tw409 : (Jvm.Cond.fieldLink "OneBack$Porter" (22 : Nat) "OneBack$Porter" "house" "I") ∈ GT := GT_t 409 (by decide +kernel) rfl
theorem tw421 : (Jvm.Cond.fieldLink "OneBack" (12 : Nat) "OneBack" "told" "LOneBack$Told;") ∈ GT := GT_t 421 (by decide +kernel) rfl
theorem tw422 : (Jvm.Cond.fieldLink "OneBack" (16 : Nat) "OneBack" "images" "[LOneBack$Told;") ∈ GT := GT_t 422 (by decide +kernel) rfl
theorem tw423 : (Jvm.Cond.fieldLink "OneBack" (23 : Nat) "OneBack" "reader" "LOneBack$Reader;") ∈ GT := GT_t 423 (by decide +kernel) rfl
theorem tw424 : (Jvm.Cond.fieldLink "OneBack" (40 : Nat) "OneBack" "walk" "LOneBack$Walk;") ∈ GT := GT_t 424 (by decide +kernel) rfl
theorem tw425 : (Jvm.Cond.fieldLink "OneBack" (47 : Nat) "OneBack" "supply" "LOneBack$Supply;") ∈ GT := GT_t 425 (by decide +kernel) rfl
theorem tw426 : (Jvm.Cond.fieldLink "OneBack" (56 : Nat) "OneBack" "porter" "LOneBack$Porter;") ∈ GT := GT_t 426 (by decide +kernel) rfl
theorem tw440 : (Jvm.Cond.methodLink "OneBackLaw" (13 : Nat) ({ cls := "OneBack", name := "feed", desc := "(IIIII)I" } : Jvm.MethodName)) ∈ GT := GT_t 440 (by decide +kernel) rfl
theorem tw441 : (Jvm.Cond.instanceMethod ({ cls := "OneBack", name := "feed", desc := "(IIIII)I" } : Jvm.MethodName)) ∈ GT := GT_t 441 (by decide +kernel) rfl
theorem tw442 : (Jvm.Cond.selects "OneBack" ({ cls := "OneBack", name := "feed", desc := "(IIIII)I" } : Jvm.MethodName) ({ cls := "OneBack", name := "feed", desc := "(IIIII)I" } : Jvm.MethodName)) ∈ GT := GT_t 442 (by decide +kernel) rfl
theorem tw443 : (Jvm.Cond.code ({ cls := "OneBack", name := "feed", desc := "(IIIII)I" } : Jvm.MethodName) prog_1_method_2_code (6 : Nat) (Option.some Jvm.ClassFile.FieldType.int)) ∈ GT := GT_t 443 (by decide +kernel) rfl
theorem tw444 : (Jvm.Cond.methodLink "OneBack" (64 : Nat) ({ cls := "OneBack$Told", name := "put", desc := "(I)V" } : Jvm.MethodName)) ∈ GT := GT_t 444 (by decide +kernel) rfl
theorem tw445 : (Jvm.Cond.instanceMethod ({ cls := "OneBack$Told", name := "put", desc := "(I)V" } : Jvm.MethodName)) ∈ GT := GT_t 445 (by decide +kernel) rfl
theorem tw446 : (Jvm.Cond.selects "OneBack$Told" ({ cls := "OneBack$Told", name := "put", desc := "(I)V" } : Jvm.MethodName) ({ cls := "OneBack$Told", name := "put", desc := "(I)V" } : Jvm.MethodName)) ∈ GT := GT_t 446 (by decide +kernel) rfl
theorem tw447 : (Jvm.Cond.code ({ cls := "OneBack$Told", name := "put", desc := "(I)V" } : Jvm.MethodName) prog_8_method_2_code (3 : Nat) (Option.none : Option Jvm.ClassFile.FieldType)) ∈ GT := GT_t 447 (by decide +kernel) rfl
theorem tw448 : (Jvm.Cond.methodLink "OneBackLaw" (18 : Nat) ({ cls := "OneBack", name := "end", desc := "(I)I" } : Jvm.MethodName)) ∈ GT := GT_t 448 (by decide +kernel) rfl
theorem tw449 : (Jvm.Cond.instanceMethod ({ cls := "OneBack", name := "end", desc := "(I)I" } : Jvm.MethodName)) ∈ GT := GT_t 449 (by decide +kernel) rfl
theorem tw450 : (Jvm.Cond.selects "OneBack" ({ cls := "OneBack", name := "end", desc := "(I)I" } : Jvm.MethodName) ({ cls := "OneBack", name := "end", desc := "(I)I" } : Jvm.MethodName)) ∈ GT := GT_t 450 (by decide +kernel) rfl
theorem tw451 : (Jvm.Cond.code ({ cls := "OneBack", name := "end", desc := "(I)I" } : Jvm.MethodName) prog_1_method_3_code (2 : Nat) (Option.some Jvm.ClassFile.FieldType.int)) ∈ GT := GT_t 451 (by decide +kernel) rfl
theorem tw452 : (Jvm.Cond.methodLink "OneBackLaw" (23 : Nat) ({ cls := "OneBack", name := "text", desc := "(II)I" } : Jvm.MethodName)) ∈ GT := GT_t 452 (by decide +kernel) rfl
theorem tw453 : (Jvm.Cond.instanceMethod ({ cls := "OneBack", name := "text", desc := "(II)I" } : Jvm.MethodName)) ∈ GT := GT_t 453 (by decide +kernel) rfl
theorem tw454 : (Jvm.Cond.selects "OneBack" ({ cls := "OneBack", name := "text", desc := "(II)I" } : Jvm.MethodName) ({ cls := "OneBack", name := "text", desc := "(II)I" } : Jvm.MethodName)) ∈ GT := GT_t 454 (by decide +kernel) rfl
theorem tw455 : (Jvm.Cond.code ({ cls := "OneBack", name := "text", desc := "(II)I" } : Jvm.MethodName) prog_1_method_4_code (5 : Nat) (Option.some Jvm.ClassFile.FieldType.int)) ∈ GT := GT_t 455 (by decide +kernel) rfl
theorem tw456 : (Jvm.Cond.methodLink "OneBack" (74 : Nat) ({ cls := "OneBack$Told", name := "slot", desc := "(II)I" } : Jvm.MethodName)) ∈ GT := GT_t 456 (by decide +kernel) rfl
theorem tw457 : (Jvm.Cond.instanceMethod ({ cls := "OneBack$Told", name := "slot", desc := "(II)I" } : Jvm.MethodName)) ∈ GT := GT_t 457 (by decide +kernel) rfl
theorem tw458 : (Jvm.Cond.selects "OneBack$Told" ({ cls := "OneBack$Told", name := "slot", desc := "(II)I" } : Jvm.MethodName) ({ cls := "OneBack$Told", name := "slot", desc := "(II)I" } : Jvm.MethodName)) ∈ GT := GT_t 458 (by decide +kernel) rfl
theorem tw459 : (Jvm.Cond.code ({ cls := "OneBack$Told", name := "slot", desc := "(II)I" } : Jvm.MethodName) prog_8_method_8_code (3 : Nat) (Option.some Jvm.ClassFile.FieldType.int)) ∈ GT := GT_t 459 (by decide +kernel) rfl
theorem tw460 : (Jvm.Cond.methodLink "OneBack$Told" (57 : Nat) ({ cls := "OneBack$Told", name := "isThere", desc := "(II)Z" } : Jvm.MethodName)) ∈ GT := GT_t 460 (by decide +kernel) rfl
theorem tw461 : (Jvm.Cond.instanceMethod ({ cls := "OneBack$Told", name := "isThere", desc := "(II)Z" } : Jvm.MethodName)) ∈ GT := GT_t 461 (by decide +kernel) rfl
theorem tw462 : (Jvm.Cond.selects "OneBack$Told" ({ cls := "OneBack$Told", name := "isThere", desc := "(II)Z" } : Jvm.MethodName) ({ cls := "OneBack$Told", name := "isThere", desc := "(II)Z" } : Jvm.MethodName)) ∈ GT := GT_t 462 (by decide +kernel) rfl
theorem tw463 : (Jvm.Cond.code ({ cls := "OneBack$Told", name := "isThere", desc := "(II)Z" } : Jvm.MethodName) prog_8_method_3_code (3 : Nat) (Option.some Jvm.ClassFile.FieldType.boolean)) ∈ GT := GT_t 463 (by decide +kernel) rfl
theorem tw464 : (Jvm.Cond.methodLink "OneBack" (82 : Nat) ({ cls := "OneBack$Reader", name := "read", desc := "([BII)V" } : Jvm.MethodName)) ∈ GT := GT_t 464 (by decide +kernel) rfl
theorem tw465 : (Jvm.Cond.instanceMethod ({ cls := "OneBack$Reader", name := "read", desc := "([BII)V" } : Jvm.MethodName)) ∈ GT := GT_t 465 (by decide +kernel) rfl
theorem tw466 : (Jvm.Cond.selects "OneBack$Reader" ({ cls := "OneBack$Reader", name := "read", desc := "([BII)V" } : Jvm.MethodName) ({ cls := "OneBack$Reader", name := "read", desc := "([BII)V" } : Jvm.MethodName)) ∈ GT := GT_t 466 (by decide +kernel) rfl
theorem tw467 : (Jvm.Cond.code ({ cls := "OneBack$Reader", name := "read", desc := "([BII)V" } : Jvm.MethodName) prog_5_method_2_code (5 : Nat) (Option.none : Option Jvm.ClassFile.FieldType)) ∈ GT := GT_t 467 (by decide +kernel) rfl
theorem tw468 : (Jvm.Cond.methodLink "OneBack$Reader" (79 : Nat) ({ cls := "java/lang/Math", name := "min", desc := "(II)I" } : Jvm.MethodName)) ∈ GT := GT_t 468 (by decide +kernel) rfl
theorem tw469 : (Jvm.Cond.static ({ cls := "java/lang/Math", name := "min", desc := "(II)I" } : Jvm.MethodName)) ∈ GT := GT_t 469 (by decide +kernel) rfl
theorem tw470 : (Jvm.Cond.code ({ cls := "java/lang/Math", name := "min", desc := "(II)I" } : Jvm.MethodName) prog_15_method_69_code (2 : Nat) (Option.some Jvm.ClassFile.FieldType.int)) ∈ GT := GT_t 470 (by decide +kernel) rfl
theorem tw471 : (Jvm.Cond.methodLink "OneBack$Reader" (85 : Nat) ({ cls := "OneBack$Reader", name := "begin", desc := "([BI)V" } : Jvm.MethodName)) ∈ GT := GT_t 471 (by decide +kernel) rfl
theorem tw473 : (Jvm.Cond.instanceMethod ({ cls := "OneBack$Reader", name := "begin", desc := "([BI)V" } : Jvm.MethodName)) ∈ GT := GT_t 473 (by decide +kernel) rfl
theorem tw474 : (Jvm.Cond.code ({ cls := "OneBack$Reader", name := "begin", desc := "([BI)V" } : Jvm.MethodName) prog_5_method_3_code (3 : Nat) (Option.none : Option Jvm.ClassFile.FieldType)) ∈ GT := GT_t 474 (by decide +kernel) rfl
theorem tw475 : (Jvm.Cond.methodLink "OneBack$Reader" (106 : Nat) ({ cls := "OneBack$Town", name := "clear", desc := "()V" } : Jvm.MethodName)) ∈ GT := GT_t 475 (by decide +kernel) rfl
theorem tw476 : (Jvm.Cond.methodLink "OneBack$Reader" (109 : Nat) ({ cls := "OneBack$Law", name := "clear", desc := "()V" } : Jvm.MethodName)) ∈ GT := GT_t 476 (by decide +kernel) rfl
theorem tw477 : (Jvm.Cond.instanceMethod ({ cls := "OneBack$Law", name := "clear", desc := "()V" } : Jvm.MethodName)) ∈ GT := GT_t 477 (by decide +kernel) rfl
theorem tw478 : (Jvm.Cond.selects "OneBack$Law" ({ cls := "OneBack$Law", name := "clear", desc := "()V" } : Jvm.MethodName) ({ cls := "OneBack$Law", name := "clear", desc := "()V" } : Jvm.MethodName)) ∈ GT := GT_t 478 (by decide +kernel) rfl
theorem tw479 : (Jvm.Cond.code ({ cls := "OneBack$Law", name := "clear", desc := "()V" } : Jvm.MethodName) prog_2_method_2_code (1 : Nat) (Option.none : Option Jvm.ClassFile.FieldType)) ∈ GT := GT_t 479 (by decide +kernel) rfl
theorem tw480 : (Jvm.Cond.methodLink "OneBack$Reader" (110 : Nat) ({ cls := "OneBack$Nights", name := "clear", desc := "()V" } : Jvm.MethodName)) ∈ GT := GT_t 480 (by decide +kernel) rfl
theorem tw481 : (Jvm.Cond.instanceMethod ({ cls := "OneBack$Nights", name := "clear", desc := "()V" } : Jvm.MethodName)) ∈ GT := GT_t 481 (by decide +kernel) rfl
theorem tw482 : (Jvm.Cond.selects "OneBack$Nights" ({ cls := "OneBack$Nights", name := "clear", desc := "()V" } : Jvm.MethodName) ({ cls := "OneBack$Nights", name := "clear", desc := "()V" } : Jvm.MethodName)) ∈ GT := GT_t 482 (by decide +kernel) rfl
theorem tw483 : (Jvm.Cond.code ({ cls := "OneBack$Nights", name := "clear", desc := "()V" } : Jvm.MethodName) prog_3_method_2_code (1 : Nat) (Option.none : Option Jvm.ClassFile.FieldType)) ∈ GT := GT_t 483 (by decide +kernel) rfl
theorem tw484 : (Jvm.Cond.methodLink "OneBack$Reader" (111 : Nat) ({ cls := "OneBack$Sight", name := "clear", desc := "()V" } : Jvm.MethodName)) ∈ GT := GT_t 484 (by decide +kernel) rfl
theorem tw485 : (Jvm.Cond.methodLink "OneBack$Reader" (89 : Nat) ({ cls := "OneBack$Reader", name := "step", desc := "()V" } : Jvm.MethodName)) ∈ GT := GT_t 485 (by decide +kernel) rfl
theorem tw487 : (Jvm.Cond.instanceMethod ({ cls := "OneBack$Reader", name := "step", desc := "()V" } : Jvm.MethodName)) ∈ GT := GT_t 487 (by decide +kernel) rfl
theorem tw488 : (Jvm.Cond.code ({ cls := "OneBack$Reader", name := "step", desc := "()V" } : Jvm.MethodName) prog_5_method_15_code (2 : Nat) (Option.none : Option Jvm.ClassFile.FieldType)) ∈ GT := GT_t 488 (by decide +kernel) rfl
theorem tw489 : (Jvm.Cond.methodLink "OneBack$Reader" (195 : Nat) ({ cls := "OneBack$Reader", name := "byteAt", desc := "(I)I" } : Jvm.MethodName)) ∈ GT := GT_t 489 (by decide +kernel) rfl
theorem tw491 : (Jvm.Cond.instanceMethod ({ cls := "OneBack$Reader", name := "byteAt", desc := "(I)I" } : Jvm.MethodName)) ∈ GT := GT_t 491 (by decide +kernel) rfl
theorem tw492 : (Jvm.Cond.code ({ cls := "OneBack$Reader", name := "byteAt", desc := "(I)I" } : Jvm.MethodName) prog_5_method_17_code (2 : Nat) (Option.some Jvm.ClassFile.FieldType.int)) ∈ GT := GT_t 492 (by decide +kernel) rfl
theorem tw493 : (Jvm.Cond.methodLink "OneBack$Reader" (248 : Nat) ({ cls := "OneBack$Reader", name := "isBlank", desc := "(I)Z" } : Jvm.MethodName)) ∈ GT := GT_t 493 (by decide +kernel) rfl
theorem tw494 : (Jvm.Cond.static ({ cls := "OneBack$Reader", name := "isBlank", desc := "(I)Z" } : Jvm.MethodName)) ∈ GT := GT_t 494 (by decide +kernel) rfl
theorem tw495 : (Jvm.Cond.code ({ cls := "OneBack$Reader", name := "isBlank", desc := "(I)Z" } : Jvm.MethodName) prog_5_method_18_code (1 : Nat) (Option.some Jvm.ClassFile.FieldType.boolean)) ∈ GT := GT_t 495 (by decide +kernel) rfl
theorem tw496 : (Jvm.Cond.methodLink "OneBack$Reader" (251 : Nat) ({ cls := "OneBack$Reader", name := "isLetter", desc := "(I)Z" } : Jvm.MethodName)) ∈ GT := GT_t 496 (by decide +kernel) rfl
theorem tw497 : (Jvm.Cond.static ({ cls := "OneBack$Reader", name := "isLetter", desc := "(I)Z" } : Jvm.MethodName)) ∈ GT := GT_t 497 (by decide +kernel) rfl
theorem tw498 : (Jvm.Cond.code ({ cls := "OneBack$Reader", name := "isLetter", desc := "(I)Z" } : Jvm.MethodName) prog_5_method_19_code (1 : Nat) (Option.some Jvm.ClassFile.FieldType.boolean)) ∈ GT := GT_t 498 (by decide +kernel) rfl
theorem tw499 : (Jvm.Cond.methodLink "OneBack$Reader" (254 : Nat) ({ cls := "OneBack$Reader", name := "isDigit", desc := "(I)Z" } : Jvm.MethodName)) ∈ GT := GT_t 499 (by decide +kernel) rfl
theorem tw500 : (Jvm.Cond.static ({ cls := "OneBack$Reader", name := "isDigit", desc := "(I)Z" } : Jvm.MethodName)) ∈ GT := GT_t 500 (by decide +kernel) rfl
theorem tw501 : (Jvm.Cond.code ({ cls := "OneBack$Reader", name := "isDigit", desc := "(I)Z" } : Jvm.MethodName) prog_5_method_20_code (1 : Nat) (Option.some Jvm.ClassFile.FieldType.boolean)) ∈ GT := GT_t 501 (by decide +kernel) rfl
theorem tw502 : (Jvm.Cond.methodLink "OneBack$Reader" (257 : Nat) ({ cls := "OneBack$Reader", name := "stepNumber", desc := "()V" } : Jvm.MethodName)) ∈ GT := GT_t 502 (by decide +kernel) rfl
theorem tw504 : (Jvm.Cond.instanceMethod ({ cls := "OneBack$Reader", name := "stepNumber", desc := "()V" } : Jvm.MethodName)) ∈ GT := GT_t 504 (by decide +kernel) rfl
theorem tw505 : (Jvm.Cond.code ({ cls := "OneBack$Reader", name := "stepNumber", desc := "()V" } : Jvm.MethodName) prog_5_method_16_code (1 : Nat) (Option.none : Option Jvm.ClassFile.FieldType)) ∈ GT := GT_t 505 (by decide +kernel) rfl
theorem tw506 : (Jvm.Cond.methodLink "OneBack$Reader" (92 : Nat) ({ cls := "OneBack$Reader", name := "readLine", desc := "(I)V" } : Jvm.MethodName)) ∈ GT := GT_t 506 (by decide +kernel) rfl
theorem tw508 : (Jvm.Cond.instanceMethod ({ cls := "OneBack$Reader", name := "readLine", desc := "(I)V" } : Jvm.MethodName)) ∈ GT := GT_t 508 (by decide +kernel) rfl
theorem tw509 : (Jvm.Cond.code ({ cls := "OneBack$Reader", name := "readLine", desc := "(I)V" } : Jvm.MethodName) prog_5_method_6_code (4 : Nat) (Option.none : Option Jvm.ClassFile.FieldType)) ∈ GT := GT_t 509 (by decide +kernel) rfl
theorem tw510 : (Jvm.Cond.methodLink "OneBack$Reader" (112 : Nat) ({ cls := "OneBack$Reader", name := "lineOf", desc := "(I)I" } : Jvm.MethodName)) ∈ GT := GT_t 510 (by decide +kernel) rfl
theorem tw512 : (Jvm.Cond.instanceMethod ({ cls := "OneBack$Reader", name := "lineOf", desc := "(I)I" } : Jvm.MethodName)) ∈ GT := GT_t 512 (by decide +kernel) rfl
theorem tw513 : (Jvm.Cond.code ({ cls := "OneBack$Reader", name := "lineOf", desc := "(I)I" } : Jvm.MethodName) prog_5_method_9_code (3 : Nat) (Option.some Jvm.ClassFile.FieldType.int)) ∈ GT := GT_t 513 (by decide +kernel) rfl
theorem tw514 : (Jvm.Cond.fieldLink "OneBack$Reader" (142 : Nat) "OneBack$Reader" "FIRST_LINE" "[I") ∈ GT := GT_t 514 (by decide +kernel) rfl
theorem tw516 : (Jvm.Cond.methodLink "OneBack$Reader" (145 : Nat) ({ cls := "OneBack$Reader", name := "wordOf", desc := "(I)Ljava/lang/String;" } : Jvm.MethodName)) ∈ GT := GT_t 516 (by decide +kernel) rfl
theorem tw517 : (Jvm.Cond.static ({ cls := "OneBack$Reader", name := "wordOf", desc := "(I)Ljava/lang/String;" } : Jvm.MethodName)) ∈ GT := GT_t 517 (by decide +kernel) rfl
theorem tw518 : (Jvm.Cond.code ({ cls := "OneBack$Reader", name := "wordOf", desc := "(I)Ljava/lang/String;" } : Jvm.MethodName) prog_5_method_10_code (1 : Nat) (Option.some (Jvm.ClassFile.FieldType.object "java/lang/String"))) ∈ GT := GT_t 518 (by decide +kernel) rfl
theorem tw538 : (Jvm.Cond.methodLink "OneBack$Reader" (149 : Nat) ({ cls := "OneBack$Reader", name := "isWord", desc := "(Ljava/lang/String;)Z" } : Jvm.MethodName)) ∈ GT := GT_t 538 (by decide +kernel) rfl
theorem tw540 : (Jvm.Cond.instanceMethod ({ cls := "OneBack$Reader", name := "isWord", desc := "(Ljava/lang/String;)Z" } : Jvm.MethodName)) ∈ GT := GT_t 540 (by decide +kernel) rfl
theorem tw541 : (Jvm.Cond.code ({ cls := "OneBack$Reader", name := "isWord", desc := "(Ljava/lang/String;)Z" } : Jvm.MethodName) prog_5_method_11_code (3 : Nat) (Option.some Jvm.ClassFile.FieldType.boolean)) ∈ GT := GT_t 541 (by decide +kernel) rfl
theorem tw542 : (Jvm.Cond.methodLink "OneBack$Reader" (190 : Nat) ({ cls := "java/lang/String", name := "length", desc := "()I" } : Jvm.MethodName)) ∈ GT := GT_t 542 (by decide +kernel) rfl
theorem tw543 : (Jvm.Cond.instanceMethod ({ cls := "java/lang/String", name := "length", desc := "()I" } : Jvm.MethodName)) ∈ GT := GT_t 543 (by decide +kernel) rfl
theorem tw544 : (Jvm.Cond.selects "java/lang/String" ({ cls := "java/lang/String", name := "length", desc := "()I" } : Jvm.MethodName) ({ cls := "java/lang/String", name := "length", desc := "()I" } : Jvm.MethodName)) ∈ GT := GT_t 544 (by decide +kernel) rfl
theorem tw545 : (Jvm.Cond.code ({ cls := "java/lang/String", name := "length", desc := "()I" } : Jvm.MethodName) prog_16_method_54_code (1 : Nat) (Option.some Jvm.ClassFile.FieldType.int)) ∈ GT := GT_t 545 (by decide +kernel) rfl
theorem tw546 : (Jvm.Cond.methodLink "java/lang/String" (335 : Nat) ({ cls := "java/lang/String", name := "coder", desc := "()B" } : Jvm.MethodName)) ∈ GT := GT_t 546 (by decide +kernel) rfl
theorem tw547 : (Jvm.Cond.instanceMethod ({ cls := "java/lang/String", name := "coder", desc := "()B" } : Jvm.MethodName)) ∈ GT := GT_t 547 (by decide +kernel) rfl
theorem tw548 : (Jvm.Cond.selects "java/lang/String" ({ cls := "java/lang/String", name := "coder", desc := "()B" } : Jvm.MethodName) ({ cls := "java/lang/String", name := "coder", desc := "()B" } : Jvm.MethodName)) ∈ GT := GT_t 548 (by decide +kernel) rfl
theorem tw549 : (Jvm.Cond.code ({ cls := "java/lang/String", name := "coder", desc := "()B" } : Jvm.MethodName) prog_16_method_152_code (1 : Nat) (Option.some Jvm.ClassFile.FieldType.byte)) ∈ GT := GT_t 549 (by decide +kernel) rfl
theorem tw550 : (Jvm.Cond.fieldLink "java/lang/String" (38 : Nat) "java/lang/String" "COMPACT_STRINGS" "Z") ∈ GT := GT_t 550 (by decide +kernel) rfl
theorem tw552 : (Jvm.Cond.methodLink "OneBack$Reader" (198 : Nat) ({ cls := "java/lang/String", name := "charAt", desc := "(I)C" } : Jvm.MethodName)) ∈ GT := GT_t 552 (by decide +kernel) rfl
theorem tw553 : (Jvm.Cond.instanceMethod ({ cls := "java/lang/String", name := "charAt", desc := "(I)C" } : Jvm.MethodName)) ∈ GT := GT_t 553 (by decide +kernel) rfl
theorem tw554 : (Jvm.Cond.selects "java/lang/String" ({ cls := "java/lang/String", name := "charAt", desc := "(I)C" } : Jvm.MethodName) ({ cls := "java/lang/String", name := "charAt", desc := "(I)C" } : Jvm.MethodName)) ∈ GT := GT_t 554 (by decide +kernel) rfl
theorem tw555 : (Jvm.Cond.code ({ cls := "java/lang/String", name := "charAt", desc := "(I)C" } : Jvm.MethodName) prog_16_method_56_code (2 : Nat) (Option.some Jvm.ClassFile.FieldType.char)) ∈ GT := GT_t 555 (by decide +kernel) rfl
theorem tw556 : (Jvm.Cond.methodLink "java/lang/String" (492 : Nat) ({ cls := "java/lang/String", name := "isLatin1", desc := "()Z" } : Jvm.MethodName)) ∈ GT := GT_t 556 (by decide +kernel) rfl
theorem tw557 : (Jvm.Cond.instanceMethod ({ cls := "java/lang/String", name := "isLatin1", desc := "()Z" } : Jvm.MethodName)) ∈ GT := GT_t 557 (by decide +kernel) rfl
theorem tw558 : (Jvm.Cond.selects "java/lang/String" ({ cls := "java/lang/String", name := "isLatin1", desc := "()Z" } : Jvm.MethodName) ({ cls := "java/lang/String", name := "isLatin1", desc := "()Z" } : Jvm.MethodName)) ∈ GT := GT_t 558 (by decide +kernel) rfl
theorem tw559 : (Jvm.Cond.code ({ cls := "java/lang/String", name := "isLatin1", desc := "()Z" } : Jvm.MethodName) prog_16_method_154_code (1 : Nat) (Option.some Jvm.ClassFile.FieldType.boolean)) ∈ GT := GT_t 559 (by decide +kernel) rfl
theorem tw560 : (Jvm.Cond.methodLink "java/lang/String" (495 : Nat) ({ cls := "java/lang/StringLatin1", name := "charAt", desc := "([BI)C" } : Jvm.MethodName)) ∈ GT := GT_t 560 (by decide +kernel) rfl
theorem tw561 : (Jvm.Cond.static ({ cls := "java/lang/StringLatin1", name := "charAt", desc := "([BI)C" } : Jvm.MethodName)) ∈ GT := GT_t 561 (by decide +kernel) rfl
theorem tw562 : (Jvm.Cond.code ({ cls := "java/lang/StringLatin1", name := "charAt", desc := "([BI)C" } : Jvm.MethodName) prog_17_method_2_code (2 : Nat) (Option.some Jvm.ClassFile.FieldType.char)) ∈ GT := GT_t 562 (by decide +kernel) rfl
theorem tw563 : (Jvm.Cond.methodLink "java/lang/StringLatin1" (9 : Nat) ({ cls := "java/lang/String", name := "checkIndex", desc := "(II)V" } : Jvm.MethodName)) ∈ GT := GT_t 563 (by decide +kernel) rfl
theorem tw564 : (Jvm.Cond.static ({ cls := "java/lang/String", name := "checkIndex", desc := "(II)V" } : Jvm.MethodName)) ∈ GT := GT_t 564 (by decide +kernel) rfl
theorem tw565 : (Jvm.Cond.code ({ cls := "java/lang/String", name := "checkIndex", desc := "(II)V" } : Jvm.MethodName) prog_16_method_155_code (2 : Nat) (Option.none : Option Jvm.ClassFile.FieldType)) ∈ GT := GT_t 565 (by decide +kernel) rfl
theorem tw566 : (Jvm.Cond.fieldLink "java/lang/String" (1053 : Nat) "jdk/internal/util/Preconditions" "SIOOBE_FORMATTER" "Ljava/util/function/BiFunction;") ∈ GT := GT_t 566 (by decide +kernel) rfl
theorem tw568 : (Jvm.Cond.methodLink "java/lang/String" (1059 : Nat) ({ cls := "jdk/internal/util/Preconditions", name := "checkIndex", desc := "(IILjava/util/function/BiFunction;)I" } : Jvm.MethodName)) ∈ GT := GT_t 568 (by decide +kernel) rfl
theorem tw569 : (Jvm.Cond.static ({ cls := "jdk/internal/util/Preconditions", name := "checkIndex", desc := "(IILjava/util/function/BiFunction;)I" } : Jvm.MethodName)) ∈ GT := GT_t 569 (by decide +kernel) rfl
theorem tw570 : (Jvm.Cond.code ({ cls := "jdk/internal/util/Preconditions", name := "checkIndex", desc := "(IILjava/util/function/BiFunction;)I" } : Jvm.MethodName) prog_20_method_11_code (3 : Nat) (Option.some Jvm.ClassFile.FieldType.int)) ∈ GT := GT_t 570 (by decide +kernel) rfl
theorem tw590 : (Jvm.Cond.methodLink "OneBack$Reader" (116 : Nat) ({ cls := "OneBack$Reader", name := "breakOff", desc := "()V" } : Jvm.MethodName)) ∈ GT := GT_t 590 (by decide +kernel) rfl
theorem tw592 : (Jvm.Cond.instanceMethod ({ cls := "OneBack$Reader", name := "breakOff", desc := "()V" } : Jvm.MethodName)) ∈ GT := GT_t 592 (by decide +kernel) rfl
theorem tw593 : (Jvm.Cond.code ({ cls := "OneBack$Reader", name := "breakOff", desc := "()V" } : Jvm.MethodName) prog_5_method_5_code (1 : Nat) (Option.none : Option Jvm.ClassFile.FieldType)) ∈ GT := GT_t 593 (by decide +kernel) rfl
theorem tw594 : (Jvm.Cond.methodLink "OneBack$Reader" (119 : Nat) ({ cls := "OneBack$Reader", name := "isFull", desc := "(I)Z" } : Jvm.MethodName)) ∈ GT := GT_t 594 (by decide +kernel) rfl
theorem tw596 : (Jvm.Cond.instanceMethod ({ cls := "OneBack$Reader", name := "isFull", desc := "(I)Z" } : Jvm.MethodName)) ∈ GT := GT_t 596 (by decide +kernel) rfl
theorem tw597 : (Jvm.Cond.code ({ cls := "OneBack$Reader", name := "isFull", desc := "(I)Z" } : Jvm.MethodName) prog_5_method_8_code (2 : Nat) (Option.some Jvm.ClassFile.FieldType.boolean)) ∈ GT := GT_t 597 (by decide +kernel) rfl
theorem tw598 : (Jvm.Cond.methodLink "OneBack$Reader" (102 : Nat) ({ cls := "OneBack$Reader", name := "note", desc := "(II)V" } : Jvm.MethodName)) ∈ GT := GT_t 598 (by decide +kernel) rfl
theorem tw600 : (Jvm.Cond.instanceMethod ({ cls := "OneBack$Reader", name := "note", desc := "(II)V" } : Jvm.MethodName)) ∈ GT := GT_t 600 (by decide +kernel) rfl
theorem tw601 : (Jvm.Cond.code ({ cls := "OneBack$Reader", name := "note", desc := "(II)V" } : Jvm.MethodName) prog_5_method_4_code (3 : Nat) (Option.none : Option Jvm.ClassFile.FieldType)) ∈ GT := GT_t 601 (by decide +kernel) rfl
theorem tw602 : (Jvm.Cond.fieldLink "OneBack$Reader" (123 : Nat) "OneBack$Reader" "NUMBERS" "[I") ∈ GT := GT_t 602 (by decide +kernel) rfl
theorem tw604 : (Jvm.Cond.methodLink "OneBack$Reader" (126 : Nat) ({ cls := "OneBack$Reader", name := "readNumber", desc := "(II)V" } : Jvm.MethodName)) ∈ GT := GT_t 604 (by decide +kernel) rfl
theorem tw606 : (Jvm.Cond.instanceMethod ({ cls := "OneBack$Reader", name := "readNumber", desc := "(II)V" } : Jvm.MethodName)) ∈ GT := GT_t 606 (by decide +kernel) rfl
theorem tw607 : (Jvm.Cond.code ({ cls := "OneBack$Reader", name := "readNumber", desc := "(II)V" } : Jvm.MethodName) prog_5_method_7_code (5 : Nat) (Option.none : Option Jvm.ClassFile.FieldType)) ∈ GT := GT_t 607 (by decide +kernel) rfl
theorem tw608 : (Jvm.Cond.fieldLink "OneBack$Reader" (132 : Nat) "OneBack$Reader" "LEAST" "[I") ∈ GT := GT_t 608 (by decide +kernel) rfl
theorem tw610 : (Jvm.Cond.fieldLink "OneBack$Reader" (135 : Nat) "OneBack$Reader" "MOST" "[I") ∈ GT := GT_t 610 (by decide +kernel) rfl
theorem tw612 : (Jvm.Cond.methodLink "OneBack$Reader" (129 : Nat) ({ cls := "OneBack$Reader", name := "keepLine", desc := "(I)V" } : Jvm.MethodName)) ∈ GT := GT_t 612 (by decide +kernel) rfl
theorem tw614 : (Jvm.Cond.instanceMethod ({ cls := "OneBack$Reader", name := "keepLine", desc := "(I)V" } : Jvm.MethodName)) ∈ GT := GT_t 614 (by decide +kernel) rfl
theorem tw615 : (Jvm.Cond.code ({ cls := "OneBack$Reader", name := "keepLine", desc := "(I)V" } : Jvm.MethodName) prog_5_method_12_code (2 : Nat) (Option.none : Option Jvm.ClassFile.FieldType)) ∈ GT := GT_t 615 (by decide +kernel) rfl
theorem tw616 : (Jvm.Cond.methodLink "OneBack$Reader" (202 : Nat) ({ cls := "OneBack$Reader", name := "keepTown", desc := "(I)V" } : Jvm.MethodName)) ∈ GT := GT_t 616 (by decide +kernel) rfl
theorem tw618 : (Jvm.Cond.instanceMethod ({ cls := "OneBack$Reader", name := "keepTown", desc := "(I)V" } : Jvm.MethodName)) ∈ GT := GT_t 618 (by decide +kernel) rfl
theorem tw619 : (Jvm.Cond.code ({ cls := "OneBack$Reader", name := "keepTown", desc := "(I)V" } : Jvm.MethodName) prog_5_method_13_code (4 : Nat) (Option.none : Option Jvm.ClassFile.FieldType)) ∈ GT := GT_t 619 (by decide +kernel) rfl
theorem tw621 : (Jvm.Cond.static ({ cls := "OneBack", name := "cell", desc := "(II)I" } : Jvm.MethodName)) ∈ GT := GT_t 621 (by decide +kernel) rfl
theorem tw622 : (Jvm.Cond.code ({ cls := "OneBack", name := "cell", desc := "(II)I" } : Jvm.MethodName) prog_1_method_37_code (2 : Nat) (Option.some Jvm.ClassFile.FieldType.int)) ∈ GT := GT_t 622 (by decide +kernel) rfl
theorem tw623 : (Jvm.Cond.methodLink "OneBack$Reader" (227 : Nat) ({ cls := "java/lang/Math", name := "max", desc := "(II)I" } : Jvm.MethodName)) ∈ GT := GT_t 623 (by decide +kernel) rfl
theorem tw624 : (Jvm.Cond.static ({ cls := "java/lang/Math", name := "max", desc := "(II)I" } : Jvm.MethodName)) ∈ GT := GT_t 624 (by decide +kernel) rfl
theorem tw625 : (Jvm.Cond.code ({ cls := "java/lang/Math", name := "max", desc := "(II)I" } : Jvm.MethodName) prog_15_method_65_code (2 : Nat) (Option.some Jvm.ClassFile.FieldType.int)) ∈ GT := GT_t 625 (by decide +kernel) rfl
theorem tw626 : (Jvm.Cond.methodLink "OneBack$Reader" (237 : Nat) ({ cls := "OneBack$Town", name := "addThief", desc := "(I)V" } : Jvm.MethodName)) ∈ GT := GT_t 626 (by decide +kernel) rfl
theorem tw627 : (Jvm.Cond.instanceMethod ({ cls := "OneBack$Town", name := "addThief", desc := "(I)V" } : Jvm.MethodName)) ∈ GT := GT_t 627 (by decide +kernel) rfl
theorem tw628 : (Jvm.Cond.selects "OneBack$Town" ({ cls := "OneBack$Town", name := "addThief", desc := "(I)V" } : Jvm.MethodName) ({ cls := "OneBack$Town", name := "addThief", desc := "(I)V" } : Jvm.MethodName)) ∈ GT := GT_t 628 (by decide +kernel) rfl
theorem tw629 : (Jvm.Cond.code ({ cls := "OneBack$Town", name := "addThief", desc := "(I)V" } : Jvm.MethodName) prog_9_method_6_code (2 : Nat) (Option.none : Option Jvm.ClassFile.FieldType)) ∈ GT := GT_t 629 (by decide +kernel) rfl
theorem tw630 : (Jvm.Cond.methodLink "OneBack$Reader" (205 : Nat) ({ cls := "OneBack$Reader", name := "keepLaw", desc := "(I)V" } : Jvm.MethodName)) ∈ GT := GT_t 630 (by decide +kernel) rfl
theorem tw632 : (Jvm.Cond.instanceMethod ({ cls := "OneBack$Reader", name := "keepLaw", desc := "(I)V" } : Jvm.MethodName)) ∈ GT := GT_t 632 (by decide +kernel) rfl
theorem tw633 : (Jvm.Cond.code ({ cls := "OneBack$Reader", name := "keepLaw", desc := "(I)V" } : Jvm.MethodName) prog_5_method_14_code (2 : Nat) (Option.none : Option Jvm.ClassFile.FieldType)) ∈ GT := GT_t 633 (by decide +kernel) rfl
theorem tw634 : (Jvm.Cond.methodLink "OneBack$Reader" (208 : Nat) ({ cls := "OneBack$Nights", name := "add", desc := "(IIII)V" } : Jvm.MethodName)) ∈ GT := GT_t 634 (by decide +kernel) rfl
theorem tw635 : (Jvm.Cond.instanceMethod ({ cls := "OneBack$Nights", name := "add", desc := "(IIII)V" } : Jvm.MethodName)) ∈ GT := GT_t 635 (by decide +kernel) rfl
theorem tw636 : (Jvm.Cond.selects "OneBack$Nights" ({ cls := "OneBack$Nights", name := "add", desc := "(IIII)V" } : Jvm.MethodName) ({ cls := "OneBack$Nights", name := "add", desc := "(IIII)V" } : Jvm.MethodName)) ∈ GT := GT_t 636 (by decide +kernel) rfl
theorem tw637 : (Jvm.Cond.code ({ cls := "OneBack$Nights", name := "add", desc := "(IIII)V" } : Jvm.MethodName) prog_3_method_3_code (5 : Nat) (Option.none : Option Jvm.ClassFile.FieldType)) ∈ GT := GT_t 637 (by decide +kernel) rfl
theorem tw638 : (Jvm.Cond.methodLink "OneBack$Reader" (212 : Nat) ({ cls := "OneBack$Sight", name := "add", desc := "(II)V" } : Jvm.MethodName)) ∈ GT := GT_t 638 (by decide +kernel) rfl
theorem tw639 : (Jvm.Cond.instanceMethod ({ cls := "OneBack$Sight", name := "add", desc := "(II)V" } : Jvm.MethodName)) ∈ GT := GT_t 639 (by decide +kernel) rfl
theorem tw640 : (Jvm.Cond.selects "OneBack$Sight" ({ cls := "OneBack$Sight", name := "add", desc := "(II)V" } : Jvm.MethodName) ({ cls := "OneBack$Sight", name := "add", desc := "(II)V" } : Jvm.MethodName)) ∈ GT := GT_t 640 (by decide +kernel) rfl
theorem tw641 : (Jvm.Cond.code ({ cls := "OneBack$Sight", name := "add", desc := "(II)V" } : Jvm.MethodName) prog_6_method_3_code (3 : Nat) (Option.none : Option Jvm.ClassFile.FieldType)) ∈ GT := GT_t 641 (by decide +kernel) rfl
theorem tw642 : (Jvm.Cond.methodLink "OneBack" (88 : Nat) ({ cls := "OneBack$Told", name := "keep", desc := "(LOneBack$Reader;II)V" } : Jvm.MethodName)) ∈ GT := GT_t 642 (by decide +kernel) rfl
theorem tw643 : (Jvm.Cond.instanceMethod ({ cls := "OneBack$Told", name := "keep", desc := "(LOneBack$Reader;II)V" } : Jvm.MethodName)) ∈ GT := GT_t 643 (by decide +kernel) rfl
theorem tw644 : (Jvm.Cond.selects "OneBack$Told" ({ cls := "OneBack$Told", name := "keep", desc := "(LOneBack$Reader;II)V" } : Jvm.MethodName) ({ cls := "OneBack$Told", name := "keep", desc := "(LOneBack$Reader;II)V" } : Jvm.MethodName)) ∈ GT := GT_t 644 (by decide +kernel) rfl
theorem tw645 : (Jvm.Cond.code ({ cls := "OneBack$Told", name := "keep", desc := "(LOneBack$Reader;II)V" } : Jvm.MethodName) prog_8_method_9_code (4 : Nat) (Option.none : Option Jvm.ClassFile.FieldType)) ∈ GT := GT_t 645 (by decide +kernel) rfl
theorem tw646 : (Jvm.Cond.methodLink "OneBack$Told" (67 : Nat) ({ cls := "OneBack$Town", name := "copy", desc := "(LOneBack$Town;)V" } : Jvm.MethodName)) ∈ GT := GT_t 646 (by decide +kernel) rfl
theorem tw647 : (Jvm.Cond.instanceMethod ({ cls := "OneBack$Town", name := "copy", desc := "(LOneBack$Town;)V" } : Jvm.MethodName)) ∈ GT := GT_t 647 (by decide +kernel) rfl
theorem tw648 : (Jvm.Cond.selects "OneBack$Town" ({ cls := "OneBack$Town", name := "copy", desc := "(LOneBack$Town;)V" } : Jvm.MethodName) ({ cls := "OneBack$Town", name := "copy", desc := "(LOneBack$Town;)V" } : Jvm.MethodName)) ∈ GT := GT_t 648 (by decide +kernel) rfl
theorem tw649 : (Jvm.Cond.code ({ cls := "OneBack$Town", name := "copy", desc := "(LOneBack$Town;)V" } : Jvm.MethodName) prog_9_method_3_code (2 : Nat) (Option.none : Option Jvm.ClassFile.FieldType)) ∈ GT := GT_t 649 (by decide +kernel) rfl
theorem tw651 : (Jvm.Cond.static ({ cls := "OneBack", name := "copyRow", desc := "([I[I)V" } : Jvm.MethodName)) ∈ GT := GT_t 651 (by decide +kernel) rfl
theorem tw652 : (Jvm.Cond.code ({ cls := "OneBack", name := "copyRow", desc := "([I[I)V" } : Jvm.MethodName) prog_1_method_42_code (2 : Nat) (Option.none : Option Jvm.ClassFile.FieldType)) ∈ GT := GT_t 652 (by decide +kernel) rfl
theorem tw653 : (Jvm.Cond.methodLink "OneBack" (345 : Nat) ({ cls := "java/lang/Math", name := "min", desc := "(II)I" } : Jvm.MethodName)) ∈ GT := GT_t 653 (by decide +kernel) rfl
theorem tw654 : (Jvm.Cond.methodLink "OneBack" (350 : Nat) ({ cls := "java/lang/System", name := "arraycopy", desc := "(Ljava/lang/Object;ILjava/lang/Object;II)V" } : Jvm.MethodName)) ∈ GT := GT_t 654 (by decide +kernel) rfl
theorem tw655 : (Jvm.Cond.static ({ cls := "java/lang/System", name := "arraycopy", desc := "(Ljava/lang/Object;ILjava/lang/Object;II)V" } : Jvm.MethodName)) ∈ GT := GT_t 655 (by decide +kernel) rfl
theorem tw656 : (Jvm.Cond.native ({ cls := "java/lang/System", name := "arraycopy", desc := "(Ljava/lang/Object;ILjava/lang/Object;II)V" } : Jvm.MethodName)) ∈ GT := GT_t 656 (by decide +kernel) rfl
theorem tw657 : (Jvm.Cond.methodLink "OneBack$Told" (75 : Nat) ({ cls := "OneBack$Law", name := "copy", desc := "(LOneBack$Law;)V" } : Jvm.MethodName)) ∈ GT := GT_t 657 (by decide +kernel) rfl
theorem tw658 : (Jvm.Cond.instanceMethod ({ cls := "OneBack$Law", name := "copy", desc := "(LOneBack$Law;)V" } : Jvm.MethodName)) ∈ GT := GT_t 658 (by decide +kernel) rfl
theorem tw659 : (Jvm.Cond.selects "OneBack$Law" ({ cls := "OneBack$Law", name := "copy", desc := "(LOneBack$Law;)V" } : Jvm.MethodName) ({ cls := "OneBack$Law", name := "copy", desc := "(LOneBack$Law;)V" } : Jvm.MethodName)) ∈ GT := GT_t 659 (by decide +kernel) rfl
theorem tw660 : (Jvm.Cond.code ({ cls := "OneBack$Law", name := "copy", desc := "(LOneBack$Law;)V" } : Jvm.MethodName) prog_2_method_3_code (2 : Nat) (Option.none : Option Jvm.ClassFile.FieldType)) ∈ GT := GT_t 660 (by decide +kernel) rfl
theorem tw661 : (Jvm.Cond.methodLink "OneBack$Told" (81 : Nat) ({ cls := "OneBack$Nights", name := "copy", desc := "(LOneBack$Nights;)V" } : Jvm.MethodName)) ∈ GT := GT_t 661 (by decide +kernel) rfl
theorem tw662 : (Jvm.Cond.instanceMethod ({ cls := "OneBack$Nights", name := "copy", desc := "(LOneBack$Nights;)V" } : Jvm.MethodName)) ∈ GT := GT_t 662 (by decide +kernel) rfl
theorem tw663 : (Jvm.Cond.selects "OneBack$Nights" ({ cls := "OneBack$Nights", name := "copy", desc := "(LOneBack$Nights;)V" } : Jvm.MethodName) ({ cls := "OneBack$Nights", name := "copy", desc := "(LOneBack$Nights;)V" } : Jvm.MethodName)) ∈ GT := GT_t 663 (by decide +kernel) rfl
theorem tw664 : (Jvm.Cond.code ({ cls := "OneBack$Nights", name := "copy", desc := "(LOneBack$Nights;)V" } : Jvm.MethodName) prog_3_method_4_code (2 : Nat) (Option.none : Option Jvm.ClassFile.FieldType)) ∈ GT := GT_t 664 (by decide +kernel) rfl
theorem tw666 : (Jvm.Cond.methodLink "OneBack$Told" (88 : Nat) ({ cls := "OneBack$Sight", name := "copy", desc := "(LOneBack$Sight;)V" } : Jvm.MethodName)) ∈ GT := GT_t 666 (by decide +kernel) rfl
theorem tw667 : (Jvm.Cond.instanceMethod ({ cls := "OneBack$Sight", name := "copy", desc := "(LOneBack$Sight;)V" } : Jvm.MethodName)) ∈ GT := GT_t 667 (by decide +kernel) rfl
theorem tw668 : (Jvm.Cond.selects "OneBack$Sight" ({ cls := "OneBack$Sight", name := "copy", desc := "(LOneBack$Sight;)V" } : Jvm.MethodName) ({ cls := "OneBack$Sight", name := "copy", desc := "(LOneBack$Sight;)V" } : Jvm.MethodName)) ∈ GT := GT_t 668 (by decide +kernel) rfl
theorem tw669 : (Jvm.Cond.code ({ cls := "OneBack$Sight", name := "copy", desc := "(LOneBack$Sight;)V" } : Jvm.MethodName) prog_6_method_4_code (2 : Nat) (Option.none : Option Jvm.ClassFile.FieldType)) ∈ GT := GT_t 669 (by decide +kernel) rfl
theorem tw671 : (Jvm.Cond.methodLink "OneBack$Told" (91 : Nat) ({ cls := "java/lang/Math", name := "max", desc := "(II)I" } : Jvm.MethodName)) ∈ GT := GT_t 671 (by decide +kernel) rfl
theorem tw672 : (Jvm.Cond.methodLink "OneBackLaw" (28 : Nat) ({ cls := "OneBack", name := "fault", desc := "(I)I" } : Jvm.MethodName)) ∈ GT := GT_t 672 (by decide +kernel) rfl
theorem tw673 : (Jvm.Cond.instanceMethod ({ cls := "OneBack", name := "fault", desc := "(I)I" } : Jvm.MethodName)) ∈ GT := GT_t 673 (by decide +kernel) rfl
theorem tw674 : (Jvm.Cond.selects "OneBack" ({ cls := "OneBack", name := "fault", desc := "(I)I" } : Jvm.MethodName) ({ cls := "OneBack", name := "fault", desc := "(I)I" } : Jvm.MethodName)) ∈ GT := GT_t 674 (by decide +kernel) rfl
theorem tw675 : (Jvm.Cond.code ({ cls := "OneBack", name := "fault", desc := "(I)I" } : Jvm.MethodName) prog_1_method_5_code (2 : Nat) (Option.some Jvm.ClassFile.FieldType.int)) ∈ GT := GT_t 675 (by decide +kernel) rfl
theorem tw676 : (Jvm.Cond.methodLink "OneBackLaw" (32 : Nat) ({ cls := "OneBack", name := "town", desc := "(II)I" } : Jvm.MethodName)) ∈ GT := GT_t 676 (by decide +kernel) rfl
theorem tw677 : (Jvm.Cond.instanceMethod ({ cls := "OneBack", name := "town", desc := "(II)I" } : Jvm.MethodName)) ∈ GT := GT_t 677 (by decide +kernel) rfl
theorem tw678 : (Jvm.Cond.selects "OneBack" ({ cls := "OneBack", name := "town", desc := "(II)I" } : Jvm.MethodName) ({ cls := "OneBack", name := "town", desc := "(II)I" } : Jvm.MethodName)) ∈ GT := GT_t 678 (by decide +kernel) rfl
theorem tw679 : (Jvm.Cond.code ({ cls := "OneBack", name := "town", desc := "(II)I" } : Jvm.MethodName) prog_1_method_6_code (5 : Nat) (Option.some Jvm.ClassFile.FieldType.int)) ∈ GT := GT_t 679 (by decide +kernel) rfl
theorem tw680 : (Jvm.Cond.methodLink "OneBack" (92 : Nat) ({ cls := "OneBack$Told", name := "townAt", desc := "(I)LOneBack$Town;" } : Jvm.MethodName)) ∈ GT := GT_t 680 (by decide +kernel) rfl
theorem tw681 : (Jvm.Cond.instanceMethod ({ cls := "OneBack$Told", name := "townAt", desc := "(I)LOneBack$Town;" } : Jvm.MethodName)) ∈ GT := GT_t 681 (by decide +kernel) rfl
theorem tw682 : (Jvm.Cond.selects "OneBack$Told" ({ cls := "OneBack$Told", name := "townAt", desc := "(I)LOneBack$Town;" } : Jvm.MethodName) ({ cls := "OneBack$Told", name := "townAt", desc := "(I)LOneBack$Town;" } : Jvm.MethodName)) ∈ GT := GT_t 682 (by decide +kernel) rfl
theorem tw683 : (Jvm.Cond.code ({ cls := "OneBack$Told", name := "townAt", desc := "(I)LOneBack$Town;" } : Jvm.MethodName) prog_8_method_4_code (2 : Nat) (Option.some (Jvm.ClassFile.FieldType.object "OneBack$Town"))) ∈ GT := GT_t 683 (by decide +kernel) rfl
theorem tw684 : (Jvm.Cond.methodLink "OneBack" (104 : Nat) ({ cls := "OneBack$Town", name := "isHouse", desc := "(I)Z" } : Jvm.MethodName)) ∈ GT := GT_t 684 (by decide +kernel) rfl
theorem tw685 : (Jvm.Cond.instanceMethod ({ cls := "OneBack$Town", name := "isHouse", desc := "(I)Z" } : Jvm.MethodName)) ∈ GT := GT_t 685 (by decide +kernel) rfl
theorem tw686 : (Jvm.Cond.selects "OneBack$Town" ({ cls := "OneBack$Town", name := "isHouse", desc := "(I)Z" } : Jvm.MethodName) ({ cls := "OneBack$Town", name := "isHouse", desc := "(I)Z" } : Jvm.MethodName)) ∈ GT := GT_t 686 (by decide +kernel) rfl
theorem tw687 : (Jvm.Cond.code ({ cls := "OneBack$Town", name := "isHouse", desc := "(I)Z" } : Jvm.MethodName) prog_9_method_4_code (2 : Nat) (Option.some Jvm.ClassFile.FieldType.boolean)) ∈ GT := GT_t 687 (by decide +kernel) rfl
theorem tw688 : (Jvm.Cond.methodLink "OneBack" (115 : Nat) ({ cls := "OneBack", name := "isGood", desc := "(I)Z" } : Jvm.MethodName)) ∈ GT := GT_t 688 (by decide +kernel) rfl
theorem tw689 : (Jvm.Cond.static ({ cls := "OneBack", name := "isGood", desc := "(I)Z" } : Jvm.MethodName)) ∈ GT := GT_t 689 (by decide +kernel) rfl
theorem tw690 : (Jvm.Cond.code ({ cls := "OneBack", name := "isGood", desc := "(I)Z" } : Jvm.MethodName) prog_1_method_36_code (1 : Nat) (Option.some Jvm.ClassFile.FieldType.boolean)) ∈ GT := GT_t 690 (by decide +kernel) rfl
theorem tw691 : (Jvm.Cond.methodLink "OneBack" (124 : Nat) ({ cls := "OneBack$Town", name := "isThief", desc := "(I)Z" } : Jvm.MethodName)) ∈ GT := GT_t 691 (by decide +kernel) rfl
theorem tw692 : (Jvm.Cond.instanceMethod ({ cls := "OneBack$Town", name := "isThief", desc := "(I)Z" } : Jvm.MethodName)) ∈ GT := GT_t 692 (by decide +kernel) rfl
theorem tw693 : (Jvm.Cond.selects "OneBack$Town" ({ cls := "OneBack$Town", name := "isThief", desc := "(I)Z" } : Jvm.MethodName) ({ cls := "OneBack$Town", name := "isThief", desc := "(I)Z" } : Jvm.MethodName)) ∈ GT := GT_t 693 (by decide +kernel) rfl
theorem tw694 : (Jvm.Cond.code ({ cls := "OneBack$Town", name := "isThief", desc := "(I)Z" } : Jvm.MethodName) prog_9_method_5_code (2 : Nat) (Option.some Jvm.ClassFile.FieldType.boolean)) ∈ GT := GT_t 694 (by decide +kernel) rfl
theorem tw695 : (Jvm.Cond.methodLink "OneBackLaw" (36 : Nat) ({ cls := "OneBack", name := "house", desc := "(IIII)I" } : Jvm.MethodName)) ∈ GT := GT_t 695 (by decide +kernel) rfl
theorem tw696 : (Jvm.Cond.instanceMethod ({ cls := "OneBack", name := "house", desc := "(IIII)I" } : Jvm.MethodName)) ∈ GT := GT_t 696 (by decide +kernel) rfl
theorem tw697 : (Jvm.Cond.selects "OneBack" ({ cls := "OneBack", name := "house", desc := "(IIII)I" } : Jvm.MethodName) ({ cls := "OneBack", name := "house", desc := "(IIII)I" } : Jvm.MethodName)) ∈ GT := GT_t 697 (by decide +kernel) rfl
theorem tw698 : (Jvm.Cond.code ({ cls := "OneBack", name := "house", desc := "(IIII)I" } : Jvm.MethodName) prog_1_method_7_code (6 : Nat) (Option.some Jvm.ClassFile.FieldType.int)) ∈ GT := GT_t 698 (by decide +kernel) rfl
theorem tw699 : (Jvm.Cond.methodLink "OneBack" (136 : Nat) ({ cls := "OneBack", name := "cell", desc := "(II)I" } : Jvm.MethodName)) ∈ GT := GT_t 699 (by decide +kernel) rfl
theorem tw700 : (Jvm.Cond.methodLink "OneBack" (142 : Nat) ({ cls := "OneBack$Town", name := "spareOf", desc := "(II)I" } : Jvm.MethodName)) ∈ GT := GT_t 700 (by decide +kernel) rfl
theorem tw701 : (Jvm.Cond.instanceMethod ({ cls := "OneBack$Town", name := "spareOf", desc := "(II)I" } : Jvm.MethodName)) ∈ GT := GT_t 701 (by decide +kernel) rfl
theorem tw702 : (Jvm.Cond.selects "OneBack$Town" ({ cls := "OneBack$Town", name := "spareOf", desc := "(II)I" } : Jvm.MethodName) ({ cls := "OneBack$Town", name := "spareOf", desc := "(II)I" } : Jvm.MethodName)) ∈ GT := GT_t 702 (by decide +kernel) rfl
theorem tw703 : (Jvm.Cond.code ({ cls := "OneBack$Town", name := "spareOf", desc := "(II)I" } : Jvm.MethodName) prog_9_method_8_code (3 : Nat) (Option.some Jvm.ClassFile.FieldType.int)) ∈ GT := GT_t 703 (by decide +kernel) rfl
theorem tw705 : (Jvm.Cond.methodLink "OneBack$Town" (58 : Nat) ({ cls := "java/lang/Math", name := "max", desc := "(II)I" } : Jvm.MethodName)) ∈ GT := GT_t 705 (by decide +kernel) rfl
theorem tw706 : (Jvm.Cond.methodLink "OneBack" (145 : Nat) ({ cls := "OneBack$Town", name := "lackOf", desc := "(II)I" } : Jvm.MethodName)) ∈ GT := GT_t 706 (by decide +kernel) rfl
theorem tw707 : (Jvm.Cond.instanceMethod ({ cls := "OneBack$Town", name := "lackOf", desc := "(II)I" } : Jvm.MethodName)) ∈ GT := GT_t 707 (by decide +kernel) rfl
theorem tw708 : (Jvm.Cond.selects "OneBack$Town" ({ cls := "OneBack$Town", name := "lackOf", desc := "(II)I" } : Jvm.MethodName) ({ cls := "OneBack$Town", name := "lackOf", desc := "(II)I" } : Jvm.MethodName)) ∈ GT := GT_t 708 (by decide +kernel) rfl
theorem tw709 : (Jvm.Cond.code ({ cls := "OneBack$Town", name := "lackOf", desc := "(II)I" } : Jvm.MethodName) prog_9_method_9_code (3 : Nat) (Option.some Jvm.ClassFile.FieldType.int)) ∈ GT := GT_t 709 (by decide +kernel) rfl
theorem tw710 : (Jvm.Cond.methodLink "OneBackLaw" (41 : Nat) ({ cls := "OneBack", name := "law", desc := "(II)I" } : Jvm.MethodName)) ∈ GT := GT_t 710 (by decide +kernel) rfl
theorem tw711 : (Jvm.Cond.instanceMethod ({ cls := "OneBack", name := "law", desc := "(II)I" } : Jvm.MethodName)) ∈ GT := GT_t 711 (by decide +kernel) rfl
theorem tw712 : (Jvm.Cond.selects "OneBack" ({ cls := "OneBack", name := "law", desc := "(II)I" } : Jvm.MethodName) ({ cls := "OneBack", name := "law", desc := "(II)I" } : Jvm.MethodName)) ∈ GT := GT_t 712 (by decide +kernel) rfl
theorem tw713 : (Jvm.Cond.code ({ cls := "OneBack", name := "law", desc := "(II)I" } : Jvm.MethodName) prog_1_method_8_code (4 : Nat) (Option.some Jvm.ClassFile.FieldType.int)) ∈ GT := GT_t 713 (by decide +kernel) rfl
theorem tw714 : (Jvm.Cond.methodLink "OneBack" (148 : Nat) ({ cls := "OneBack$Told", name := "lawAt", desc := "(I)LOneBack$Law;" } : Jvm.MethodName)) ∈ GT := GT_t 714 (by decide +kernel) rfl
theorem tw715 : (Jvm.Cond.instanceMethod ({ cls := "OneBack$Told", name := "lawAt", desc := "(I)LOneBack$Law;" } : Jvm.MethodName)) ∈ GT := GT_t 715 (by decide +kernel) rfl
theorem tw716 : (Jvm.Cond.selects "OneBack$Told" ({ cls := "OneBack$Told", name := "lawAt", desc := "(I)LOneBack$Law;" } : Jvm.MethodName) ({ cls := "OneBack$Told", name := "lawAt", desc := "(I)LOneBack$Law;" } : Jvm.MethodName)) ∈ GT := GT_t 716 (by decide +kernel) rfl
theorem tw717 : (Jvm.Cond.code ({ cls := "OneBack$Told", name := "lawAt", desc := "(I)LOneBack$Law;" } : Jvm.MethodName) prog_8_method_5_code (2 : Nat) (Option.some (Jvm.ClassFile.FieldType.object "OneBack$Law"))) ∈ GT := GT_t 717 (by decide +kernel) rfl
theorem tw718 : (Jvm.Cond.methodLink "OneBack" (160 : Nat) ({ cls := "OneBack$Law", name := "counts", desc := "(I)I" } : Jvm.MethodName)) ∈ GT := GT_t 718 (by decide +kernel) rfl
theorem tw719 : (Jvm.Cond.instanceMethod ({ cls := "OneBack$Law", name := "counts", desc := "(I)I" } : Jvm.MethodName)) ∈ GT := GT_t 719 (by decide +kernel) rfl
theorem tw720 : (Jvm.Cond.selects "OneBack$Law" ({ cls := "OneBack$Law", name := "counts", desc := "(I)I" } : Jvm.MethodName) ({ cls := "OneBack$Law", name := "counts", desc := "(I)I" } : Jvm.MethodName)) ∈ GT := GT_t 720 (by decide +kernel) rfl
theorem tw721 : (Jvm.Cond.code ({ cls := "OneBack$Law", name := "counts", desc := "(I)I" } : Jvm.MethodName) prog_2_method_4_code (2 : Nat) (Option.some Jvm.ClassFile.FieldType.int)) ∈ GT := GT_t 721 (by decide +kernel) rfl
theorem tw722 : (Jvm.Cond.methodLink "OneBackLaw" (45 : Nat) ({ cls := "OneBack", name := "deed", desc := "(III)I" } : Jvm.MethodName)) ∈ GT := GT_t 722 (by decide +kernel) rfl
theorem tw723 : (Jvm.Cond.instanceMethod ({ cls := "OneBack", name := "deed", desc := "(III)I" } : Jvm.MethodName)) ∈ GT := GT_t 723 (by decide +kernel) rfl
theorem tw724 : (Jvm.Cond.selects "OneBack" ({ cls := "OneBack", name := "deed", desc := "(III)I" } : Jvm.MethodName) ({ cls := "OneBack", name := "deed", desc := "(III)I" } : Jvm.MethodName)) ∈ GT := GT_t 724 (by decide +kernel) rfl
theorem tw725 : (Jvm.Cond.code ({ cls := "OneBack", name := "deed", desc := "(III)I" } : Jvm.MethodName) prog_1_method_9_code (5 : Nat) (Option.some Jvm.ClassFile.FieldType.int)) ∈ GT := GT_t 725 (by decide +kernel) rfl
theorem tw726 : (Jvm.Cond.methodLink "OneBack" (164 : Nat) ({ cls := "OneBack$Told", name := "nightsAt", desc := "(I)LOneBack$Nights;" } : Jvm.MethodName)) ∈ GT := GT_t 726 (by decide +kernel) rfl
theorem tw727 : (Jvm.Cond.instanceMethod ({ cls := "OneBack$Told", name := "nightsAt", desc := "(I)LOneBack$Nights;" } : Jvm.MethodName)) ∈ GT := GT_t 727 (by decide +kernel) rfl
theorem tw728 : (Jvm.Cond.selects "OneBack$Told" ({ cls := "OneBack$Told", name := "nightsAt", desc := "(I)LOneBack$Nights;" } : Jvm.MethodName) ({ cls := "OneBack$Told", name := "nightsAt", desc := "(I)LOneBack$Nights;" } : Jvm.MethodName)) ∈ GT := GT_t 728 (by decide +kernel) rfl
theorem tw729 : (Jvm.Cond.code ({ cls := "OneBack$Told", name := "nightsAt", desc := "(I)LOneBack$Nights;" } : Jvm.MethodName) prog_8_method_6_code (2 : Nat) (Option.some (Jvm.ClassFile.FieldType.object "OneBack$Nights"))) ∈ GT := GT_t 729 (by decide +kernel) rfl
theorem tw730 : (Jvm.Cond.methodLink "OneBackLaw" (50 : Nat) ({ cls := "OneBack", name := "stop", desc := "(III)I" } : Jvm.MethodName)) ∈ GT := GT_t 730 (by decide +kernel) rfl
theorem tw731 : (Jvm.Cond.instanceMethod ({ cls := "OneBack", name := "stop", desc := "(III)I" } : Jvm.MethodName)) ∈ GT := GT_t 731 (by decide +kernel) rfl
theorem tw732 : (Jvm.Cond.selects "OneBack" ({ cls := "OneBack", name := "stop", desc := "(III)I" } : Jvm.MethodName) ({ cls := "OneBack", name := "stop", desc := "(III)I" } : Jvm.MethodName)) ∈ GT := GT_t 732 (by decide +kernel) rfl
theorem tw733 : (Jvm.Cond.code ({ cls := "OneBack", name := "stop", desc := "(III)I" } : Jvm.MethodName) prog_1_method_10_code (4 : Nat) (Option.some Jvm.ClassFile.FieldType.int)) ∈ GT := GT_t 733 (by decide +kernel) rfl
theorem tw734 : (Jvm.Cond.methodLink "OneBack" (185 : Nat) ({ cls := "OneBack", name := "walkTo", desc := "(IIII)Z" } : Jvm.MethodName)) ∈ GT := GT_t 734 (by decide +kernel) rfl
theorem tw736 : (Jvm.Cond.instanceMethod ({ cls := "OneBack", name := "walkTo", desc := "(IIII)Z" } : Jvm.MethodName)) ∈ GT := GT_t 736 (by decide +kernel) rfl
theorem tw737 : (Jvm.Cond.code ({ cls := "OneBack", name := "walkTo", desc := "(IIII)Z" } : Jvm.MethodName) prog_1_method_34_code (8 : Nat) (Option.some Jvm.ClassFile.FieldType.boolean)) ∈ GT := GT_t 737 (by decide +kernel) rfl
theorem tw738 : (Jvm.Cond.methodLink "OneBack" (301 : Nat) ({ cls := "OneBack$Walk", name := "begin", desc := "(LOneBack$Town;LOneBack$Law;)V" } : Jvm.MethodName)) ∈ GT := GT_t 738 (by decide +kernel) rfl
theorem tw739 : (Jvm.Cond.instanceMethod ({ cls := "OneBack$Walk", name := "begin", desc := "(LOneBack$Town;LOneBack$Law;)V" } : Jvm.MethodName)) ∈ GT := GT_t 739 (by decide +kernel) rfl
theorem tw740 : (Jvm.Cond.selects "OneBack$Walk" ({ cls := "OneBack$Walk", name := "begin", desc := "(LOneBack$Town;LOneBack$Law;)V" } : Jvm.MethodName) ({ cls := "OneBack$Walk", name := "begin", desc := "(LOneBack$Town;LOneBack$Law;)V" } : Jvm.MethodName)) ∈ GT := GT_t 740 (by decide +kernel) rfl
theorem tw741 : (Jvm.Cond.code ({ cls := "OneBack$Walk", name := "begin", desc := "(LOneBack$Town;LOneBack$Law;)V" } : Jvm.MethodName) prog_11_method_2_code (3 : Nat) (Option.none : Option Jvm.ClassFile.FieldType)) ∈ GT := GT_t 741 (by decide +kernel) rfl
theorem tw744 : (Jvm.Cond.methodLink "OneBack" (338 : Nat) ({ cls := "OneBack$Walk", name := "follow", desc := "(LOneBack$Nights;I)V" } : Jvm.MethodName)) ∈ GT := GT_t 744 (by decide +kernel) rfl
theorem tw745 : (Jvm.Cond.instanceMethod ({ cls := "OneBack$Walk", name := "follow", desc := "(LOneBack$Nights;I)V" } : Jvm.MethodName)) ∈ GT := GT_t 745 (by decide +kernel) rfl
theorem tw746 : (Jvm.Cond.selects "OneBack$Walk" ({ cls := "OneBack$Walk", name := "follow", desc := "(LOneBack$Nights;I)V" } : Jvm.MethodName) ({ cls := "OneBack$Walk", name := "follow", desc := "(LOneBack$Nights;I)V" } : Jvm.MethodName)) ∈ GT := GT_t 746 (by decide +kernel) rfl
theorem tw747 : (Jvm.Cond.code ({ cls := "OneBack$Walk", name := "follow", desc := "(LOneBack$Nights;I)V" } : Jvm.MethodName) prog_11_method_3_code (4 : Nat) (Option.none : Option Jvm.ClassFile.FieldType)) ∈ GT := GT_t 747 (by decide +kernel) rfl
theorem tw748 : (Jvm.Cond.methodLink "OneBack$Walk" (82 : Nat) ({ cls := "java/lang/Math", name := "min", desc := "(II)I" } : Jvm.MethodName)) ∈ GT := GT_t 748 (by decide +kernel) rfl
theorem tw749 : (Jvm.Cond.methodLink "OneBack$Walk" (88 : Nat) ({ cls := "OneBack$Walk", name := "act", desc := "(LOneBack$Nights;I)Z" } : Jvm.MethodName)) ∈ GT := GT_t 749 (by decide +kernel) rfl
theorem tw751 : (Jvm.Cond.instanceMethod ({ cls := "OneBack$Walk", name := "act", desc := "(LOneBack$Nights;I)Z" } : Jvm.MethodName)) ∈ GT := GT_t 751 (by decide +kernel) rfl
theorem tw752 : (Jvm.Cond.code ({ cls := "OneBack$Walk", name := "act", desc := "(LOneBack$Nights;I)Z" } : Jvm.MethodName) prog_11_method_4_code (6 : Nat) (Option.some Jvm.ClassFile.FieldType.boolean)) ∈ GT := GT_t 752 (by decide +kernel) rfl
theorem tw753 : (Jvm.Cond.methodLink "OneBack$Walk" (104 : Nat) ({ cls := "OneBack$Walk", name := "takeOne", desc := "(III)Z" } : Jvm.MethodName)) ∈ GT := GT_t 753 (by decide +kernel) rfl
theorem tw754 : (Jvm.Cond.instanceMethod ({ cls := "OneBack$Walk", name := "takeOne", desc := "(III)Z" } : Jvm.MethodName)) ∈ GT := GT_t 754 (by decide +kernel) rfl
theorem tw755 : (Jvm.Cond.selects "OneBack$Walk" ({ cls := "OneBack$Walk", name := "takeOne", desc := "(III)Z" } : Jvm.MethodName) ({ cls := "OneBack$Walk", name := "takeOne", desc := "(III)Z" } : Jvm.MethodName)) ∈ GT := GT_t 755 (by decide +kernel) rfl
theorem tw756 : (Jvm.Cond.code ({ cls := "OneBack$Walk", name := "takeOne", desc := "(III)Z" } : Jvm.MethodName) prog_11_method_9_code (4 : Nat) (Option.some Jvm.ClassFile.FieldType.boolean)) ∈ GT := GT_t 756 (by decide +kernel) rfl
theorem tw757 : (Jvm.Cond.methodLink "OneBack$Walk" (139 : Nat) ({ cls := "OneBack$Walk", name := "isFree", desc := "(I)Z" } : Jvm.MethodName)) ∈ GT := GT_t 757 (by decide +kernel) rfl
theorem tw758 : (Jvm.Cond.instanceMethod ({ cls := "OneBack$Walk", name := "isFree", desc := "(I)Z" } : Jvm.MethodName)) ∈ GT := GT_t 758 (by decide +kernel) rfl
theorem tw759 : (Jvm.Cond.selects "OneBack$Walk" ({ cls := "OneBack$Walk", name := "isFree", desc := "(I)Z" } : Jvm.MethodName) ({ cls := "OneBack$Walk", name := "isFree", desc := "(I)Z" } : Jvm.MethodName)) ∈ GT := GT_t 759 (by decide +kernel) rfl
theorem tw760 : (Jvm.Cond.code ({ cls := "OneBack$Walk", name := "isFree", desc := "(I)Z" } : Jvm.MethodName) prog_11_method_5_code (2 : Nat) (Option.some Jvm.ClassFile.FieldType.boolean)) ∈ GT := GT_t 760 (by decide +kernel) rfl
theorem tw761 : (Jvm.Cond.methodLink "OneBack$Walk" (117 : Nat) ({ cls := "OneBack$Town", name := "isThief", desc := "(I)Z" } : Jvm.MethodName)) ∈ GT := GT_t 761 (by decide +kernel) rfl
theorem tw762 : (Jvm.Cond.methodLink "OneBack$Walk" (142 : Nat) ({ cls := "OneBack$Town", name := "isHouse", desc := "(I)Z" } : Jvm.MethodName)) ∈ GT := GT_t 762 (by decide +kernel) rfl
theorem tw766 : (Jvm.Cond.static ({ cls := "OneBack", name := "cell", desc := "(III)I" } : Jvm.MethodName)) ∈ GT := GT_t 766 (by decide +kernel) rfl
theorem tw767 : (Jvm.Cond.code ({ cls := "OneBack", name := "cell", desc := "(III)I" } : Jvm.MethodName) prog_1_method_38_code (3 : Nat) (Option.some Jvm.ClassFile.FieldType.int)) ∈ GT := GT_t 767 (by decide +kernel) rfl
theorem tw768 : (Jvm.Cond.methodLink "OneBack$Walk" (108 : Nat) ({ cls := "OneBack$Walk", name := "giveOne", desc := "(III)Z" } : Jvm.MethodName)) ∈ GT := GT_t 768 (by decide +kernel) rfl
theorem tw769 : (Jvm.Cond.instanceMethod ({ cls := "OneBack$Walk", name := "giveOne", desc := "(III)Z" } : Jvm.MethodName)) ∈ GT := GT_t 769 (by decide +kernel) rfl
theorem tw770 : (Jvm.Cond.selects "OneBack$Walk" ({ cls := "OneBack$Walk", name := "giveOne", desc := "(III)Z" } : Jvm.MethodName) ({ cls := "OneBack$Walk", name := "giveOne", desc := "(III)Z" } : Jvm.MethodName)) ∈ GT := GT_t 770 (by decide +kernel) rfl
theorem tw771 : (Jvm.Cond.code ({ cls := "OneBack$Walk", name := "giveOne", desc := "(III)Z" } : Jvm.MethodName) prog_11_method_10_code (4 : Nat) (Option.some Jvm.ClassFile.FieldType.boolean)) ∈ GT := GT_t 771 (by decide +kernel) rfl
theorem tw772 : (Jvm.Cond.methodLink "OneBack$Walk" (151 : Nat) ({ cls := "OneBack$Walk", name := "takesGift", desc := "(III)Z" } : Jvm.MethodName)) ∈ GT := GT_t 772 (by decide +kernel) rfl
theorem tw773 : (Jvm.Cond.instanceMethod ({ cls := "OneBack$Walk", name := "takesGift", desc := "(III)Z" } : Jvm.MethodName)) ∈ GT := GT_t 773 (by decide +kernel) rfl
theorem tw774 : (Jvm.Cond.selects "OneBack$Walk" ({ cls := "OneBack$Walk", name := "takesGift", desc := "(III)Z" } : Jvm.MethodName) ({ cls := "OneBack$Walk", name := "takesGift", desc := "(III)Z" } : Jvm.MethodName)) ∈ GT := GT_t 774 (by decide +kernel) rfl
theorem tw775 : (Jvm.Cond.code ({ cls := "OneBack$Walk", name := "takesGift", desc := "(III)Z" } : Jvm.MethodName) prog_11_method_8_code (5 : Nat) (Option.some Jvm.ClassFile.FieldType.boolean)) ∈ GT := GT_t 775 (by decide +kernel) rfl
theorem tw776 : (Jvm.Cond.methodLink "OneBack$Walk" (154 : Nat) ({ cls := "OneBack$Law", name := "counts", desc := "(I)I" } : Jvm.MethodName)) ∈ GT := GT_t 776 (by decide +kernel) rfl
theorem tw777 : (Jvm.Cond.methodLink "OneBack$Walk" (111 : Nat) ({ cls := "OneBack$Walk", name := "setOff", desc := "(III)Z" } : Jvm.MethodName)) ∈ GT := GT_t 777 (by decide +kernel) rfl
theorem tw778 : (Jvm.Cond.instanceMethod ({ cls := "OneBack$Walk", name := "setOff", desc := "(III)Z" } : Jvm.MethodName)) ∈ GT := GT_t 778 (by decide +kernel) rfl
theorem tw779 : (Jvm.Cond.selects "OneBack$Walk" ({ cls := "OneBack$Walk", name := "setOff", desc := "(III)Z" } : Jvm.MethodName) ({ cls := "OneBack$Walk", name := "setOff", desc := "(III)Z" } : Jvm.MethodName)) ∈ GT := GT_t 779 (by decide +kernel) rfl
theorem tw780 : (Jvm.Cond.code ({ cls := "OneBack$Walk", name := "setOff", desc := "(III)Z" } : Jvm.MethodName) prog_11_method_11_code (4 : Nat) (Option.some Jvm.ClassFile.FieldType.boolean)) ∈ GT := GT_t 780 (by decide +kernel) rfl
theorem tw781 : (Jvm.Cond.methodLink "OneBack$Walk" (160 : Nat) ({ cls := "OneBack$Town", name := "areKin", desc := "(II)Z" } : Jvm.MethodName)) ∈ GT := GT_t 781 (by decide +kernel) rfl
theorem tw782 : (Jvm.Cond.instanceMethod ({ cls := "OneBack$Town", name := "areKin", desc := "(II)Z" } : Jvm.MethodName)) ∈ GT := GT_t 782 (by decide +kernel) rfl
theorem tw783 : (Jvm.Cond.selects "OneBack$Town" ({ cls := "OneBack$Town", name := "areKin", desc := "(II)Z" } : Jvm.MethodName) ({ cls := "OneBack$Town", name := "areKin", desc := "(II)Z" } : Jvm.MethodName)) ∈ GT := GT_t 783 (by decide +kernel) rfl
theorem tw784 : (Jvm.Cond.code ({ cls := "OneBack$Town", name := "areKin", desc := "(II)Z" } : Jvm.MethodName) prog_9_method_7_code (3 : Nat) (Option.some Jvm.ClassFile.FieldType.boolean)) ∈ GT := GT_t 784 (by decide +kernel) rfl
theorem tw785 : (Jvm.Cond.methodLink "OneBack$Walk" (164 : Nat) ({ cls := "OneBack$Walk", name := "owesOf", desc := "(I)I" } : Jvm.MethodName)) ∈ GT := GT_t 785 (by decide +kernel) rfl
theorem tw786 : (Jvm.Cond.instanceMethod ({ cls := "OneBack$Walk", name := "owesOf", desc := "(I)I" } : Jvm.MethodName)) ∈ GT := GT_t 786 (by decide +kernel) rfl
theorem tw787 : (Jvm.Cond.selects "OneBack$Walk" ({ cls := "OneBack$Walk", name := "owesOf", desc := "(I)I" } : Jvm.MethodName) ({ cls := "OneBack$Walk", name := "owesOf", desc := "(I)I" } : Jvm.MethodName)) ∈ GT := GT_t 787 (by decide +kernel) rfl
theorem tw788 : (Jvm.Cond.code ({ cls := "OneBack$Walk", name := "owesOf", desc := "(I)I" } : Jvm.MethodName) prog_11_method_6_code (2 : Nat) (Option.some Jvm.ClassFile.FieldType.int)) ∈ GT := GT_t 788 (by decide +kernel) rfl
theorem tw789 : (Jvm.Cond.methodLink "OneBack$Walk" (121 : Nat) ({ cls := "OneBack$Law", name := "dueOf", desc := "(I)I" } : Jvm.MethodName)) ∈ GT := GT_t 789 (by decide +kernel) rfl
theorem tw790 : (Jvm.Cond.instanceMethod ({ cls := "OneBack$Law", name := "dueOf", desc := "(I)I" } : Jvm.MethodName)) ∈ GT := GT_t 790 (by decide +kernel) rfl
theorem tw791 : (Jvm.Cond.selects "OneBack$Law" ({ cls := "OneBack$Law", name := "dueOf", desc := "(I)I" } : Jvm.MethodName) ({ cls := "OneBack$Law", name := "dueOf", desc := "(I)I" } : Jvm.MethodName)) ∈ GT := GT_t 791 (by decide +kernel) rfl
theorem tw792 : (Jvm.Cond.code ({ cls := "OneBack$Law", name := "dueOf", desc := "(I)I" } : Jvm.MethodName) prog_2_method_5_code (2 : Nat) (Option.some Jvm.ClassFile.FieldType.int)) ∈ GT := GT_t 792 (by decide +kernel) rfl
theorem tw793 : (Jvm.Cond.methodLink "OneBack$Walk" (114 : Nat) ({ cls := "OneBack$Walk", name := "nightEnds", desc := "()V" } : Jvm.MethodName)) ∈ GT := GT_t 793 (by decide +kernel) rfl
theorem tw794 : (Jvm.Cond.instanceMethod ({ cls := "OneBack$Walk", name := "nightEnds", desc := "()V" } : Jvm.MethodName)) ∈ GT := GT_t 794 (by decide +kernel) rfl
theorem tw795 : (Jvm.Cond.selects "OneBack$Walk" ({ cls := "OneBack$Walk", name := "nightEnds", desc := "()V" } : Jvm.MethodName) ({ cls := "OneBack$Walk", name := "nightEnds", desc := "()V" } : Jvm.MethodName)) ∈ GT := GT_t 795 (by decide +kernel) rfl
theorem tw796 : (Jvm.Cond.code ({ cls := "OneBack$Walk", name := "nightEnds", desc := "()V" } : Jvm.MethodName) prog_11_method_12_code (2 : Nat) (Option.none : Option Jvm.ClassFile.FieldType)) ∈ GT := GT_t 796 (by decide +kernel) rfl
theorem tw797 : (Jvm.Cond.methodLink "OneBackLaw" (54 : Nat) ({ cls := "OneBack", name := "state", desc := "(IIIII)I" } : Jvm.MethodName)) ∈ GT := GT_t 797 (by decide +kernel) rfl
theorem tw798 : (Jvm.Cond.instanceMethod ({ cls := "OneBack", name := "state", desc := "(IIIII)I" } : Jvm.MethodName)) ∈ GT := GT_t 798 (by decide +kernel) rfl
theorem tw799 : (Jvm.Cond.selects "OneBack" ({ cls := "OneBack", name := "state", desc := "(IIIII)I" } : Jvm.MethodName) ({ cls := "OneBack", name := "state", desc := "(IIIII)I" } : Jvm.MethodName)) ∈ GT := GT_t 799 (by decide +kernel) rfl
theorem tw800 : (Jvm.Cond.code ({ cls := "OneBack", name := "state", desc := "(IIIII)I" } : Jvm.MethodName) prog_1_method_11_code (6 : Nat) (Option.some Jvm.ClassFile.FieldType.int)) ∈ GT := GT_t 800 (by decide +kernel) rfl
theorem tw801 : (Jvm.Cond.methodLink "OneBack" (192 : Nat) ({ cls := "OneBack", name := "walkJust", desc := "(IIII)Z" } : Jvm.MethodName)) ∈ GT := GT_t 801 (by decide +kernel) rfl
theorem tw803 : (Jvm.Cond.instanceMethod ({ cls := "OneBack", name := "walkJust", desc := "(IIII)Z" } : Jvm.MethodName)) ∈ GT := GT_t 803 (by decide +kernel) rfl
theorem tw804 : (Jvm.Cond.code ({ cls := "OneBack", name := "walkJust", desc := "(IIII)Z" } : Jvm.MethodName) prog_1_method_35_code (5 : Nat) (Option.some Jvm.ClassFile.FieldType.boolean)) ∈ GT := GT_t 804 (by decide +kernel) rfl
theorem tw805 : (Jvm.Cond.methodLink "OneBack" (198 : Nat) ({ cls := "OneBack$Views", name := "queued", desc := "(LOneBack$Walk;I)I" } : Jvm.MethodName)) ∈ GT := GT_t 805 (by decide +kernel) rfl
theorem tw806 : (Jvm.Cond.static ({ cls := "OneBack$Views", name := "queued", desc := "(LOneBack$Walk;I)I" } : Jvm.MethodName)) ∈ GT := GT_t 806 (by decide +kernel) rfl
theorem tw807 : (Jvm.Cond.code ({ cls := "OneBack$Views", name := "queued", desc := "(LOneBack$Walk;I)I" } : Jvm.MethodName) prog_10_method_8_code (3 : Nat) (Option.some Jvm.ClassFile.FieldType.int)) ∈ GT := GT_t 807 (by decide +kernel) rfl
theorem tw808 : (Jvm.Cond.methodLink "OneBack$Views" (79 : Nat) ({ cls := "OneBack$Views", name := "isOdd", desc := "(LOneBack$Walk;I)Z" } : Jvm.MethodName)) ∈ GT := GT_t 808 (by decide +kernel) rfl
theorem tw809 : (Jvm.Cond.static ({ cls := "OneBack$Views", name := "isOdd", desc := "(LOneBack$Walk;I)Z" } : Jvm.MethodName)) ∈ GT := GT_t 809 (by decide +kernel) rfl
theorem tw810 : (Jvm.Cond.code ({ cls := "OneBack$Views", name := "isOdd", desc := "(LOneBack$Walk;I)Z" } : Jvm.MethodName) prog_10_method_9_code (2 : Nat) (Option.some Jvm.ClassFile.FieldType.boolean)) ∈ GT := GT_t 810 (by decide +kernel) rfl
theorem tw811 : (Jvm.Cond.methodLink "OneBack$Views" (90 : Nat) ({ cls := "OneBack$Law", name := "oddOf", desc := "(I)I" } : Jvm.MethodName)) ∈ GT := GT_t 811 (by decide +kernel) rfl
theorem tw812 : (Jvm.Cond.instanceMethod ({ cls := "OneBack$Law", name := "oddOf", desc := "(I)I" } : Jvm.MethodName)) ∈ GT := GT_t 812 (by decide +kernel) rfl
theorem tw813 : (Jvm.Cond.selects "OneBack$Law" ({ cls := "OneBack$Law", name := "oddOf", desc := "(I)I" } : Jvm.MethodName) ({ cls := "OneBack$Law", name := "oddOf", desc := "(I)I" } : Jvm.MethodName)) ∈ GT := GT_t 813 (by decide +kernel) rfl
theorem tw814 : (Jvm.Cond.code ({ cls := "OneBack$Law", name := "oddOf", desc := "(I)I" } : Jvm.MethodName) prog_2_method_6_code (2 : Nat) (Option.some Jvm.ClassFile.FieldType.int)) ∈ GT := GT_t 814 (by decide +kernel) rfl
theorem tw815 : (Jvm.Cond.methodLink "OneBack$Views" (83 : Nat) ({ cls := "OneBack$Views", name := "placeInQueue", desc := "(LOneBack$Walk;I)I" } : Jvm.MethodName)) ∈ GT := GT_t 815 (by decide +kernel) rfl
theorem tw816 : (Jvm.Cond.static ({ cls := "OneBack$Views", name := "placeInQueue", desc := "(LOneBack$Walk;I)I" } : Jvm.MethodName)) ∈ GT := GT_t 816 (by decide +kernel) rfl
theorem tw817 : (Jvm.Cond.code ({ cls := "OneBack$Views", name := "placeInQueue", desc := "(LOneBack$Walk;I)I" } : Jvm.MethodName) prog_10_method_10_code (4 : Nat) (Option.some Jvm.ClassFile.FieldType.int)) ∈ GT := GT_t 817 (by decide +kernel) rfl
theorem tw818 : (Jvm.Cond.methodLink "OneBack" (204 : Nat) ({ cls := "OneBack$Views", name := "seen", desc := "(LOneBack$Walk;I)I" } : Jvm.MethodName)) ∈ GT := GT_t 818 (by decide +kernel) rfl
theorem tw819 : (Jvm.Cond.static ({ cls := "OneBack$Views", name := "seen", desc := "(LOneBack$Walk;I)I" } : Jvm.MethodName)) ∈ GT := GT_t 819 (by decide +kernel) rfl
theorem tw820 : (Jvm.Cond.code ({ cls := "OneBack$Views", name := "seen", desc := "(LOneBack$Walk;I)I" } : Jvm.MethodName) prog_10_method_2_code (2 : Nat) (Option.some Jvm.ClassFile.FieldType.int)) ∈ GT := GT_t 820 (by decide +kernel) rfl
theorem tw821 : (Jvm.Cond.methodLink "OneBack$Views" (9 : Nat) ({ cls := "OneBack$Views", name := "want", desc := "(LOneBack$Walk;)I" } : Jvm.MethodName)) ∈ GT := GT_t 821 (by decide +kernel) rfl
theorem tw822 : (Jvm.Cond.static ({ cls := "OneBack$Views", name := "want", desc := "(LOneBack$Walk;)I" } : Jvm.MethodName)) ∈ GT := GT_t 822 (by decide +kernel) rfl
theorem tw823 : (Jvm.Cond.code ({ cls := "OneBack$Views", name := "want", desc := "(LOneBack$Walk;)I" } : Jvm.MethodName) prog_10_method_4_code (4 : Nat) (Option.some Jvm.ClassFile.FieldType.int)) ∈ GT := GT_t 823 (by decide +kernel) rfl
theorem tw824 : (Jvm.Cond.methodLink "OneBack$Views" (62 : Nat) ({ cls := "OneBack$Walk", name := "lackOf", desc := "(II)I" } : Jvm.MethodName)) ∈ GT := GT_t 824 (by decide +kernel) rfl
theorem tw825 : (Jvm.Cond.instanceMethod ({ cls := "OneBack$Walk", name := "lackOf", desc := "(II)I" } : Jvm.MethodName)) ∈ GT := GT_t 825 (by decide +kernel) rfl
theorem tw826 : (Jvm.Cond.selects "OneBack$Walk" ({ cls := "OneBack$Walk", name := "lackOf", desc := "(II)I" } : Jvm.MethodName) ({ cls := "OneBack$Walk", name := "lackOf", desc := "(II)I" } : Jvm.MethodName)) ∈ GT := GT_t 826 (by decide +kernel) rfl
theorem tw827 : (Jvm.Cond.code ({ cls := "OneBack$Walk", name := "lackOf", desc := "(II)I" } : Jvm.MethodName) prog_11_method_7_code (3 : Nat) (Option.some Jvm.ClassFile.FieldType.int)) ∈ GT := GT_t 827 (by decide +kernel) rfl
theorem tw828 : (Jvm.Cond.methodLink "OneBack$Walk" (133 : Nat) ({ cls := "java/lang/Math", name := "max", desc := "(II)I" } : Jvm.MethodName)) ∈ GT := GT_t 828 (by decide +kernel) rfl
theorem tw829 : (Jvm.Cond.methodLink "OneBack$Views" (21 : Nat) ({ cls := "OneBack$Views", name := "pious", desc := "(LOneBack$Walk;)I" } : Jvm.MethodName)) ∈ GT := GT_t 829 (by decide +kernel) rfl
theorem tw830 : (Jvm.Cond.static ({ cls := "OneBack$Views", name := "pious", desc := "(LOneBack$Walk;)I" } : Jvm.MethodName)) ∈ GT := GT_t 830 (by decide +kernel) rfl
theorem tw831 : (Jvm.Cond.code ({ cls := "OneBack$Views", name := "pious", desc := "(LOneBack$Walk;)I" } : Jvm.MethodName) prog_10_method_5_code (3 : Nat) (Option.some Jvm.ClassFile.FieldType.int)) ∈ GT := GT_t 831 (by decide +kernel) rfl
theorem tw832 : (Jvm.Cond.methodLink "OneBack$Views" (52 : Nat) ({ cls := "OneBack$Walk", name := "owesOf", desc := "(I)I" } : Jvm.MethodName)) ∈ GT := GT_t 832 (by decide +kernel) rfl
theorem tw833 : (Jvm.Cond.methodLink "OneBack$Views" (24 : Nat) ({ cls := "OneBack$Views", name := "seenOf", desc := "(LOneBack$Walk;II)I" } : Jvm.MethodName)) ∈ GT := GT_t 833 (by decide +kernel) rfl
theorem tw834 : (Jvm.Cond.static ({ cls := "OneBack$Views", name := "seenOf", desc := "(LOneBack$Walk;II)I" } : Jvm.MethodName)) ∈ GT := GT_t 834 (by decide +kernel) rfl
theorem tw835 : (Jvm.Cond.code ({ cls := "OneBack$Views", name := "seenOf", desc := "(LOneBack$Walk;II)I" } : Jvm.MethodName) prog_10_method_3_code (3 : Nat) (Option.some Jvm.ClassFile.FieldType.int)) ∈ GT := GT_t 835 (by decide +kernel) rfl
theorem tw836 : (Jvm.Cond.methodLink "OneBack$Views" (32 : Nat) ({ cls := "OneBack$Town", name := "isHouse", desc := "(I)Z" } : Jvm.MethodName)) ∈ GT := GT_t 836 (by decide +kernel) rfl
theorem tw837 : (Jvm.Cond.methodLink "OneBack$Views" (38 : Nat) ({ cls := "OneBack$Views", name := "lost", desc := "(LOneBack$Walk;I)I" } : Jvm.MethodName)) ∈ GT := GT_t 837 (by decide +kernel) rfl
theorem tw838 : (Jvm.Cond.static ({ cls := "OneBack$Views", name := "lost", desc := "(LOneBack$Walk;I)I" } : Jvm.MethodName)) ∈ GT := GT_t 838 (by decide +kernel) rfl
theorem tw839 : (Jvm.Cond.code ({ cls := "OneBack$Views", name := "lost", desc := "(LOneBack$Walk;I)I" } : Jvm.MethodName) prog_10_method_6_code (4 : Nat) (Option.some Jvm.ClassFile.FieldType.int)) ∈ GT := GT_t 839 (by decide +kernel) rfl
theorem tw840 : (Jvm.Cond.methodLink "OneBack$Views" (69 : Nat) ({ cls := "OneBack$Views", name := "tookFrom", desc := "(LOneBack$Walk;II)I" } : Jvm.MethodName)) ∈ GT := GT_t 840 (by decide +kernel) rfl
theorem tw841 : (Jvm.Cond.static ({ cls := "OneBack$Views", name := "tookFrom", desc := "(LOneBack$Walk;II)I" } : Jvm.MethodName)) ∈ GT := GT_t 841 (by decide +kernel) rfl
theorem tw842 : (Jvm.Cond.code ({ cls := "OneBack$Views", name := "tookFrom", desc := "(LOneBack$Walk;II)I" } : Jvm.MethodName) prog_10_method_7_code (5 : Nat) (Option.some Jvm.ClassFile.FieldType.int)) ∈ GT := GT_t 842 (by decide +kernel) rfl
theorem tw844 : (Jvm.Cond.methodLink "OneBack$Views" (42 : Nat) ({ cls := "OneBack$Town", name := "isThief", desc := "(I)Z" } : Jvm.MethodName)) ∈ GT := GT_t 844 (by decide +kernel) rfl
theorem tw845 : (Jvm.Cond.methodLink "OneBackLaw" (58 : Nat) ({ cls := "OneBack", name := "goods", desc := "(IIIIIII)I" } : Jvm.MethodName)) ∈ GT := GT_t 845 (by decide +kernel) rfl
theorem tw846 : (Jvm.Cond.instanceMethod ({ cls := "OneBack", name := "goods", desc := "(IIIIIII)I" } : Jvm.MethodName)) ∈ GT := GT_t 846 (by decide +kernel) rfl
theorem tw847 : (Jvm.Cond.selects "OneBack" ({ cls := "OneBack", name := "goods", desc := "(IIIIIII)I" } : Jvm.MethodName) ({ cls := "OneBack", name := "goods", desc := "(IIIIIII)I" } : Jvm.MethodName)) ∈ GT := GT_t 847 (by decide +kernel) rfl
theorem tw848 : (Jvm.Cond.code ({ cls := "OneBack", name := "goods", desc := "(IIIIIII)I" } : Jvm.MethodName) prog_1_method_12_code (10 : Nat) (Option.some Jvm.ClassFile.FieldType.int)) ∈ GT := GT_t 848 (by decide +kernel) rfl
theorem tw849 : (Jvm.Cond.methodLink "OneBack" (218 : Nat) ({ cls := "OneBack", name := "cell", desc := "(III)I" } : Jvm.MethodName)) ∈ GT := GT_t 849 (by decide +kernel) rfl
theorem tw850 : (Jvm.Cond.methodLink "OneBackLaw" (63 : Nat) ({ cls := "OneBack", name := "aid", desc := "(II)I" } : Jvm.MethodName)) ∈ GT := GT_t 850 (by decide +kernel) rfl
theorem tw851 : (Jvm.Cond.instanceMethod ({ cls := "OneBack", name := "aid", desc := "(II)I" } : Jvm.MethodName)) ∈ GT := GT_t 851 (by decide +kernel) rfl
theorem tw852 : (Jvm.Cond.selects "OneBack" ({ cls := "OneBack", name := "aid", desc := "(II)I" } : Jvm.MethodName) ({ cls := "OneBack", name := "aid", desc := "(II)I" } : Jvm.MethodName)) ∈ GT := GT_t 852 (by decide +kernel) rfl
theorem tw853 : (Jvm.Cond.code ({ cls := "OneBack", name := "aid", desc := "(II)I" } : Jvm.MethodName) prog_1_method_13_code (4 : Nat) (Option.some Jvm.ClassFile.FieldType.int)) ∈ GT := GT_t 853 (by decide +kernel) rfl
theorem tw854 : (Jvm.Cond.methodLink "OneBack" (221 : Nat) ({ cls := "OneBack$Supply", name := "isAsked", desc := "(LOneBack$Town;I)Z" } : Jvm.MethodName)) ∈ GT := GT_t 854 (by decide +kernel) rfl
theorem tw855 : (Jvm.Cond.static ({ cls := "OneBack$Supply", name := "isAsked", desc := "(LOneBack$Town;I)Z" } : Jvm.MethodName)) ∈ GT := GT_t 855 (by decide +kernel) rfl
theorem tw856 : (Jvm.Cond.code ({ cls := "OneBack$Supply", name := "isAsked", desc := "(LOneBack$Town;I)Z" } : Jvm.MethodName) prog_7_method_2_code (2 : Nat) (Option.some Jvm.ClassFile.FieldType.boolean)) ∈ GT := GT_t 856 (by decide +kernel) rfl
theorem tw857 : (Jvm.Cond.methodLink "OneBack" (225 : Nat) ({ cls := "OneBack$Supply", name := "isEnough", desc := "(LOneBack$Town;)Z" } : Jvm.MethodName)) ∈ GT := GT_t 857 (by decide +kernel) rfl
theorem tw858 : (Jvm.Cond.static ({ cls := "OneBack$Supply", name := "isEnough", desc := "(LOneBack$Town;)Z" } : Jvm.MethodName)) ∈ GT := GT_t 858 (by decide +kernel) rfl
theorem tw859 : (Jvm.Cond.code ({ cls := "OneBack$Supply", name := "isEnough", desc := "(LOneBack$Town;)Z" } : Jvm.MethodName) prog_7_method_3_code (2 : Nat) (Option.some Jvm.ClassFile.FieldType.boolean)) ∈ GT := GT_t 859 (by decide +kernel) rfl
theorem tw860 : (Jvm.Cond.methodLink "OneBack$Supply" (24 : Nat) ({ cls := "OneBack$Town", name := "spareOfAll", desc := "(I)I" } : Jvm.MethodName)) ∈ GT := GT_t 860 (by decide +kernel) rfl
theorem tw861 : (Jvm.Cond.instanceMethod ({ cls := "OneBack$Town", name := "spareOfAll", desc := "(I)I" } : Jvm.MethodName)) ∈ GT := GT_t 861 (by decide +kernel) rfl
theorem tw862 : (Jvm.Cond.selects "OneBack$Town" ({ cls := "OneBack$Town", name := "spareOfAll", desc := "(I)I" } : Jvm.MethodName) ({ cls := "OneBack$Town", name := "spareOfAll", desc := "(I)I" } : Jvm.MethodName)) ∈ GT := GT_t 862 (by decide +kernel) rfl
theorem tw863 : (Jvm.Cond.code ({ cls := "OneBack$Town", name := "spareOfAll", desc := "(I)I" } : Jvm.MethodName) prog_9_method_10_code (4 : Nat) (Option.some Jvm.ClassFile.FieldType.int)) ∈ GT := GT_t 863 (by decide +kernel) rfl
theorem tw864 : (Jvm.Cond.methodLink "OneBack$Town" (63 : Nat) ({ cls := "OneBack$Town", name := "spareOf", desc := "(II)I" } : Jvm.MethodName)) ∈ GT := GT_t 864 (by decide +kernel) rfl
theorem tw865 : (Jvm.Cond.methodLink "OneBack$Supply" (28 : Nat) ({ cls := "OneBack$Town", name := "lackOfAll", desc := "(I)I" } : Jvm.MethodName)) ∈ GT := GT_t 865 (by decide +kernel) rfl
theorem tw866 : (Jvm.Cond.instanceMethod ({ cls := "OneBack$Town", name := "lackOfAll", desc := "(I)I" } : Jvm.MethodName)) ∈ GT := GT_t 866 (by decide +kernel) rfl
theorem tw867 : (Jvm.Cond.selects "OneBack$Town" ({ cls := "OneBack$Town", name := "lackOfAll", desc := "(I)I" } : Jvm.MethodName) ({ cls := "OneBack$Town", name := "lackOfAll", desc := "(I)I" } : Jvm.MethodName)) ∈ GT := GT_t 867 (by decide +kernel) rfl
theorem tw868 : (Jvm.Cond.code ({ cls := "OneBack$Town", name := "lackOfAll", desc := "(I)I" } : Jvm.MethodName) prog_9_method_11_code (4 : Nat) (Option.some Jvm.ClassFile.FieldType.int)) ∈ GT := GT_t 868 (by decide +kernel) rfl
theorem tw869 : (Jvm.Cond.methodLink "OneBack$Town" (66 : Nat) ({ cls := "OneBack$Town", name := "lackOf", desc := "(II)I" } : Jvm.MethodName)) ∈ GT := GT_t 869 (by decide +kernel) rfl
theorem tw870 : (Jvm.Cond.methodLink "OneBack" (229 : Nat) ({ cls := "OneBack$Supply", name := "answer", desc := "(LOneBack$Town;I)I" } : Jvm.MethodName)) ∈ GT := GT_t 870 (by decide +kernel) rfl
theorem tw871 : (Jvm.Cond.static ({ cls := "OneBack$Supply", name := "answer", desc := "(LOneBack$Town;I)I" } : Jvm.MethodName)) ∈ GT := GT_t 871 (by decide +kernel) rfl
theorem tw872 : (Jvm.Cond.code ({ cls := "OneBack$Supply", name := "answer", desc := "(LOneBack$Town;I)I" } : Jvm.MethodName) prog_7_method_4_code (7 : Nat) (Option.some Jvm.ClassFile.FieldType.int)) ∈ GT := GT_t 872 (by decide +kernel) rfl
theorem tw873 : (Jvm.Cond.methodLink "OneBack$Supply" (31 : Nat) ({ cls := "OneBack$Supply", name := "takenFrom", desc := "(LOneBack$Town;II)I" } : Jvm.MethodName)) ∈ GT := GT_t 873 (by decide +kernel) rfl
theorem tw874 : (Jvm.Cond.static ({ cls := "OneBack$Supply", name := "takenFrom", desc := "(LOneBack$Town;II)I" } : Jvm.MethodName)) ∈ GT := GT_t 874 (by decide +kernel) rfl
theorem tw875 : (Jvm.Cond.code ({ cls := "OneBack$Supply", name := "takenFrom", desc := "(LOneBack$Town;II)I" } : Jvm.MethodName) prog_7_method_5_code (6 : Nat) (Option.some Jvm.ClassFile.FieldType.int)) ∈ GT := GT_t 875 (by decide +kernel) rfl
theorem tw876 : (Jvm.Cond.methodLink "OneBack$Supply" (46 : Nat) ({ cls := "OneBack$Town", name := "spareOf", desc := "(II)I" } : Jvm.MethodName)) ∈ GT := GT_t 876 (by decide +kernel) rfl
theorem tw877 : (Jvm.Cond.methodLink "OneBack$Supply" (49 : Nat) ({ cls := "java/lang/Math", name := "min", desc := "(II)I" } : Jvm.MethodName)) ∈ GT := GT_t 877 (by decide +kernel) rfl
theorem tw878 : (Jvm.Cond.methodLink "OneBack$Supply" (54 : Nat) ({ cls := "java/lang/Math", name := "max", desc := "(II)I" } : Jvm.MethodName)) ∈ GT := GT_t 878 (by decide +kernel) rfl
theorem tw879 : (Jvm.Cond.methodLink "OneBack$Supply" (38 : Nat) ({ cls := "OneBack$Town", name := "limitOfAll", desc := "()I" } : Jvm.MethodName)) ∈ GT := GT_t 879 (by decide +kernel) rfl
theorem tw880 : (Jvm.Cond.instanceMethod ({ cls := "OneBack$Town", name := "limitOfAll", desc := "()I" } : Jvm.MethodName)) ∈ GT := GT_t 880 (by decide +kernel) rfl
theorem tw881 : (Jvm.Cond.selects "OneBack$Town" ({ cls := "OneBack$Town", name := "limitOfAll", desc := "()I" } : Jvm.MethodName) ({ cls := "OneBack$Town", name := "limitOfAll", desc := "()I" } : Jvm.MethodName)) ∈ GT := GT_t 881 (by decide +kernel) rfl
theorem tw882 : (Jvm.Cond.code ({ cls := "OneBack$Town", name := "limitOfAll", desc := "()I" } : Jvm.MethodName) prog_9_method_12_code (3 : Nat) (Option.some Jvm.ClassFile.FieldType.int)) ∈ GT := GT_t 882 (by decide +kernel) rfl
theorem tw883 : (Jvm.Cond.methodLink "OneBack$Supply" (42 : Nat) ({ cls := "OneBack$Supply", name := "nightsFor", desc := "(II)I" } : Jvm.MethodName)) ∈ GT := GT_t 883 (by decide +kernel) rfl
theorem tw884 : (Jvm.Cond.static ({ cls := "OneBack$Supply", name := "nightsFor", desc := "(II)I" } : Jvm.MethodName)) ∈ GT := GT_t 884 (by decide +kernel) rfl
theorem tw885 : (Jvm.Cond.code ({ cls := "OneBack$Supply", name := "nightsFor", desc := "(II)I" } : Jvm.MethodName) prog_7_method_6_code (2 : Nat) (Option.some Jvm.ClassFile.FieldType.int)) ∈ GT := GT_t 885 (by decide +kernel) rfl
theorem tw886 : (Jvm.Cond.methodLink "OneBackLaw" (67 : Nat) ({ cls := "OneBack", name := "carry", desc := "(I)I" } : Jvm.MethodName)) ∈ GT := GT_t 886 (by decide +kernel) rfl
theorem tw887 : (Jvm.Cond.instanceMethod ({ cls := "OneBack", name := "carry", desc := "(I)I" } : Jvm.MethodName)) ∈ GT := GT_t 887 (by decide +kernel) rfl
theorem tw888 : (Jvm.Cond.selects "OneBack" ({ cls := "OneBack", name := "carry", desc := "(I)I" } : Jvm.MethodName) ({ cls := "OneBack", name := "carry", desc := "(I)I" } : Jvm.MethodName)) ∈ GT := GT_t 888 (by decide +kernel) rfl
theorem tw889 : (Jvm.Cond.code ({ cls := "OneBack", name := "carry", desc := "(I)I" } : Jvm.MethodName) prog_1_method_14_code (3 : Nat) (Option.some Jvm.ClassFile.FieldType.int)) ∈ GT := GT_t 889 (by decide +kernel) rfl
theorem tw890 : (Jvm.Cond.methodLink "OneBack" (233 : Nat) ({ cls := "OneBack$Supply", name := "carryAll", desc := "(LOneBack$Town;)I" } : Jvm.MethodName)) ∈ GT := GT_t 890 (by decide +kernel) rfl
theorem tw891 : (Jvm.Cond.instanceMethod ({ cls := "OneBack$Supply", name := "carryAll", desc := "(LOneBack$Town;)I" } : Jvm.MethodName)) ∈ GT := GT_t 891 (by decide +kernel) rfl
theorem tw892 : (Jvm.Cond.selects "OneBack$Supply" ({ cls := "OneBack$Supply", name := "carryAll", desc := "(LOneBack$Town;)I" } : Jvm.MethodName) ({ cls := "OneBack$Supply", name := "carryAll", desc := "(LOneBack$Town;)I" } : Jvm.MethodName)) ∈ GT := GT_t 892 (by decide +kernel) rfl
theorem tw893 : (Jvm.Cond.code ({ cls := "OneBack$Supply", name := "carryAll", desc := "(LOneBack$Town;)I" } : Jvm.MethodName) prog_7_method_7_code (4 : Nat) (Option.some Jvm.ClassFile.FieldType.int)) ∈ GT := GT_t 893 (by decide +kernel) rfl
theorem tw894 : (Jvm.Cond.methodLink "OneBack$Supply" (57 : Nat) ({ cls := "OneBack$Supply", name := "isEnough", desc := "(LOneBack$Town;)Z" } : Jvm.MethodName)) ∈ GT := GT_t 894 (by decide +kernel) rfl
theorem tw895 : (Jvm.Cond.methodLink "OneBack$Supply" (64 : Nat) ({ cls := "OneBack$Supply", name := "carryGood", desc := "(LOneBack$Town;I)I" } : Jvm.MethodName)) ∈ GT := GT_t 895 (by decide +kernel) rfl
theorem tw897 : (Jvm.Cond.instanceMethod ({ cls := "OneBack$Supply", name := "carryGood", desc := "(LOneBack$Town;I)I" } : Jvm.MethodName)) ∈ GT := GT_t 897 (by decide +kernel) rfl
theorem tw898 : (Jvm.Cond.code ({ cls := "OneBack$Supply", name := "carryGood", desc := "(LOneBack$Town;I)I" } : Jvm.MethodName) prog_7_method_8_code (8 : Nat) (Option.some Jvm.ClassFile.FieldType.int)) ∈ GT := GT_t 898 (by decide +kernel) rfl
theorem tw899 : (Jvm.Cond.constant "OneBack$Supply" (68 : Nat) (1000000 : Int32)) ∈ GT := GT_t 899 (by decide +kernel) rfl
theorem tw901 : (Jvm.Cond.methodLink "OneBack$Supply" (73 : Nat) ({ cls := "OneBack$Town", name := "lackOf", desc := "(II)I" } : Jvm.MethodName)) ∈ GT := GT_t 901 (by decide +kernel) rfl
theorem tw902 : (Jvm.Cond.methodLink "OneBack$Supply" (76 : Nat) ({ cls := "OneBack$Supply", name := "leastOf", desc := "(II)I" } : Jvm.MethodName)) ∈ GT := GT_t 902 (by decide +kernel) rfl
theorem tw904 : (Jvm.Cond.instanceMethod ({ cls := "OneBack$Supply", name := "leastOf", desc := "(II)I" } : Jvm.MethodName)) ∈ GT := GT_t 904 (by decide +kernel) rfl
theorem tw905 : (Jvm.Cond.code ({ cls := "OneBack$Supply", name := "leastOf", desc := "(II)I" } : Jvm.MethodName) prog_7_method_9_code (5 : Nat) (Option.some Jvm.ClassFile.FieldType.int)) ∈ GT := GT_t 905 (by decide +kernel) rfl
theorem tw906 : (Jvm.Cond.methodLink "OneBack$Supply" (79 : Nat) ({ cls := "java/lang/Math", name := "abs", desc := "(I)I" } : Jvm.MethodName)) ∈ GT := GT_t 906 (by decide +kernel) rfl
theorem tw907 : (Jvm.Cond.static ({ cls := "java/lang/Math", name := "abs", desc := "(I)I" } : Jvm.MethodName)) ∈ GT := GT_t 907 (by decide +kernel) rfl
theorem tw908 : (Jvm.Cond.code ({ cls := "java/lang/Math", name := "abs", desc := "(I)I" } : Jvm.MethodName) prog_15_method_59_code (1 : Nat) (Option.some Jvm.ClassFile.FieldType.int)) ∈ GT := GT_t 908 (by decide +kernel) rfl
theorem tw909 : (Jvm.Cond.methodLink "OneBackLaw" (71 : Nat) ({ cls := "OneBack", name := "round", desc := "(II)I" } : Jvm.MethodName)) ∈ GT := GT_t 909 (by decide +kernel) rfl
theorem tw910 : (Jvm.Cond.instanceMethod ({ cls := "OneBack", name := "round", desc := "(II)I" } : Jvm.MethodName)) ∈ GT := GT_t 910 (by decide +kernel) rfl
theorem tw911 : (Jvm.Cond.selects "OneBack" ({ cls := "OneBack", name := "round", desc := "(II)I" } : Jvm.MethodName) ({ cls := "OneBack", name := "round", desc := "(II)I" } : Jvm.MethodName)) ∈ GT := GT_t 911 (by decide +kernel) rfl
theorem tw912 : (Jvm.Cond.code ({ cls := "OneBack", name := "round", desc := "(II)I" } : Jvm.MethodName) prog_1_method_15_code (4 : Nat) (Option.some Jvm.ClassFile.FieldType.int)) ∈ GT := GT_t 912 (by decide +kernel) rfl
theorem tw913 : (Jvm.Cond.methodLink "OneBack" (237 : Nat) ({ cls := "OneBack$Town", name := "allHome", desc := "()I" } : Jvm.MethodName)) ∈ GT := GT_t 913 (by decide +kernel) rfl
theorem tw914 : (Jvm.Cond.instanceMethod ({ cls := "OneBack$Town", name := "allHome", desc := "()I" } : Jvm.MethodName)) ∈ GT := GT_t 914 (by decide +kernel) rfl
theorem tw915 : (Jvm.Cond.selects "OneBack$Town" ({ cls := "OneBack$Town", name := "allHome", desc := "()I" } : Jvm.MethodName) ({ cls := "OneBack$Town", name := "allHome", desc := "()I" } : Jvm.MethodName)) ∈ GT := GT_t 915 (by decide +kernel) rfl
theorem tw916 : (Jvm.Cond.code ({ cls := "OneBack$Town", name := "allHome", desc := "()I" } : Jvm.MethodName) prog_9_method_20_code (5 : Nat) (Option.some Jvm.ClassFile.FieldType.int)) ∈ GT := GT_t 916 (by decide +kernel) rfl
theorem tw917 : (Jvm.Cond.methodLink "OneBack$Town" (85 : Nat) ({ cls := "OneBack$Town", name := "homeAgain", desc := "(I)I" } : Jvm.MethodName)) ∈ GT := GT_t 917 (by decide +kernel) rfl
theorem tw918 : (Jvm.Cond.instanceMethod ({ cls := "OneBack$Town", name := "homeAgain", desc := "(I)I" } : Jvm.MethodName)) ∈ GT := GT_t 918 (by decide +kernel) rfl
theorem tw919 : (Jvm.Cond.selects "OneBack$Town" ({ cls := "OneBack$Town", name := "homeAgain", desc := "(I)I" } : Jvm.MethodName) ({ cls := "OneBack$Town", name := "homeAgain", desc := "(I)I" } : Jvm.MethodName)) ∈ GT := GT_t 919 (by decide +kernel) rfl
theorem tw920 : (Jvm.Cond.code ({ cls := "OneBack$Town", name := "homeAgain", desc := "(I)I" } : Jvm.MethodName) prog_9_method_19_code (4 : Nat) (Option.some Jvm.ClassFile.FieldType.int)) ∈ GT := GT_t 920 (by decide +kernel) rfl
theorem tw922 : (Jvm.Cond.static ({ cls := "OneBack", name := "commonDivisor", desc := "(II)I" } : Jvm.MethodName)) ∈ GT := GT_t 922 (by decide +kernel) rfl
theorem tw923 : (Jvm.Cond.code ({ cls := "OneBack", name := "commonDivisor", desc := "(II)I" } : Jvm.MethodName) prog_1_method_41_code (6 : Nat) (Option.some Jvm.ClassFile.FieldType.int)) ∈ GT := GT_t 923 (by decide +kernel) rfl
theorem tw924 : (Jvm.Cond.methodLink "OneBack" (241 : Nat) ({ cls := "OneBack$Town", name := "homeAgain", desc := "(I)I" } : Jvm.MethodName)) ∈ GT := GT_t 924 (by decide +kernel) rfl
theorem tw925 : (Jvm.Cond.methodLink "OneBackLaw" (75 : Nat) ({ cls := "OneBack", name := "meets", desc := "(III)I" } : Jvm.MethodName)) ∈ GT := GT_t 925 (by decide +kernel) rfl
theorem tw926 : (Jvm.Cond.instanceMethod ({ cls := "OneBack", name := "meets", desc := "(III)I" } : Jvm.MethodName)) ∈ GT := GT_t 926 (by decide +kernel) rfl
theorem tw927 : (Jvm.Cond.selects "OneBack" ({ cls := "OneBack", name := "meets", desc := "(III)I" } : Jvm.MethodName) ({ cls := "OneBack", name := "meets", desc := "(III)I" } : Jvm.MethodName)) ∈ GT := GT_t 927 (by decide +kernel) rfl
theorem tw928 : (Jvm.Cond.code ({ cls := "OneBack", name := "meets", desc := "(III)I" } : Jvm.MethodName) prog_1_method_16_code (5 : Nat) (Option.some Jvm.ClassFile.FieldType.int)) ∈ GT := GT_t 928 (by decide +kernel) rfl
theorem tw929 : (Jvm.Cond.methodLink "OneBack" (244 : Nat) ({ cls := "OneBack$Town", name := "meeting", desc := "(II)I" } : Jvm.MethodName)) ∈ GT := GT_t 929 (by decide +kernel) rfl
theorem tw930 : (Jvm.Cond.instanceMethod ({ cls := "OneBack$Town", name := "meeting", desc := "(II)I" } : Jvm.MethodName)) ∈ GT := GT_t 930 (by decide +kernel) rfl
theorem tw931 : (Jvm.Cond.selects "OneBack$Town" ({ cls := "OneBack$Town", name := "meeting", desc := "(II)I" } : Jvm.MethodName) ({ cls := "OneBack$Town", name := "meeting", desc := "(II)I" } : Jvm.MethodName)) ∈ GT := GT_t 931 (by decide +kernel) rfl
theorem tw932 : (Jvm.Cond.code ({ cls := "OneBack$Town", name := "meeting", desc := "(II)I" } : Jvm.MethodName) prog_9_method_21_code (6 : Nat) (Option.some Jvm.ClassFile.FieldType.int)) ∈ GT := GT_t 932 (by decide +kernel) rfl
theorem tw933 : (Jvm.Cond.methodLink "OneBackLaw" (79 : Nat) ({ cls := "OneBack", name := "sight", desc := "(II)I" } : Jvm.MethodName)) ∈ GT := GT_t 933 (by decide +kernel) rfl
theorem tw934 : (Jvm.Cond.instanceMethod ({ cls := "OneBack", name := "sight", desc := "(II)I" } : Jvm.MethodName)) ∈ GT := GT_t 934 (by decide +kernel) rfl
theorem tw935 : (Jvm.Cond.selects "OneBack" ({ cls := "OneBack", name := "sight", desc := "(II)I" } : Jvm.MethodName) ({ cls := "OneBack", name := "sight", desc := "(II)I" } : Jvm.MethodName)) ∈ GT := GT_t 935 (by decide +kernel) rfl
theorem tw936 : (Jvm.Cond.code ({ cls := "OneBack", name := "sight", desc := "(II)I" } : Jvm.MethodName) prog_1_method_17_code (4 : Nat) (Option.some Jvm.ClassFile.FieldType.int)) ∈ GT := GT_t 936 (by decide +kernel) rfl
theorem tw937 : (Jvm.Cond.methodLink "OneBack" (247 : Nat) ({ cls := "OneBack$Told", name := "sightAt", desc := "(I)LOneBack$Sight;" } : Jvm.MethodName)) ∈ GT := GT_t 937 (by decide +kernel) rfl
theorem tw938 : (Jvm.Cond.instanceMethod ({ cls := "OneBack$Told", name := "sightAt", desc := "(I)LOneBack$Sight;" } : Jvm.MethodName)) ∈ GT := GT_t 938 (by decide +kernel) rfl
theorem tw939 : (Jvm.Cond.selects "OneBack$Told" ({ cls := "OneBack$Told", name := "sightAt", desc := "(I)LOneBack$Sight;" } : Jvm.MethodName) ({ cls := "OneBack$Told", name := "sightAt", desc := "(I)LOneBack$Sight;" } : Jvm.MethodName)) ∈ GT := GT_t 939 (by decide +kernel) rfl
theorem tw940 : (Jvm.Cond.code ({ cls := "OneBack$Told", name := "sightAt", desc := "(I)LOneBack$Sight;" } : Jvm.MethodName) prog_8_method_7_code (2 : Nat) (Option.some (Jvm.ClassFile.FieldType.object "OneBack$Sight"))) ∈ GT := GT_t 940 (by decide +kernel) rfl
theorem tw941 : (Jvm.Cond.methodLink "OneBackLaw" (83 : Nat) ({ cls := "OneBack", name := "hands", desc := "(IIIII)I" } : Jvm.MethodName)) ∈ GT := GT_t 941 (by decide +kernel) rfl
theorem tw942 : (Jvm.Cond.instanceMethod ({ cls := "OneBack", name := "hands", desc := "(IIIII)I" } : Jvm.MethodName)) ∈ GT := GT_t 942 (by decide +kernel) rfl
theorem tw943 : (Jvm.Cond.selects "OneBack" ({ cls := "OneBack", name := "hands", desc := "(IIIII)I" } : Jvm.MethodName) ({ cls := "OneBack", name := "hands", desc := "(IIIII)I" } : Jvm.MethodName)) ∈ GT := GT_t 943 (by decide +kernel) rfl
theorem tw944 : (Jvm.Cond.code ({ cls := "OneBack", name := "hands", desc := "(IIIII)I" } : Jvm.MethodName) prog_1_method_18_code (7 : Nat) (Option.some Jvm.ClassFile.FieldType.int)) ∈ GT := GT_t 944 (by decide +kernel) rfl
theorem tw945 : (Jvm.Cond.methodLink "OneBack" (263 : Nat) ({ cls := "OneBack$Sight", name := "ways", desc := "(LOneBack$Walk;)I" } : Jvm.MethodName)) ∈ GT := GT_t 945 (by decide +kernel) rfl
theorem tw946 : (Jvm.Cond.instanceMethod ({ cls := "OneBack$Sight", name := "ways", desc := "(LOneBack$Walk;)I" } : Jvm.MethodName)) ∈ GT := GT_t 946 (by decide +kernel) rfl
theorem tw947 : (Jvm.Cond.selects "OneBack$Sight" ({ cls := "OneBack$Sight", name := "ways", desc := "(LOneBack$Walk;)I" } : Jvm.MethodName) ({ cls := "OneBack$Sight", name := "ways", desc := "(LOneBack$Walk;)I" } : Jvm.MethodName)) ∈ GT := GT_t 947 (by decide +kernel) rfl
theorem tw948 : (Jvm.Cond.code ({ cls := "OneBack$Sight", name := "ways", desc := "(LOneBack$Walk;)I" } : Jvm.MethodName) prog_6_method_5_code (4 : Nat) (Option.some Jvm.ClassFile.FieldType.int)) ∈ GT := GT_t 948 (by decide +kernel) rfl
theorem tw949 : (Jvm.Cond.methodLink "OneBack$Sight" (36 : Nat) ({ cls := "OneBack$Sight", name := "alike", desc := "(III)I" } : Jvm.MethodName)) ∈ GT := GT_t 949 (by decide +kernel) rfl
theorem tw951 : (Jvm.Cond.instanceMethod ({ cls := "OneBack$Sight", name := "alike", desc := "(III)I" } : Jvm.MethodName)) ∈ GT := GT_t 951 (by decide +kernel) rfl
theorem tw952 : (Jvm.Cond.code ({ cls := "OneBack$Sight", name := "alike", desc := "(III)I" } : Jvm.MethodName) prog_6_method_6_code (6 : Nat) (Option.some Jvm.ClassFile.FieldType.int)) ∈ GT := GT_t 952 (by decide +kernel) rfl
theorem tw954 : (Jvm.Cond.methodLink "OneBack$Sight" (44 : Nat) ({ cls := "OneBack$Sight", name := "waysOf", desc := "(LOneBack$Walk;III)I" } : Jvm.MethodName)) ∈ GT := GT_t 954 (by decide +kernel) rfl
theorem tw955 : (Jvm.Cond.static ({ cls := "OneBack$Sight", name := "waysOf", desc := "(LOneBack$Walk;III)I" } : Jvm.MethodName)) ∈ GT := GT_t 955 (by decide +kernel) rfl
theorem tw956 : (Jvm.Cond.code ({ cls := "OneBack$Sight", name := "waysOf", desc := "(LOneBack$Walk;III)I" } : Jvm.MethodName) prog_6_method_7_code (7 : Nat) (Option.some Jvm.ClassFile.FieldType.int)) ∈ GT := GT_t 956 (by decide +kernel) rfl
theorem tw957 : (Jvm.Cond.methodLink "OneBack$Sight" (53 : Nat) ({ cls := "java/lang/Math", name := "min", desc := "(II)I" } : Jvm.MethodName)) ∈ GT := GT_t 957 (by decide +kernel) rfl
theorem tw958 : (Jvm.Cond.methodLink "OneBack$Sight" (58 : Nat) ({ cls := "OneBack$Sight", name := "choices", desc := "(II)I" } : Jvm.MethodName)) ∈ GT := GT_t 958 (by decide +kernel) rfl
theorem tw959 : (Jvm.Cond.static ({ cls := "OneBack$Sight", name := "choices", desc := "(II)I" } : Jvm.MethodName)) ∈ GT := GT_t 959 (by decide +kernel) rfl
theorem tw960 : (Jvm.Cond.code ({ cls := "OneBack$Sight", name := "choices", desc := "(II)I" } : Jvm.MethodName) prog_6_method_8_code (4 : Nat) (Option.some Jvm.ClassFile.FieldType.int)) ∈ GT := GT_t 960 (by decide +kernel) rfl
theorem tw961 : (Jvm.Cond.methodLink "OneBack" (267 : Nat) ({ cls := "OneBack$Sight", name := "mayBe", desc := "(LOneBack$Walk;I)I" } : Jvm.MethodName)) ∈ GT := GT_t 961 (by decide +kernel) rfl
theorem tw962 : (Jvm.Cond.instanceMethod ({ cls := "OneBack$Sight", name := "mayBe", desc := "(LOneBack$Walk;I)I" } : Jvm.MethodName)) ∈ GT := GT_t 962 (by decide +kernel) rfl
theorem tw963 : (Jvm.Cond.selects "OneBack$Sight" ({ cls := "OneBack$Sight", name := "mayBe", desc := "(LOneBack$Walk;I)I" } : Jvm.MethodName) ({ cls := "OneBack$Sight", name := "mayBe", desc := "(LOneBack$Walk;I)I" } : Jvm.MethodName)) ∈ GT := GT_t 963 (by decide +kernel) rfl
theorem tw964 : (Jvm.Cond.code ({ cls := "OneBack$Sight", name := "mayBe", desc := "(LOneBack$Walk;I)I" } : Jvm.MethodName) prog_6_method_9_code (5 : Nat) (Option.some Jvm.ClassFile.FieldType.int)) ∈ GT := GT_t 964 (by decide +kernel) rfl
theorem tw965 : (Jvm.Cond.methodLink "OneBack$Sight" (61 : Nat) ({ cls := "OneBack$Sight", name := "ways", desc := "(LOneBack$Walk;)I" } : Jvm.MethodName)) ∈ GT := GT_t 965 (by decide +kernel) rfl
theorem tw967 : (Jvm.Cond.methodLink "OneBackLaw" (87 : Nat) ({ cls := "OneBack", name := "moved", desc := "(IIZ)I" } : Jvm.MethodName)) ∈ GT := GT_t 967 (by decide +kernel) rfl
theorem tw968 : (Jvm.Cond.instanceMethod ({ cls := "OneBack", name := "moved", desc := "(IIZ)I" } : Jvm.MethodName)) ∈ GT := GT_t 968 (by decide +kernel) rfl
theorem tw969 : (Jvm.Cond.selects "OneBack" ({ cls := "OneBack", name := "moved", desc := "(IIZ)I" } : Jvm.MethodName) ({ cls := "OneBack", name := "moved", desc := "(IIZ)I" } : Jvm.MethodName)) ∈ GT := GT_t 969 (by decide +kernel) rfl
theorem tw970 : (Jvm.Cond.code ({ cls := "OneBack", name := "moved", desc := "(IIZ)I" } : Jvm.MethodName) prog_1_method_19_code (6 : Nat) (Option.some Jvm.ClassFile.FieldType.int)) ∈ GT := GT_t 970 (by decide +kernel) rfl
theorem tw971 : (Jvm.Cond.methodLink "OneBack" (270 : Nat) ({ cls := "OneBack$Sight", name := "movedFrom", desc := "(LOneBack$Town;Z)I" } : Jvm.MethodName)) ∈ GT := GT_t 971 (by decide +kernel) rfl
theorem tw972 : (Jvm.Cond.instanceMethod ({ cls := "OneBack$Sight", name := "movedFrom", desc := "(LOneBack$Town;Z)I" } : Jvm.MethodName)) ∈ GT := GT_t 972 (by decide +kernel) rfl
theorem tw973 : (Jvm.Cond.selects "OneBack$Sight" ({ cls := "OneBack$Sight", name := "movedFrom", desc := "(LOneBack$Town;Z)I" } : Jvm.MethodName) ({ cls := "OneBack$Sight", name := "movedFrom", desc := "(LOneBack$Town;Z)I" } : Jvm.MethodName)) ∈ GT := GT_t 973 (by decide +kernel) rfl
theorem tw974 : (Jvm.Cond.code ({ cls := "OneBack$Sight", name := "movedFrom", desc := "(LOneBack$Town;Z)I" } : Jvm.MethodName) prog_6_method_10_code (6 : Nat) (Option.some Jvm.ClassFile.FieldType.int)) ∈ GT := GT_t 974 (by decide +kernel) rfl
theorem tw975 : (Jvm.Cond.methodLink "OneBack$Sight" (67 : Nat) ({ cls := "OneBack$Sight", name := "isTold", desc := "(LOneBack$Town;I)Z" } : Jvm.MethodName)) ∈ GT := GT_t 975 (by decide +kernel) rfl
theorem tw977 : (Jvm.Cond.instanceMethod ({ cls := "OneBack$Sight", name := "isTold", desc := "(LOneBack$Town;I)Z" } : Jvm.MethodName)) ∈ GT := GT_t 977 (by decide +kernel) rfl
theorem tw978 : (Jvm.Cond.code ({ cls := "OneBack$Sight", name := "isTold", desc := "(LOneBack$Town;I)Z" } : Jvm.MethodName) prog_6_method_11_code (4 : Nat) (Option.some Jvm.ClassFile.FieldType.boolean)) ∈ GT := GT_t 978 (by decide +kernel) rfl
theorem tw979 : (Jvm.Cond.methodLink "OneBack$Sight" (71 : Nat) ({ cls := "OneBack$Sight", name := "movedOf", desc := "(LOneBack$Town;IZ)I" } : Jvm.MethodName)) ∈ GT := GT_t 979 (by decide +kernel) rfl
theorem tw981 : (Jvm.Cond.instanceMethod ({ cls := "OneBack$Sight", name := "movedOf", desc := "(LOneBack$Town;IZ)I" } : Jvm.MethodName)) ∈ GT := GT_t 981 (by decide +kernel) rfl
theorem tw982 : (Jvm.Cond.code ({ cls := "OneBack$Sight", name := "movedOf", desc := "(LOneBack$Town;IZ)I" } : Jvm.MethodName) prog_6_method_12_code (9 : Nat) (Option.some Jvm.ClassFile.FieldType.int)) ∈ GT := GT_t 982 (by decide +kernel) rfl
theorem tw983 : (Jvm.Cond.methodLink "OneBack$Sight" (83 : Nat) ({ cls := "java/lang/Math", name := "max", desc := "(II)I" } : Jvm.MethodName)) ∈ GT := GT_t 983 (by decide +kernel) rfl
theorem tw984 : (Jvm.Cond.methodLink "OneBack$Sight" (86 : Nat) ({ cls := "java/lang/Math", name := "abs", desc := "(I)I" } : Jvm.MethodName)) ∈ GT := GT_t 984 (by decide +kernel) rfl
theorem tw985 : (Jvm.Cond.methodLink "OneBackLaw" (92 : Nat) ({ cls := "OneBack", name := "quit", desc := "(IIIII)I" } : Jvm.MethodName)) ∈ GT := GT_t 985 (by decide +kernel) rfl
theorem tw986 : (Jvm.Cond.instanceMethod ({ cls := "OneBack", name := "quit", desc := "(IIIII)I" } : Jvm.MethodName)) ∈ GT := GT_t 986 (by decide +kernel) rfl
theorem tw987 : (Jvm.Cond.selects "OneBack" ({ cls := "OneBack", name := "quit", desc := "(IIIII)I" } : Jvm.MethodName) ({ cls := "OneBack", name := "quit", desc := "(IIIII)I" } : Jvm.MethodName)) ∈ GT := GT_t 987 (by decide +kernel) rfl
theorem tw988 : (Jvm.Cond.code ({ cls := "OneBack", name := "quit", desc := "(IIIII)I" } : Jvm.MethodName) prog_1_method_20_code (7 : Nat) (Option.some Jvm.ClassFile.FieldType.int)) ∈ GT := GT_t 988 (by decide +kernel) rfl
theorem tw989 : (Jvm.Cond.methodLink "OneBack" (274 : Nat) ({ cls := "OneBack$Law", name := "firstQuit", desc := "(III)I" } : Jvm.MethodName)) ∈ GT := GT_t 989 (by decide +kernel) rfl
theorem tw990 : (Jvm.Cond.instanceMethod ({ cls := "OneBack$Law", name := "firstQuit", desc := "(III)I" } : Jvm.MethodName)) ∈ GT := GT_t 990 (by decide +kernel) rfl
theorem tw991 : (Jvm.Cond.selects "OneBack$Law" ({ cls := "OneBack$Law", name := "firstQuit", desc := "(III)I" } : Jvm.MethodName) ({ cls := "OneBack$Law", name := "firstQuit", desc := "(III)I" } : Jvm.MethodName)) ∈ GT := GT_t 991 (by decide +kernel) rfl
theorem tw992 : (Jvm.Cond.code ({ cls := "OneBack$Law", name := "firstQuit", desc := "(III)I" } : Jvm.MethodName) prog_2_method_7_code (6 : Nat) (Option.some Jvm.ClassFile.FieldType.int)) ∈ GT := GT_t 992 (by decide +kernel) rfl
theorem tw993 : (Jvm.Cond.methodLink "OneBack$Law" (21 : Nat) ({ cls := "OneBack$Law", name := "counts", desc := "(I)I" } : Jvm.MethodName)) ∈ GT := GT_t 993 (by decide +kernel) rfl
theorem tw994 : (Jvm.Cond.methodLink "OneBack" (277 : Nat) ({ cls := "OneBack$Law", name := "fewestGifts", desc := "(IIII)I" } : Jvm.MethodName)) ∈ GT := GT_t 994 (by decide +kernel) rfl
theorem tw995 : (Jvm.Cond.instanceMethod ({ cls := "OneBack$Law", name := "fewestGifts", desc := "(IIII)I" } : Jvm.MethodName)) ∈ GT := GT_t 995 (by decide +kernel) rfl
theorem tw996 : (Jvm.Cond.selects "OneBack$Law" ({ cls := "OneBack$Law", name := "fewestGifts", desc := "(IIII)I" } : Jvm.MethodName) ({ cls := "OneBack$Law", name := "fewestGifts", desc := "(IIII)I" } : Jvm.MethodName)) ∈ GT := GT_t 996 (by decide +kernel) rfl
theorem tw997 : (Jvm.Cond.code ({ cls := "OneBack$Law", name := "fewestGifts", desc := "(IIII)I" } : Jvm.MethodName) prog_2_method_8_code (9 : Nat) (Option.some Jvm.ClassFile.FieldType.int)) ∈ GT := GT_t 997 (by decide +kernel) rfl
theorem tw998 : (Jvm.Cond.methodLink "OneBack$Law" (25 : Nat) ({ cls := "java/lang/Math", name := "min", desc := "(II)I" } : Jvm.MethodName)) ∈ GT := GT_t 998 (by decide +kernel) rfl
theorem tw999 : (Jvm.Cond.methodLink "OneBack$Law" (31 : Nat) ({ cls := "java/lang/Math", name := "max", desc := "(II)I" } : Jvm.MethodName)) ∈ GT := GT_t 999 (by decide +kernel) rfl
theorem tw1000 : (Jvm.Cond.methodLink "OneBackLaw" (96 : Nat) ({ cls := "OneBack", name := "alms", desc := "(IZ)I" } : Jvm.MethodName)) ∈ GT := GT_t 1000 (by decide +kernel) rfl
theorem tw1001 : (Jvm.Cond.instanceMethod ({ cls := "OneBack", name := "alms", desc := "(IZ)I" } : Jvm.MethodName)) ∈ GT := GT_t 1001 (by decide +kernel) rfl
theorem tw1002 : (Jvm.Cond.selects "OneBack" ({ cls := "OneBack", name := "alms", desc := "(IZ)I" } : Jvm.MethodName) ({ cls := "OneBack", name := "alms", desc := "(IZ)I" } : Jvm.MethodName)) ∈ GT := GT_t 1002 (by decide +kernel) rfl
theorem tw1003 : (Jvm.Cond.code ({ cls := "OneBack", name := "alms", desc := "(IZ)I" } : Jvm.MethodName) prog_1_method_21_code (3 : Nat) (Option.some Jvm.ClassFile.FieldType.int)) ∈ GT := GT_t 1003 (by decide +kernel) rfl
theorem tw1004 : (Jvm.Cond.methodLink "OneBack" (281 : Nat) ({ cls := "OneBack", name := "weighings", desc := "(I)I" } : Jvm.MethodName)) ∈ GT := GT_t 1004 (by decide +kernel) rfl
theorem tw1005 : (Jvm.Cond.static ({ cls := "OneBack", name := "weighings", desc := "(I)I" } : Jvm.MethodName)) ∈ GT := GT_t 1005 (by decide +kernel) rfl
theorem tw1006 : (Jvm.Cond.code ({ cls := "OneBack", name := "weighings", desc := "(I)I" } : Jvm.MethodName) prog_1_method_39_code (3 : Nat) (Option.some Jvm.ClassFile.FieldType.int)) ∈ GT := GT_t 1006 (by decide +kernel) rfl
theorem tw1007 : (Jvm.Cond.methodLink "OneBackLaw" (101 : Nat) ({ cls := "OneBack", name := "prize", desc := "(III)I" } : Jvm.MethodName)) ∈ GT := GT_t 1007 (by decide +kernel) rfl
theorem tw1008 : (Jvm.Cond.instanceMethod ({ cls := "OneBack", name := "prize", desc := "(III)I" } : Jvm.MethodName)) ∈ GT := GT_t 1008 (by decide +kernel) rfl
theorem tw1009 : (Jvm.Cond.selects "OneBack" ({ cls := "OneBack", name := "prize", desc := "(III)I" } : Jvm.MethodName) ({ cls := "OneBack", name := "prize", desc := "(III)I" } : Jvm.MethodName)) ∈ GT := GT_t 1009 (by decide +kernel) rfl
theorem tw1010 : (Jvm.Cond.code ({ cls := "OneBack", name := "prize", desc := "(III)I" } : Jvm.MethodName) prog_1_method_22_code (5 : Nat) (Option.some Jvm.ClassFile.FieldType.int)) ∈ GT := GT_t 1010 (by decide +kernel) rfl
theorem tw1011 : (Jvm.Cond.methodLink "OneBack" (284 : Nat) ({ cls := "OneBack$Town", name := "prizeOf", desc := "(II)I" } : Jvm.MethodName)) ∈ GT := GT_t 1011 (by decide +kernel) rfl
theorem tw1012 : (Jvm.Cond.instanceMethod ({ cls := "OneBack$Town", name := "prizeOf", desc := "(II)I" } : Jvm.MethodName)) ∈ GT := GT_t 1012 (by decide +kernel) rfl
theorem tw1013 : (Jvm.Cond.selects "OneBack$Town" ({ cls := "OneBack$Town", name := "prizeOf", desc := "(II)I" } : Jvm.MethodName) ({ cls := "OneBack$Town", name := "prizeOf", desc := "(II)I" } : Jvm.MethodName)) ∈ GT := GT_t 1013 (by decide +kernel) rfl
theorem tw1014 : (Jvm.Cond.code ({ cls := "OneBack$Town", name := "prizeOf", desc := "(II)I" } : Jvm.MethodName) prog_9_method_22_code (4 : Nat) (Option.some Jvm.ClassFile.FieldType.int)) ∈ GT := GT_t 1014 (by decide +kernel) rfl
theorem tw1015 : (Jvm.Cond.methodLink "OneBack$Town" (91 : Nat) ({ cls := "OneBack$Town", name := "worthIn", desc := "([II)I" } : Jvm.MethodName)) ∈ GT := GT_t 1015 (by decide +kernel) rfl
theorem tw1016 : (Jvm.Cond.instanceMethod ({ cls := "OneBack$Town", name := "worthIn", desc := "([II)I" } : Jvm.MethodName)) ∈ GT := GT_t 1016 (by decide +kernel) rfl
theorem tw1017 : (Jvm.Cond.selects "OneBack$Town" ({ cls := "OneBack$Town", name := "worthIn", desc := "([II)I" } : Jvm.MethodName) ({ cls := "OneBack$Town", name := "worthIn", desc := "([II)I" } : Jvm.MethodName)) ∈ GT := GT_t 1017 (by decide +kernel) rfl
theorem tw1018 : (Jvm.Cond.code ({ cls := "OneBack$Town", name := "worthIn", desc := "([II)I" } : Jvm.MethodName) prog_9_method_13_code (5 : Nat) (Option.some Jvm.ClassFile.FieldType.int)) ∈ GT := GT_t 1018 (by decide +kernel) rfl
theorem tw1019 : (Jvm.Cond.methodLink "OneBackLaw" (105 : Nat) ({ cls := "OneBack", name := "rest", desc := "(II)I" } : Jvm.MethodName)) ∈ GT := GT_t 1019 (by decide +kernel) rfl
theorem tw1020 : (Jvm.Cond.instanceMethod ({ cls := "OneBack", name := "rest", desc := "(II)I" } : Jvm.MethodName)) ∈ GT := GT_t 1020 (by decide +kernel) rfl
theorem tw1021 : (Jvm.Cond.selects "OneBack" ({ cls := "OneBack", name := "rest", desc := "(II)I" } : Jvm.MethodName) ({ cls := "OneBack", name := "rest", desc := "(II)I" } : Jvm.MethodName)) ∈ GT := GT_t 1021 (by decide +kernel) rfl
theorem tw1022 : (Jvm.Cond.code ({ cls := "OneBack", name := "rest", desc := "(II)I" } : Jvm.MethodName) prog_1_method_23_code (4 : Nat) (Option.some Jvm.ClassFile.FieldType.int)) ∈ GT := GT_t 1022 (by decide +kernel) rfl
theorem tw1023 : (Jvm.Cond.methodLink "OneBack" (287 : Nat) ({ cls := "OneBack$Town", name := "restAt", desc := "(I)I" } : Jvm.MethodName)) ∈ GT := GT_t 1023 (by decide +kernel) rfl
theorem tw1024 : (Jvm.Cond.instanceMethod ({ cls := "OneBack$Town", name := "restAt", desc := "(I)I" } : Jvm.MethodName)) ∈ GT := GT_t 1024 (by decide +kernel) rfl
theorem tw1025 : (Jvm.Cond.selects "OneBack$Town" ({ cls := "OneBack$Town", name := "restAt", desc := "(I)I" } : Jvm.MethodName) ({ cls := "OneBack$Town", name := "restAt", desc := "(I)I" } : Jvm.MethodName)) ∈ GT := GT_t 1025 (by decide +kernel) rfl
theorem tw1026 : (Jvm.Cond.code ({ cls := "OneBack$Town", name := "restAt", desc := "(I)I" } : Jvm.MethodName) prog_9_method_23_code (5 : Nat) (Option.some Jvm.ClassFile.FieldType.int)) ∈ GT := GT_t 1026 (by decide +kernel) rfl
theorem tw1027 : (Jvm.Cond.methodLink "OneBack$Town" (95 : Nat) ({ cls := "OneBack$Town", name := "isBest", desc := "(II)Z" } : Jvm.MethodName)) ∈ GT := GT_t 1027 (by decide +kernel) rfl
theorem tw1029 : (Jvm.Cond.instanceMethod ({ cls := "OneBack$Town", name := "isBest", desc := "(II)Z" } : Jvm.MethodName)) ∈ GT := GT_t 1029 (by decide +kernel) rfl
theorem tw1030 : (Jvm.Cond.code ({ cls := "OneBack$Town", name := "isBest", desc := "(II)Z" } : Jvm.MethodName) prog_9_method_24_code (4 : Nat) (Option.some Jvm.ClassFile.FieldType.boolean)) ∈ GT := GT_t 1030 (by decide +kernel) rfl
theorem tw1031 : (Jvm.Cond.methodLink "OneBack$Town" (98 : Nat) ({ cls := "OneBack$Town", name := "prizeOf", desc := "(II)I" } : Jvm.MethodName)) ∈ GT := GT_t 1031 (by decide +kernel) rfl
theorem tw1032 : (Jvm.Cond.methodLink "OneBackLaw" (109 : Nat) ({ cls := "OneBack", name := "share", desc := "(IIZ)I" } : Jvm.MethodName)) ∈ GT := GT_t 1032 (by decide +kernel) rfl
theorem tw1033 : (Jvm.Cond.instanceMethod ({ cls := "OneBack", name := "share", desc := "(IIZ)I" } : Jvm.MethodName)) ∈ GT := GT_t 1033 (by decide +kernel) rfl
theorem tw1034 : (Jvm.Cond.selects "OneBack" ({ cls := "OneBack", name := "share", desc := "(IIZ)I" } : Jvm.MethodName) ({ cls := "OneBack", name := "share", desc := "(IIZ)I" } : Jvm.MethodName)) ∈ GT := GT_t 1034 (by decide +kernel) rfl
theorem tw1035 : (Jvm.Cond.code ({ cls := "OneBack", name := "share", desc := "(IIZ)I" } : Jvm.MethodName) prog_1_method_24_code (7 : Nat) (Option.some Jvm.ClassFile.FieldType.int)) ∈ GT := GT_t 1035 (by decide +kernel) rfl
theorem tw1036 : (Jvm.Cond.methodLink "OneBack" (290 : Nat) ({ cls := "OneBack$Town", name := "worthIn", desc := "([II)I" } : Jvm.MethodName)) ∈ GT := GT_t 1036 (by decide +kernel) rfl
theorem tw1037 : (Jvm.Cond.methodLink "OneBack" (294 : Nat) ({ cls := "OneBack", name := "leastTerms", desc := "(IIZ)I" } : Jvm.MethodName)) ∈ GT := GT_t 1037 (by decide +kernel) rfl
theorem tw1038 : (Jvm.Cond.static ({ cls := "OneBack", name := "leastTerms", desc := "(IIZ)I" } : Jvm.MethodName)) ∈ GT := GT_t 1038 (by decide +kernel) rfl
theorem tw1039 : (Jvm.Cond.code ({ cls := "OneBack", name := "leastTerms", desc := "(IIZ)I" } : Jvm.MethodName) prog_1_method_40_code (4 : Nat) (Option.some Jvm.ClassFile.FieldType.int)) ∈ GT := GT_t 1039 (by decide +kernel) rfl
theorem tw1040 : (Jvm.Cond.methodLink "OneBack" (342 : Nat) ({ cls := "OneBack", name := "commonDivisor", desc := "(II)I" } : Jvm.MethodName)) ∈ GT := GT_t 1040 (by decide +kernel) rfl
theorem tw1041 : (Jvm.Cond.methodLink "OneBackLaw" (113 : Nat) ({ cls := "OneBack", name := "even", desc := "(II)I" } : Jvm.MethodName)) ∈ GT := GT_t 1041 (by decide +kernel) rfl
theorem tw1042 : (Jvm.Cond.instanceMethod ({ cls := "OneBack", name := "even", desc := "(II)I" } : Jvm.MethodName)) ∈ GT := GT_t 1042 (by decide +kernel) rfl
theorem tw1043 : (Jvm.Cond.selects "OneBack" ({ cls := "OneBack", name := "even", desc := "(II)I" } : Jvm.MethodName) ({ cls := "OneBack", name := "even", desc := "(II)I" } : Jvm.MethodName)) ∈ GT := GT_t 1043 (by decide +kernel) rfl
theorem tw1044 : (Jvm.Cond.code ({ cls := "OneBack", name := "even", desc := "(II)I" } : Jvm.MethodName) prog_1_method_25_code (4 : Nat) (Option.some Jvm.ClassFile.FieldType.int)) ∈ GT := GT_t 1044 (by decide +kernel) rfl
theorem tw1045 : (Jvm.Cond.methodLink "OneBack" (298 : Nat) ({ cls := "OneBack$Town", name := "evenOut", desc := "(I)I" } : Jvm.MethodName)) ∈ GT := GT_t 1045 (by decide +kernel) rfl
theorem tw1046 : (Jvm.Cond.instanceMethod ({ cls := "OneBack$Town", name := "evenOut", desc := "(I)I" } : Jvm.MethodName)) ∈ GT := GT_t 1046 (by decide +kernel) rfl
theorem tw1047 : (Jvm.Cond.selects "OneBack$Town" ({ cls := "OneBack$Town", name := "evenOut", desc := "(I)I" } : Jvm.MethodName) ({ cls := "OneBack$Town", name := "evenOut", desc := "(I)I" } : Jvm.MethodName)) ∈ GT := GT_t 1047 (by decide +kernel) rfl
theorem tw1048 : (Jvm.Cond.code ({ cls := "OneBack$Town", name := "evenOut", desc := "(I)I" } : Jvm.MethodName) prog_9_method_14_code (7 : Nat) (Option.some Jvm.ClassFile.FieldType.int)) ∈ GT := GT_t 1048 (by decide +kernel) rfl
theorem tw1049 : (Jvm.Cond.methodLink "OneBack$Town" (69 : Nat) ({ cls := "java/lang/Math", name := "min", desc := "(II)I" } : Jvm.MethodName)) ∈ GT := GT_t 1049 (by decide +kernel) rfl
theorem tw1050 : (Jvm.Cond.methodLink "OneBackLaw" (117 : Nat) ({ cls := "OneBack", name := "drawn", desc := "(IIIII)I" } : Jvm.MethodName)) ∈ GT := GT_t 1050 (by decide +kernel) rfl
theorem tw1051 : (Jvm.Cond.instanceMethod ({ cls := "OneBack", name := "drawn", desc := "(IIIII)I" } : Jvm.MethodName)) ∈ GT := GT_t 1051 (by decide +kernel) rfl
theorem tw1052 : (Jvm.Cond.selects "OneBack" ({ cls := "OneBack", name := "drawn", desc := "(IIIII)I" } : Jvm.MethodName) ({ cls := "OneBack", name := "drawn", desc := "(IIIII)I" } : Jvm.MethodName)) ∈ GT := GT_t 1052 (by decide +kernel) rfl
theorem tw1053 : (Jvm.Cond.code ({ cls := "OneBack", name := "drawn", desc := "(IIIII)I" } : Jvm.MethodName) prog_1_method_26_code (8 : Nat) (Option.some Jvm.ClassFile.FieldType.int)) ∈ GT := GT_t 1053 (by decide +kernel) rfl
theorem tw1054 : (Jvm.Cond.methodLink "OneBack" (304 : Nat) ({ cls := "OneBack$Walk", name := "drawNights", desc := "(II)V" } : Jvm.MethodName)) ∈ GT := GT_t 1054 (by decide +kernel) rfl
theorem tw1055 : (Jvm.Cond.instanceMethod ({ cls := "OneBack$Walk", name := "drawNights", desc := "(II)V" } : Jvm.MethodName)) ∈ GT := GT_t 1055 (by decide +kernel) rfl
theorem tw1056 : (Jvm.Cond.selects "OneBack$Walk" ({ cls := "OneBack$Walk", name := "drawNights", desc := "(II)V" } : Jvm.MethodName) ({ cls := "OneBack$Walk", name := "drawNights", desc := "(II)V" } : Jvm.MethodName)) ∈ GT := GT_t 1056 (by decide +kernel) rfl
theorem tw1057 : (Jvm.Cond.code ({ cls := "OneBack$Walk", name := "drawNights", desc := "(II)V" } : Jvm.MethodName) prog_11_method_13_code (5 : Nat) (Option.none : Option Jvm.ClassFile.FieldType)) ∈ GT := GT_t 1057 (by decide +kernel) rfl
theorem tw1058 : (Jvm.Cond.methodLink "OneBack$Walk" (173 : Nat) ({ cls := "OneBack$Walk", name := "drawDeeds", desc := "(I)V" } : Jvm.MethodName)) ∈ GT := GT_t 1058 (by decide +kernel) rfl
theorem tw1060 : (Jvm.Cond.instanceMethod ({ cls := "OneBack$Walk", name := "drawDeeds", desc := "(I)V" } : Jvm.MethodName)) ∈ GT := GT_t 1060 (by decide +kernel) rfl
theorem tw1061 : (Jvm.Cond.code ({ cls := "OneBack$Walk", name := "drawDeeds", desc := "(I)V" } : Jvm.MethodName) prog_11_method_14_code (5 : Nat) (Option.none : Option Jvm.ClassFile.FieldType)) ∈ GT := GT_t 1061 (by decide +kernel) rfl
theorem tw1062 : (Jvm.Cond.methodLink "OneBack$Walk" (180 : Nat) ({ cls := "OneBack$Walk", name := "drawBelow", desc := "(I)I" } : Jvm.MethodName)) ∈ GT := GT_t 1062 (by decide +kernel) rfl
theorem tw1064 : (Jvm.Cond.instanceMethod ({ cls := "OneBack$Walk", name := "drawBelow", desc := "(I)I" } : Jvm.MethodName)) ∈ GT := GT_t 1064 (by decide +kernel) rfl
theorem tw1065 : (Jvm.Cond.code ({ cls := "OneBack$Walk", name := "drawBelow", desc := "(I)I" } : Jvm.MethodName) prog_11_method_15_code (2 : Nat) (Option.some Jvm.ClassFile.FieldType.int)) ∈ GT := GT_t 1065 (by decide +kernel) rfl
theorem tw1066 : (Jvm.Cond.constant "OneBack$Walk" (186 : Nat) (1103515245 : Int32)) ∈ GT := GT_t 1066 (by decide +kernel) rfl
theorem tw1067 : (Jvm.Cond.methodLink "OneBack$Walk" (183 : Nat) ({ cls := "OneBack$Walk", name := "giveLeast", desc := "(I)Z" } : Jvm.MethodName)) ∈ GT := GT_t 1067 (by decide +kernel) rfl
theorem tw1069 : (Jvm.Cond.instanceMethod ({ cls := "OneBack$Walk", name := "giveLeast", desc := "(I)Z" } : Jvm.MethodName)) ∈ GT := GT_t 1069 (by decide +kernel) rfl
theorem tw1070 : (Jvm.Cond.code ({ cls := "OneBack$Walk", name := "giveLeast", desc := "(I)Z" } : Jvm.MethodName) prog_11_method_16_code (4 : Nat) (Option.some Jvm.ClassFile.FieldType.boolean)) ∈ GT := GT_t 1070 (by decide +kernel) rfl
theorem tw1071 : (Jvm.Cond.methodLink "OneBackLaw" (121 : Nat) ({ cls := "OneBack", name := "wealth", desc := "(IIIII)I" } : Jvm.MethodName)) ∈ GT := GT_t 1071 (by decide +kernel) rfl
theorem tw1072 : (Jvm.Cond.instanceMethod ({ cls := "OneBack", name := "wealth", desc := "(IIIII)I" } : Jvm.MethodName)) ∈ GT := GT_t 1072 (by decide +kernel) rfl
theorem tw1073 : (Jvm.Cond.selects "OneBack" ({ cls := "OneBack", name := "wealth", desc := "(IIIII)I" } : Jvm.MethodName) ({ cls := "OneBack", name := "wealth", desc := "(IIIII)I" } : Jvm.MethodName)) ∈ GT := GT_t 1073 (by decide +kernel) rfl
theorem tw1074 : (Jvm.Cond.code ({ cls := "OneBack", name := "wealth", desc := "(IIIII)I" } : Jvm.MethodName) prog_1_method_27_code (6 : Nat) (Option.some Jvm.ClassFile.FieldType.int)) ∈ GT := GT_t 1074 (by decide +kernel) rfl
theorem tw1075 : (Jvm.Cond.methodLink "OneBack" (308 : Nat) ({ cls := "OneBack$Views", name := "rich", desc := "(LOneBack$Walk;I)I" } : Jvm.MethodName)) ∈ GT := GT_t 1075 (by decide +kernel) rfl
theorem tw1076 : (Jvm.Cond.static ({ cls := "OneBack$Views", name := "rich", desc := "(LOneBack$Walk;I)I" } : Jvm.MethodName)) ∈ GT := GT_t 1076 (by decide +kernel) rfl
theorem tw1077 : (Jvm.Cond.code ({ cls := "OneBack$Views", name := "rich", desc := "(LOneBack$Walk;I)I" } : Jvm.MethodName) prog_10_method_11_code (2 : Nat) (Option.some Jvm.ClassFile.FieldType.int)) ∈ GT := GT_t 1077 (by decide +kernel) rfl
theorem tw1078 : (Jvm.Cond.methodLink "OneBack$Views" (98 : Nat) ({ cls := "OneBack$Views", name := "settle", desc := "(LOneBack$Walk;)I" } : Jvm.MethodName)) ∈ GT := GT_t 1078 (by decide +kernel) rfl
theorem tw1079 : (Jvm.Cond.static ({ cls := "OneBack$Views", name := "settle", desc := "(LOneBack$Walk;)I" } : Jvm.MethodName)) ∈ GT := GT_t 1079 (by decide +kernel) rfl
theorem tw1080 : (Jvm.Cond.code ({ cls := "OneBack$Views", name := "settle", desc := "(LOneBack$Walk;)I" } : Jvm.MethodName) prog_10_method_13_code (3 : Nat) (Option.some Jvm.ClassFile.FieldType.int)) ∈ GT := GT_t 1080 (by decide +kernel) rfl
theorem tw1081 : (Jvm.Cond.methodLink "OneBack$Views" (123 : Nat) ({ cls := "OneBack$Views", name := "cut", desc := "(LOneBack$Walk;I)I" } : Jvm.MethodName)) ∈ GT := GT_t 1081 (by decide +kernel) rfl
theorem tw1082 : (Jvm.Cond.static ({ cls := "OneBack$Views", name := "cut", desc := "(LOneBack$Walk;I)I" } : Jvm.MethodName)) ∈ GT := GT_t 1082 (by decide +kernel) rfl
theorem tw1083 : (Jvm.Cond.code ({ cls := "OneBack$Views", name := "cut", desc := "(LOneBack$Walk;I)I" } : Jvm.MethodName) prog_10_method_14_code (5 : Nat) (Option.some Jvm.ClassFile.FieldType.int)) ∈ GT := GT_t 1083 (by decide +kernel) rfl
theorem tw1084 : (Jvm.Cond.methodLink "OneBack$Views" (131 : Nat) ({ cls := "OneBack$Walk", name := "isFree", desc := "(I)Z" } : Jvm.MethodName)) ∈ GT := GT_t 1084 (by decide +kernel) rfl
theorem tw1085 : (Jvm.Cond.methodLink "OneBack$Views" (134 : Nat) ({ cls := "OneBack$Views", name := "isReached", desc := "(LOneBack$Walk;II)Z" } : Jvm.MethodName)) ∈ GT := GT_t 1085 (by decide +kernel) rfl
theorem tw1086 : (Jvm.Cond.static ({ cls := "OneBack$Views", name := "isReached", desc := "(LOneBack$Walk;II)Z" } : Jvm.MethodName)) ∈ GT := GT_t 1086 (by decide +kernel) rfl
theorem tw1087 : (Jvm.Cond.code ({ cls := "OneBack$Views", name := "isReached", desc := "(LOneBack$Walk;II)Z" } : Jvm.MethodName) prog_10_method_15_code (5 : Nat) (Option.some Jvm.ClassFile.FieldType.boolean)) ∈ GT := GT_t 1087 (by decide +kernel) rfl
theorem tw1088 : (Jvm.Cond.methodLink "OneBack$Views" (138 : Nat) ({ cls := "OneBack$Town", name := "areKin", desc := "(II)Z" } : Jvm.MethodName)) ∈ GT := GT_t 1088 (by decide +kernel) rfl
theorem tw1089 : (Jvm.Cond.methodLink "OneBack$Views" (126 : Nat) ({ cls := "java/lang/Math", name := "min", desc := "(II)I" } : Jvm.MethodName)) ∈ GT := GT_t 1089 (by decide +kernel) rfl
theorem tw1090 : (Jvm.Cond.methodLink "OneBack$Views" (101 : Nat) ({ cls := "OneBack$Views", name := "gap", desc := "(LOneBack$Walk;)I" } : Jvm.MethodName)) ∈ GT := GT_t 1090 (by decide +kernel) rfl
theorem tw1091 : (Jvm.Cond.static ({ cls := "OneBack$Views", name := "gap", desc := "(LOneBack$Walk;)I" } : Jvm.MethodName)) ∈ GT := GT_t 1091 (by decide +kernel) rfl
theorem tw1092 : (Jvm.Cond.code ({ cls := "OneBack$Views", name := "gap", desc := "(LOneBack$Walk;)I" } : Jvm.MethodName) prog_10_method_18_code (4 : Nat) (Option.some Jvm.ClassFile.FieldType.int)) ∈ GT := GT_t 1092 (by decide +kernel) rfl
theorem tw1093 : (Jvm.Cond.methodLink "OneBack$Views" (117 : Nat) ({ cls := "OneBack$Views", name := "wealthOf", desc := "(LOneBack$Walk;I)I" } : Jvm.MethodName)) ∈ GT := GT_t 1093 (by decide +kernel) rfl
theorem tw1094 : (Jvm.Cond.static ({ cls := "OneBack$Views", name := "wealthOf", desc := "(LOneBack$Walk;I)I" } : Jvm.MethodName)) ∈ GT := GT_t 1094 (by decide +kernel) rfl
theorem tw1095 : (Jvm.Cond.code ({ cls := "OneBack$Views", name := "wealthOf", desc := "(LOneBack$Walk;I)I" } : Jvm.MethodName) prog_10_method_17_code (2 : Nat) (Option.some Jvm.ClassFile.FieldType.int)) ∈ GT := GT_t 1095 (by decide +kernel) rfl
theorem tw1096 : (Jvm.Cond.methodLink "OneBack$Views" (152 : Nat) ({ cls := "OneBack$Town", name := "worthIn", desc := "([II)I" } : Jvm.MethodName)) ∈ GT := GT_t 1096 (by decide +kernel) rfl
theorem tw1097 : (Jvm.Cond.methodLink "OneBack$Views" (156 : Nat) ({ cls := "java/lang/Math", name := "max", desc := "(II)I" } : Jvm.MethodName)) ∈ GT := GT_t 1097 (by decide +kernel) rfl
theorem tw1098 : (Jvm.Cond.methodLink "OneBack$Views" (104 : Nat) ({ cls := "OneBack$Views", name := "unlike", desc := "(LOneBack$Walk;Z)I" } : Jvm.MethodName)) ∈ GT := GT_t 1098 (by decide +kernel) rfl
theorem tw1099 : (Jvm.Cond.static ({ cls := "OneBack$Views", name := "unlike", desc := "(LOneBack$Walk;Z)I" } : Jvm.MethodName)) ∈ GT := GT_t 1099 (by decide +kernel) rfl
theorem tw1100 : (Jvm.Cond.code ({ cls := "OneBack$Views", name := "unlike", desc := "(LOneBack$Walk;Z)I" } : Jvm.MethodName) prog_10_method_21_code (7 : Nat) (Option.some Jvm.ClassFile.FieldType.int)) ∈ GT := GT_t 1100 (by decide +kernel) rfl
theorem tw1101 : (Jvm.Cond.methodLink "OneBack$Views" (162 : Nat) ({ cls := "java/lang/Math", name := "abs", desc := "(I)I" } : Jvm.MethodName)) ∈ GT := GT_t 1101 (by decide +kernel) rfl
theorem tw1103 : (Jvm.Cond.methodLink "OneBack$Views" (108 : Nat) ({ cls := "OneBack$Views", name := "robbed", desc := "(LOneBack$Walk;)I" } : Jvm.MethodName)) ∈ GT := GT_t 1103 (by decide +kernel) rfl
theorem tw1104 : (Jvm.Cond.static ({ cls := "OneBack$Views", name := "robbed", desc := "(LOneBack$Walk;)I" } : Jvm.MethodName)) ∈ GT := GT_t 1104 (by decide +kernel) rfl
theorem tw1105 : (Jvm.Cond.code ({ cls := "OneBack$Views", name := "robbed", desc := "(LOneBack$Walk;)I" } : Jvm.MethodName) prog_10_method_22_code (5 : Nat) (Option.some Jvm.ClassFile.FieldType.int)) ∈ GT := GT_t 1105 (by decide +kernel) rfl
theorem tw1106 : (Jvm.Cond.methodLink "OneBack$Views" (111 : Nat) ({ cls := "OneBack$Views", name := "richOf", desc := "(LOneBack$Walk;II)I" } : Jvm.MethodName)) ∈ GT := GT_t 1106 (by decide +kernel) rfl
theorem tw1107 : (Jvm.Cond.static ({ cls := "OneBack$Views", name := "richOf", desc := "(LOneBack$Walk;II)I" } : Jvm.MethodName)) ∈ GT := GT_t 1107 (by decide +kernel) rfl
theorem tw1108 : (Jvm.Cond.code ({ cls := "OneBack$Views", name := "richOf", desc := "(LOneBack$Walk;II)I" } : Jvm.MethodName) prog_10_method_12_code (3 : Nat) (Option.some Jvm.ClassFile.FieldType.int)) ∈ GT := GT_t 1108 (by decide +kernel) rfl
theorem tw1109 : (Jvm.Cond.methodLink "OneBack$Views" (114 : Nat) ({ cls := "OneBack$Views", name := "can", desc := "(LOneBack$Walk;I)I" } : Jvm.MethodName)) ∈ GT := GT_t 1109 (by decide +kernel) rfl
theorem tw1110 : (Jvm.Cond.static ({ cls := "OneBack$Views", name := "can", desc := "(LOneBack$Walk;I)I" } : Jvm.MethodName)) ∈ GT := GT_t 1110 (by decide +kernel) rfl
theorem tw1111 : (Jvm.Cond.code ({ cls := "OneBack$Views", name := "can", desc := "(LOneBack$Walk;I)I" } : Jvm.MethodName) prog_10_method_16_code (6 : Nat) (Option.some Jvm.ClassFile.FieldType.int)) ∈ GT := GT_t 1111 (by decide +kernel) rfl
theorem tw1112 : (Jvm.Cond.methodLink "OneBack$Views" (142 : Nat) ({ cls := "OneBack$Walk", name := "takesGift", desc := "(III)Z" } : Jvm.MethodName)) ∈ GT := GT_t 1112 (by decide +kernel) rfl
theorem tw1113 : (Jvm.Cond.methodLink "OneBack$Views" (120 : Nat) ({ cls := "OneBack$Views", name := "ranked", desc := "(LOneBack$Walk;I)I" } : Jvm.MethodName)) ∈ GT := GT_t 1113 (by decide +kernel) rfl
theorem tw1114 : (Jvm.Cond.static ({ cls := "OneBack$Views", name := "ranked", desc := "(LOneBack$Walk;I)I" } : Jvm.MethodName)) ∈ GT := GT_t 1114 (by decide +kernel) rfl
theorem tw1115 : (Jvm.Cond.code ({ cls := "OneBack$Views", name := "ranked", desc := "(LOneBack$Walk;I)I" } : Jvm.MethodName) prog_10_method_19_code (3 : Nat) (Option.some Jvm.ClassFile.FieldType.int)) ∈ GT := GT_t 1115 (by decide +kernel) rfl
theorem tw1116 : (Jvm.Cond.methodLink "OneBack$Views" (159 : Nat) ({ cls := "OneBack$Views", name := "rankOf", desc := "(LOneBack$Walk;I)I" } : Jvm.MethodName)) ∈ GT := GT_t 1116 (by decide +kernel) rfl
theorem tw1117 : (Jvm.Cond.static ({ cls := "OneBack$Views", name := "rankOf", desc := "(LOneBack$Walk;I)I" } : Jvm.MethodName)) ∈ GT := GT_t 1117 (by decide +kernel) rfl
theorem tw1118 : (Jvm.Cond.code ({ cls := "OneBack$Views", name := "rankOf", desc := "(LOneBack$Walk;I)I" } : Jvm.MethodName) prog_10_method_20_code (6 : Nat) (Option.some Jvm.ClassFile.FieldType.int)) ∈ GT := GT_t 1118 (by decide +kernel) rfl
theorem tw1119 : (Jvm.Cond.methodLink "OneBackLaw" (125 : Nat) ({ cls := "OneBack", name := "haul", desc := "(IIIII)I" } : Jvm.MethodName)) ∈ GT := GT_t 1119 (by decide +kernel) rfl
theorem tw1120 : (Jvm.Cond.instanceMethod ({ cls := "OneBack", name := "haul", desc := "(IIIII)I" } : Jvm.MethodName)) ∈ GT := GT_t 1120 (by decide +kernel) rfl
theorem tw1121 : (Jvm.Cond.selects "OneBack" ({ cls := "OneBack", name := "haul", desc := "(IIIII)I" } : Jvm.MethodName) ({ cls := "OneBack", name := "haul", desc := "(IIIII)I" } : Jvm.MethodName)) ∈ GT := GT_t 1121 (by decide +kernel) rfl
theorem tw1122 : (Jvm.Cond.code ({ cls := "OneBack", name := "haul", desc := "(IIIII)I" } : Jvm.MethodName) prog_1_method_28_code (7 : Nat) (Option.some Jvm.ClassFile.FieldType.int)) ∈ GT := GT_t 1122 (by decide +kernel) rfl
theorem tw1123 : (Jvm.Cond.methodLink "OneBack" (311 : Nat) ({ cls := "OneBack$Porter", name := "choose", desc := "(LOneBack$Town;III)V" } : Jvm.MethodName)) ∈ GT := GT_t 1123 (by decide +kernel) rfl
theorem tw1124 : (Jvm.Cond.instanceMethod ({ cls := "OneBack$Porter", name := "choose", desc := "(LOneBack$Town;III)V" } : Jvm.MethodName)) ∈ GT := GT_t 1124 (by decide +kernel) rfl
theorem tw1125 : (Jvm.Cond.selects "OneBack$Porter" ({ cls := "OneBack$Porter", name := "choose", desc := "(LOneBack$Town;III)V" } : Jvm.MethodName) ({ cls := "OneBack$Porter", name := "choose", desc := "(LOneBack$Town;III)V" } : Jvm.MethodName)) ∈ GT := GT_t 1125 (by decide +kernel) rfl
theorem tw1126 : (Jvm.Cond.code ({ cls := "OneBack$Porter", name := "choose", desc := "(LOneBack$Town;III)V" } : Jvm.MethodName) prog_4_method_2_code (5 : Nat) (Option.none : Option Jvm.ClassFile.FieldType)) ∈ GT := GT_t 1126 (by decide +kernel) rfl
theorem tw1128 : (Jvm.Cond.methodLink "OneBack$Porter" (33 : Nat) ({ cls := "OneBack$Porter", name := "pick", desc := "(LOneBack$Porter;IIII)V" } : Jvm.MethodName)) ∈ GT := GT_t 1128 (by decide +kernel) rfl
theorem tw1129 : (Jvm.Cond.static ({ cls := "OneBack$Porter", name := "pick", desc := "(LOneBack$Porter;IIII)V" } : Jvm.MethodName)) ∈ GT := GT_t 1129 (by decide +kernel) rfl
theorem tw1130 : (Jvm.Cond.code ({ cls := "OneBack$Porter", name := "pick", desc := "(LOneBack$Porter;IIII)V" } : Jvm.MethodName) prog_4_method_3_code (8 : Nat) (Option.none : Option Jvm.ClassFile.FieldType)) ∈ GT := GT_t 1130 (by decide +kernel) rfl
theorem tw1131 : (Jvm.Cond.methodLink "OneBack$Porter" (37 : Nat) ({ cls := "OneBack$Porter", name := "keepBetter", desc := "(I)V" } : Jvm.MethodName)) ∈ GT := GT_t 1131 (by decide +kernel) rfl
theorem tw1133 : (Jvm.Cond.instanceMethod ({ cls := "OneBack$Porter", name := "keepBetter", desc := "(I)V" } : Jvm.MethodName)) ∈ GT := GT_t 1133 (by decide +kernel) rfl
theorem tw1134 : (Jvm.Cond.code ({ cls := "OneBack$Porter", name := "keepBetter", desc := "(I)V" } : Jvm.MethodName) prog_4_method_4_code (2 : Nat) (Option.none : Option Jvm.ClassFile.FieldType)) ∈ GT := GT_t 1134 (by decide +kernel) rfl
theorem tw1137 : (Jvm.Cond.methodLink "OneBack$Porter" (50 : Nat) ({ cls := "java/lang/Math", name := "min", desc := "(II)I" } : Jvm.MethodName)) ∈ GT := GT_t 1137 (by decide +kernel) rfl
theorem tw1138 : (Jvm.Cond.methodLink "OneBackLaw" (129 : Nat) ({ cls := "OneBack", name := "crew", desc := "(IIZ)I" } : Jvm.MethodName)) ∈ GT := GT_t 1138 (by decide +kernel) rfl
theorem tw1139 : (Jvm.Cond.instanceMethod ({ cls := "OneBack", name := "crew", desc := "(IIZ)I" } : Jvm.MethodName)) ∈ GT := GT_t 1139 (by decide +kernel) rfl
theorem tw1140 : (Jvm.Cond.selects "OneBack" ({ cls := "OneBack", name := "crew", desc := "(IIZ)I" } : Jvm.MethodName) ({ cls := "OneBack", name := "crew", desc := "(IIZ)I" } : Jvm.MethodName)) ∈ GT := GT_t 1140 (by decide +kernel) rfl
theorem tw1141 : (Jvm.Cond.code ({ cls := "OneBack", name := "crew", desc := "(IIZ)I" } : Jvm.MethodName) prog_1_method_29_code (6 : Nat) (Option.some Jvm.ClassFile.FieldType.int)) ∈ GT := GT_t 1141 (by decide +kernel) rfl
theorem tw1142 : (Jvm.Cond.methodLink "OneBack" (321 : Nat) ({ cls := "OneBack$Town", name := "crewFor", desc := "(I)I" } : Jvm.MethodName)) ∈ GT := GT_t 1142 (by decide +kernel) rfl
theorem tw1143 : (Jvm.Cond.instanceMethod ({ cls := "OneBack$Town", name := "crewFor", desc := "(I)I" } : Jvm.MethodName)) ∈ GT := GT_t 1143 (by decide +kernel) rfl
theorem tw1144 : (Jvm.Cond.selects "OneBack$Town" ({ cls := "OneBack$Town", name := "crewFor", desc := "(I)I" } : Jvm.MethodName) ({ cls := "OneBack$Town", name := "crewFor", desc := "(I)I" } : Jvm.MethodName)) ∈ GT := GT_t 1144 (by decide +kernel) rfl
theorem tw1145 : (Jvm.Cond.code ({ cls := "OneBack$Town", name := "crewFor", desc := "(I)I" } : Jvm.MethodName) prog_9_method_15_code (5 : Nat) (Option.some Jvm.ClassFile.FieldType.int)) ∈ GT := GT_t 1145 (by decide +kernel) rfl
theorem tw1146 : (Jvm.Cond.methodLink "OneBack$Town" (72 : Nat) ({ cls := "java/lang/Integer", name := "bitCount", desc := "(I)I" } : Jvm.MethodName)) ∈ GT := GT_t 1146 (by decide +kernel) rfl
theorem tw1147 : (Jvm.Cond.static ({ cls := "java/lang/Integer", name := "bitCount", desc := "(I)I" } : Jvm.MethodName)) ∈ GT := GT_t 1147 (by decide +kernel) rfl
theorem tw1148 : (Jvm.Cond.code ({ cls := "java/lang/Integer", name := "bitCount", desc := "(I)I" } : Jvm.MethodName) prog_14_method_49_code (1 : Nat) (Option.some Jvm.ClassFile.FieldType.int)) ∈ GT := GT_t 1148 (by decide +kernel) rfl
theorem tw1149 : (Jvm.Cond.constant "java/lang/Integer" (265 : Nat) (1431655765 : Int32)) ∈ GT := GT_t 1149 (by decide +kernel) rfl
theorem tw1150 : (Jvm.Cond.constant "java/lang/Integer" (266 : Nat) (858993459 : Int32)) ∈ GT := GT_t 1150 (by decide +kernel) rfl
theorem tw1151 : (Jvm.Cond.constant "java/lang/Integer" (267 : Nat) (252645135 : Int32)) ∈ GT := GT_t 1151 (by decide +kernel) rfl
theorem tw1152 : (Jvm.Cond.methodLink "OneBack$Town" (78 : Nat) ({ cls := "OneBack$Town", name := "limitOf", desc := "(I)I" } : Jvm.MethodName)) ∈ GT := GT_t 1152 (by decide +kernel) rfl
theorem tw1153 : (Jvm.Cond.instanceMethod ({ cls := "OneBack$Town", name := "limitOf", desc := "(I)I" } : Jvm.MethodName)) ∈ GT := GT_t 1153 (by decide +kernel) rfl
theorem tw1154 : (Jvm.Cond.selects "OneBack$Town" ({ cls := "OneBack$Town", name := "limitOf", desc := "(I)I" } : Jvm.MethodName) ({ cls := "OneBack$Town", name := "limitOf", desc := "(I)I" } : Jvm.MethodName)) ∈ GT := GT_t 1154 (by decide +kernel) rfl
theorem tw1155 : (Jvm.Cond.code ({ cls := "OneBack$Town", name := "limitOf", desc := "(I)I" } : Jvm.MethodName) prog_9_method_16_code (4 : Nat) (Option.some Jvm.ClassFile.FieldType.int)) ∈ GT := GT_t 1155 (by decide +kernel) rfl
theorem tw1156 : (Jvm.Cond.methodLink "OneBack" (324 : Nat) ({ cls := "java/lang/Integer", name := "bitCount", desc := "(I)I" } : Jvm.MethodName)) ∈ GT := GT_t 1156 (by decide +kernel) rfl
theorem tw1157 : (Jvm.Cond.methodLink "OneBackLaw" (133 : Nat) ({ cls := "OneBack", name := "pairs", desc := "(II)I" } : Jvm.MethodName)) ∈ GT := GT_t 1157 (by decide +kernel) rfl
theorem tw1158 : (Jvm.Cond.instanceMethod ({ cls := "OneBack", name := "pairs", desc := "(II)I" } : Jvm.MethodName)) ∈ GT := GT_t 1158 (by decide +kernel) rfl
theorem tw1159 : (Jvm.Cond.selects "OneBack" ({ cls := "OneBack", name := "pairs", desc := "(II)I" } : Jvm.MethodName) ({ cls := "OneBack", name := "pairs", desc := "(II)I" } : Jvm.MethodName)) ∈ GT := GT_t 1159 (by decide +kernel) rfl
theorem tw1160 : (Jvm.Cond.code ({ cls := "OneBack", name := "pairs", desc := "(II)I" } : Jvm.MethodName) prog_1_method_30_code (4 : Nat) (Option.some Jvm.ClassFile.FieldType.int)) ∈ GT := GT_t 1160 (by decide +kernel) rfl
theorem tw1161 : (Jvm.Cond.methodLink "OneBack" (329 : Nat) ({ cls := "OneBack$Town", name := "pairAt", desc := "(I)I" } : Jvm.MethodName)) ∈ GT := GT_t 1161 (by decide +kernel) rfl
theorem tw1162 : (Jvm.Cond.instanceMethod ({ cls := "OneBack$Town", name := "pairAt", desc := "(I)I" } : Jvm.MethodName)) ∈ GT := GT_t 1162 (by decide +kernel) rfl
theorem tw1163 : (Jvm.Cond.selects "OneBack$Town" ({ cls := "OneBack$Town", name := "pairAt", desc := "(I)I" } : Jvm.MethodName) ({ cls := "OneBack$Town", name := "pairAt", desc := "(I)I" } : Jvm.MethodName)) ∈ GT := GT_t 1163 (by decide +kernel) rfl
theorem tw1164 : (Jvm.Cond.code ({ cls := "OneBack$Town", name := "pairAt", desc := "(I)I" } : Jvm.MethodName) prog_9_method_17_code (5 : Nat) (Option.some Jvm.ClassFile.FieldType.int)) ∈ GT := GT_t 1164 (by decide +kernel) rfl
theorem tw1165 : (Jvm.Cond.methodLink "OneBack$Town" (81 : Nat) ({ cls := "OneBack$Town", name := "helps", desc := "(II)Z" } : Jvm.MethodName)) ∈ GT := GT_t 1165 (by decide +kernel) rfl
theorem tw1166 : (Jvm.Cond.instanceMethod ({ cls := "OneBack$Town", name := "helps", desc := "(II)Z" } : Jvm.MethodName)) ∈ GT := GT_t 1166 (by decide +kernel) rfl
theorem tw1167 : (Jvm.Cond.selects "OneBack$Town" ({ cls := "OneBack$Town", name := "helps", desc := "(II)Z" } : Jvm.MethodName) ({ cls := "OneBack$Town", name := "helps", desc := "(II)Z" } : Jvm.MethodName)) ∈ GT := GT_t 1167 (by decide +kernel) rfl
theorem tw1168 : (Jvm.Cond.code ({ cls := "OneBack$Town", name := "helps", desc := "(II)Z" } : Jvm.MethodName) prog_9_method_18_code (4 : Nat) (Option.some Jvm.ClassFile.FieldType.boolean)) ∈ GT := GT_t 1168 (by decide +kernel) rfl
theorem tw1169 : (Jvm.Cond.methodLink "OneBackLaw" (137 : Nat) ({ cls := "OneBack", name := "count", desc := "(I)I" } : Jvm.MethodName)) ∈ GT := GT_t 1169 (by decide +kernel) rfl
theorem tw1170 : (Jvm.Cond.instanceMethod ({ cls := "OneBack", name := "count", desc := "(I)I" } : Jvm.MethodName)) ∈ GT := GT_t 1170 (by decide +kernel) rfl
theorem tw1171 : (Jvm.Cond.selects "OneBack" ({ cls := "OneBack", name := "count", desc := "(I)I" } : Jvm.MethodName) ({ cls := "OneBack", name := "count", desc := "(I)I" } : Jvm.MethodName)) ∈ GT := GT_t 1171 (by decide +kernel) rfl
theorem tw1172 : (Jvm.Cond.code ({ cls := "OneBack", name := "count", desc := "(I)I" } : Jvm.MethodName) prog_1_method_31_code (2 : Nat) (Option.some Jvm.ClassFile.FieldType.int)) ∈ GT := GT_t 1172 (by decide +kernel) rfl
theorem tw1173 : (Jvm.Cond.methodLink "OneBackLaw" (141 : Nat) ({ cls := "OneBack", name := "image", desc := "(I)Z" } : Jvm.MethodName)) ∈ GT := GT_t 1173 (by decide +kernel) rfl
theorem tw1174 : (Jvm.Cond.instanceMethod ({ cls := "OneBack", name := "image", desc := "(I)Z" } : Jvm.MethodName)) ∈ GT := GT_t 1174 (by decide +kernel) rfl
theorem tw1175 : (Jvm.Cond.selects "OneBack" ({ cls := "OneBack", name := "image", desc := "(I)Z" } : Jvm.MethodName) ({ cls := "OneBack", name := "image", desc := "(I)Z" } : Jvm.MethodName)) ∈ GT := GT_t 1175 (by decide +kernel) rfl
theorem tw1176 : (Jvm.Cond.code ({ cls := "OneBack", name := "image", desc := "(I)Z" } : Jvm.MethodName) prog_1_method_32_code (2 : Nat) (Option.some Jvm.ClassFile.FieldType.boolean)) ∈ GT := GT_t 1176 (by decide +kernel) rfl
theorem tw1177 : (Jvm.Cond.methodLink "OneBack" (334 : Nat) ({ cls := "OneBack$Told", name := "copy", desc := "(LOneBack$Told;)V" } : Jvm.MethodName)) ∈ GT := GT_t 1177 (by decide +kernel) rfl
theorem tw1178 : (Jvm.Cond.instanceMethod ({ cls := "OneBack$Told", name := "copy", desc := "(LOneBack$Told;)V" } : Jvm.MethodName)) ∈ GT := GT_t 1178 (by decide +kernel) rfl
theorem tw1179 : (Jvm.Cond.selects "OneBack$Told" ({ cls := "OneBack$Told", name := "copy", desc := "(LOneBack$Told;)V" } : Jvm.MethodName) ({ cls := "OneBack$Told", name := "copy", desc := "(LOneBack$Told;)V" } : Jvm.MethodName)) ∈ GT := GT_t 1179 (by decide +kernel) rfl
theorem tw1180 : (Jvm.Cond.code ({ cls := "OneBack$Told", name := "copy", desc := "(LOneBack$Told;)V" } : Jvm.MethodName) prog_8_method_10_code (3 : Nat) (Option.none : Option Jvm.ClassFile.FieldType)) ∈ GT := GT_t 1180 (by decide +kernel) rfl
theorem tw1181 : (Jvm.Cond.methodLink "OneBack$Told" (97 : Nat) ({ cls := "java/lang/System", name := "arraycopy", desc := "(Ljava/lang/Object;ILjava/lang/Object;II)V" } : Jvm.MethodName)) ∈ GT := GT_t 1181 (by decide +kernel) rfl
theorem tw1183 : (Jvm.Cond.methodLink "OneBackLaw" (146 : Nat) ({ cls := "OneBack", name := "again", desc := "(I)Z" } : Jvm.MethodName)) ∈ GT := GT_t 1183 (by decide +kernel) rfl
theorem tw1184 : (Jvm.Cond.instanceMethod ({ cls := "OneBack", name := "again", desc := "(I)Z" } : Jvm.MethodName)) ∈ GT := GT_t 1184 (by decide +kernel) rfl
theorem tw1185 : (Jvm.Cond.selects "OneBack" ({ cls := "OneBack", name := "again", desc := "(I)Z" } : Jvm.MethodName) ({ cls := "OneBack", name := "again", desc := "(I)Z" } : Jvm.MethodName)) ∈ GT := GT_t 1185 (by decide +kernel) rfl
theorem tw1186 : (Jvm.Cond.code ({ cls := "OneBack", name := "again", desc := "(I)Z" } : Jvm.MethodName) prog_1_method_33_code (2 : Nat) (Option.some Jvm.ClassFile.FieldType.boolean)) ∈ GT := GT_t 1186 (by decide +kernel) rfl
theorem tw1187 : (Jvm.Cond.classLink "OneBackLaw" (10 : Nat) "OneBackModel") ∈ GT := GT_t 1187 (by decide +kernel) rfl
theorem tw1188 : (Jvm.Cond.instantiable "OneBackModel" (51 : Nat)) ∈ GT := GT_t 1188 (by decide +kernel) rfl
theorem tw1189 : (Jvm.Cond.methodLink "OneBackLaw" (12 : Nat) ({ cls := "OneBackModel", name := "<init>", desc := "()V" } : Jvm.MethodName)) ∈ GT := GT_t 1189 (by decide +kernel) rfl
theorem tw1190 : (Jvm.Cond.instanceMethod ({ cls := "OneBackModel", name := "<init>", desc := "()V" } : Jvm.MethodName)) ∈ GT := GT_t 1190 (by decide +kernel) rfl
theorem tw1191 : (Jvm.Cond.code ({ cls := "OneBackModel", name := "<init>", desc := "()V" } : Jvm.MethodName) prog_13_method_1_code (1 : Nat) (Option.none : Option Jvm.ClassFile.FieldType)) ∈ GT := GT_t 1191 (by decide +kernel) rfl
theorem tw1192 : (Jvm.Cond.methodLink "OneBackModel" (1 : Nat) ({ cls := "java/lang/Object", name := "<init>", desc := "()V" } : Jvm.MethodName)) ∈ GT := GT_t 1192 (by decide +kernel) rfl
theorem tw1193 : (Jvm.Cond.fieldLink "OneBackModel" (90 : Nat) "OneBackModel" "code" "I") ∈ GT := GT_t 1193 (by decide +kernel) rfl
theorem tw1194 : (Jvm.Cond.fieldLink "OneBackModel" (7 : Nat) "OneBackModel" "tape" "[B") ∈ GT := GT_t 1194 (by decide +kernel) rfl
theorem tw1195 : (Jvm.Cond.fieldLink "OneBackModel" (13 : Nat) "OneBackModel" "size" "[I") ∈ GT := GT_t 1195 (by decide +kernel) rfl
theorem tw1196 : (Jvm.Cond.fieldLink "OneBackModel" (17 : Nat) "OneBackModel" "fault" "[I") ∈ GT := GT_t 1196 (by decide +kernel) rfl
theorem tw1197 : (Jvm.Cond.fieldLink "OneBackModel" (20 : Nat) "OneBackModel" "faultPlace" "[I") ∈ GT := GT_t 1197 (by decide +kernel) rfl
theorem tw1198 : (Jvm.Cond.fieldLink "OneBackModel" (23 : Nat) "OneBackModel" "many" "[I") ∈ GT := GT_t 1198 (by decide +kernel) rfl
theorem tw1199 : (Jvm.Cond.fieldLink "OneBackModel" (26 : Nat) "OneBackModel" "towns" "[I") ∈ GT := GT_t 1199 (by decide +kernel) rfl
theorem tw1200 : (Jvm.Cond.fieldLink "OneBackModel" (29 : Nat) "OneBackModel" "laws" "[I") ∈ GT := GT_t 1200 (by decide +kernel) rfl
theorem tw1201 : (Jvm.Cond.fieldLink "OneBackModel" (32 : Nat) "OneBackModel" "nights" "[I") ∈ GT := GT_t 1201 (by decide +kernel) rfl
theorem tw1202 : (Jvm.Cond.fieldLink "OneBackModel" (35 : Nat) "OneBackModel" "sights" "[I") ∈ GT := GT_t 1202 (by decide +kernel) rfl
theorem tw1203 : (Jvm.Cond.fieldLink "OneBackModel" (106 : Nat) "OneBackModel" "reached" "I") ∈ GT := GT_t 1203 (by decide +kernel) rfl
theorem tw1204 : (Jvm.Cond.fieldLink "OneBackModel" (109 : Nat) "OneBackModel" "length" "I") ∈ GT := GT_t 1204 (by decide +kernel) rfl
theorem tw1205 : (Jvm.Cond.fieldLink "OneBackModel" (116 : Nat) "OneBackModel" "begins" "I") ∈ GT := GT_t 1205 (by decide +kernel) rfl
theorem tw1206 : (Jvm.Cond.fieldLink "OneBackModel" (123 : Nat) "OneBackModel" "sort" "I") ∈ GT := GT_t 1206 (by decide +kernel) rfl
theorem tw1207 : (Jvm.Cond.fieldLink "OneBackModel" (126 : Nat) "OneBackModel" "value" "I") ∈ GT := GT_t 1207 (by decide +kernel) rfl
theorem tw1208 : (Jvm.Cond.fieldLink "OneBackModel" (119 : Nat) "OneBackModel" "word" "J") ∈ GT := GT_t 1208 (by decide +kernel) rfl
theorem tw1209 : (Jvm.Cond.fieldLink "OneBackModel" (129 : Nat) "OneBackModel" "wrongAt" "I") ∈ GT := GT_t 1209 (by decide +kernel) rfl
theorem tw1210 : (Jvm.Cond.fieldLink "OneBackModel" (132 : Nat) "OneBackModel" "laterFault" "I") ∈ GT := GT_t 1210 (by decide +kernel) rfl
theorem tw1211 : (Jvm.Cond.fieldLink "OneBackModel" (135 : Nat) "OneBackModel" "laterPlace" "I") ∈ GT := GT_t 1211 (by decide +kernel) rfl
theorem tw1212 : (Jvm.Cond.fieldLink "OneBackModel" (38 : Nat) "OneBackModel" "told" "[I") ∈ GT := GT_t 1212 (by decide +kernel) rfl
theorem tw1213 : (Jvm.Cond.fieldLink "OneBackModel" (41 : Nat) "OneBackModel" "read" "[I") ∈ GT := GT_t 1213 (by decide +kernel) rfl
theorem tw1214 : (Jvm.Cond.fieldLink "OneBackModel" (160 : Nat) "OneBackModel" "farHouse" "I") ∈ GT := GT_t 1214 (by decide +kernel) rfl
theorem tw1215 : (Jvm.Cond.fieldLink "OneBackModel" (174 : Nat) "OneBackModel" "farThief" "I") ∈ GT := GT_t 1215 (by decide +kernel) rfl
theorem tw1216 : (Jvm.Cond.fieldLink "OneBackModel" (146 : Nat) "OneBackModel" "good" "Z") ∈ GT := GT_t 1216 (by decide +kernel) rfl
theorem tw1217 : (Jvm.Cond.fieldLink "OneBackModel" (274 : Nat) "OneBackModel" "town" "I") ∈ GT := GT_t 1217 (by decide +kernel) rfl
theorem tw1218 : (Jvm.Cond.fieldLink "OneBackModel" (281 : Nat) "OneBackModel" "houses" "I") ∈ GT := GT_t 1218 (by decide +kernel) rfl
theorem tw1219 : (Jvm.Cond.fieldLink "OneBackModel" (284 : Nat) "OneBackModel" "thieves" "I") ∈ GT := GT_t 1219 (by decide +kernel) rfl
theorem tw1220 : (Jvm.Cond.fieldLink "OneBackModel" (305 : Nat) "OneBackModel" "law" "I") ∈ GT := GT_t 1220 (by decide +kernel) rfl
theorem tw1221 : (Jvm.Cond.fieldLink "OneBackModel" (320 : Nat) "OneBackModel" "row" "I") ∈ GT := GT_t 1221 (by decide +kernel) rfl
theorem tw1222 : (Jvm.Cond.fieldLink "OneBackModel" (44 : Nat) "OneBackModel" "stock" "[I") ∈ GT := GT_t 1222 (by decide +kernel) rfl
theorem tw1223 : (Jvm.Cond.fieldLink "OneBackModel" (47 : Nat) "OneBackModel" "bag" "[I") ∈ GT := GT_t 1223 (by decide +kernel) rfl
theorem tw1224 : (Jvm.Cond.fieldLink "OneBackModel" (50 : Nat) "OneBackModel" "took" "[I") ∈ GT := GT_t 1224 (by decide +kernel) rfl
theorem tw1225 : (Jvm.Cond.fieldLink "OneBackModel" (53 : Nat) "OneBackModel" "gave" "[I") ∈ GT := GT_t 1225 (by decide +kernel) rfl
theorem tw1226 : (Jvm.Cond.fieldLink "OneBackModel" (56 : Nat) "OneBackModel" "tonight" "[I") ∈ GT := GT_t 1226 (by decide +kernel) rfl
theorem tw1227 : (Jvm.Cond.fieldLink "OneBackModel" (59 : Nat) "OneBackModel" "watched" "[I") ∈ GT := GT_t 1227 (by decide +kernel) rfl
theorem tw1228 : (Jvm.Cond.fieldLink "OneBackModel" (62 : Nat) "OneBackModel" "taken" "[I") ∈ GT := GT_t 1228 (by decide +kernel) rfl
theorem tw1229 : (Jvm.Cond.fieldLink "OneBackModel" (65 : Nat) "OneBackModel" "given" "[I") ∈ GT := GT_t 1229 (by decide +kernel) rfl
theorem tw1230 : (Jvm.Cond.fieldLink "OneBackModel" (68 : Nat) "OneBackModel" "trace" "[I") ∈ GT := GT_t 1230 (by decide +kernel) rfl
theorem tw1231 : (Jvm.Cond.fieldLink "OneBackModel" (71 : Nat) "OneBackModel" "lastTake" "[I") ∈ GT := GT_t 1231 (by decide +kernel) rfl
theorem tw1232 : (Jvm.Cond.fieldLink "OneBackModel" (74 : Nat) "OneBackModel" "lost" "[I") ∈ GT := GT_t 1232 (by decide +kernel) rfl
theorem tw1233 : (Jvm.Cond.fieldLink "OneBackModel" (332 : Nat) "OneBackModel" "night" "I") ∈ GT := GT_t 1233 (by decide +kernel) rfl
theorem tw1234 : (Jvm.Cond.fieldLink "OneBackModel" (335 : Nat) "OneBackModel" "caught" "I") ∈ GT := GT_t 1234 (by decide +kernel) rfl
theorem tw1235 : (Jvm.Cond.fieldLink "OneBackModel" (338 : Nat) "OneBackModel" "clock" "I") ∈ GT := GT_t 1235 (by decide +kernel) rfl
theorem tw1236 : (Jvm.Cond.fieldLink "OneBackModel" (77 : Nat) "OneBackModel" "aided" "[I") ∈ GT := GT_t 1236 (by decide +kernel) rfl
theorem tw1237 : (Jvm.Cond.fieldLink "OneBackModel" (402 : Nat) "OneBackModel" "aidCost" "I") ∈ GT := GT_t 1237 (by decide +kernel) rfl
theorem tw1238 : (Jvm.Cond.fieldLink "OneBackModel" (405 : Nat) "OneBackModel" "aidMany" "I") ∈ GT := GT_t 1238 (by decide +kernel) rfl
theorem tw1239 : (Jvm.Cond.fieldLink "OneBackModel" (80 : Nat) "OneBackModel" "carried" "[I") ∈ GT := GT_t 1239 (by decide +kernel) rfl
theorem tw1240 : (Jvm.Cond.fieldLink "OneBackModel" (83 : Nat) "OneBackModel" "then" "[I") ∈ GT := GT_t 1240 (by decide +kernel) rfl
theorem tw1241 : (Jvm.Cond.fieldLink "OneBackModel" (432 : Nat) "OneBackModel" "sight" "I") ∈ GT := GT_t 1241 (by decide +kernel) rfl
theorem tw1242 : (Jvm.Cond.fieldLink "OneBackModel" (476 : Nat) "OneBackModel" "seed" "I") ∈ GT := GT_t 1242 (by decide +kernel) rfl
theorem tw1243 : (Jvm.Cond.fieldLink "OneBackModel" (86 : Nat) "OneBackModel" "kept" "[Z") ∈ GT := GT_t 1243 (by decide +kernel) rfl
theorem tw1347 : (Jvm.Cond.arrayClass Jvm.ClassFile.FieldType.boolean) ∈ GT := GT_t 1347 (by decide +kernel) rfl
theorem tw1348 : (Jvm.Cond.methodLink "OneBackLaw" (17 : Nat) ({ cls := "OneBackModel", name := "feed", desc := "(IIIII)I" } : Jvm.MethodName)) ∈ GT := GT_t 1348 (by decide +kernel) rfl
theorem tw1349 : (Jvm.Cond.instanceMethod ({ cls := "OneBackModel", name := "feed", desc := "(IIIII)I" } : Jvm.MethodName)) ∈ GT := GT_t 1349 (by decide +kernel) rfl
theorem tw1350 : (Jvm.Cond.selects "OneBackModel" ({ cls := "OneBackModel", name := "feed", desc := "(IIIII)I" } : Jvm.MethodName) ({ cls := "OneBackModel", name := "feed", desc := "(IIIII)I" } : Jvm.MethodName)) ∈ GT := GT_t 1350 (by decide +kernel) rfl
theorem tw1351 : (Jvm.Cond.code ({ cls := "OneBackModel", name := "feed", desc := "(IIIII)I" } : Jvm.MethodName) prog_13_method_11_code (6 : Nat) (Option.some Jvm.ClassFile.FieldType.int)) ∈ GT := GT_t 1351 (by decide +kernel) rfl
theorem tw1352 : (Jvm.Cond.methodLink "OneBackModel" (102 : Nat) ({ cls := "OneBackModel", name := "four", desc := "(I)V" } : Jvm.MethodName)) ∈ GT := GT_t 1352 (by decide +kernel) rfl
theorem tw1354 : (Jvm.Cond.instanceMethod ({ cls := "OneBackModel", name := "four", desc := "(I)V" } : Jvm.MethodName)) ∈ GT := GT_t 1354 (by decide +kernel) rfl
theorem tw1355 : (Jvm.Cond.code ({ cls := "OneBackModel", name := "four", desc := "(I)V" } : Jvm.MethodName) prog_13_method_12_code (3 : Nat) (Option.none : Option Jvm.ClassFile.FieldType)) ∈ GT := GT_t 1355 (by decide +kernel) rfl
theorem tw1356 : (Jvm.Cond.methodLink "OneBackLaw" (22 : Nat) ({ cls := "OneBackModel", name := "end", desc := "(I)I" } : Jvm.MethodName)) ∈ GT := GT_t 1356 (by decide +kernel) rfl
theorem tw1357 : (Jvm.Cond.instanceMethod ({ cls := "OneBackModel", name := "end", desc := "(I)I" } : Jvm.MethodName)) ∈ GT := GT_t 1357 (by decide +kernel) rfl
theorem tw1358 : (Jvm.Cond.selects "OneBackModel" ({ cls := "OneBackModel", name := "end", desc := "(I)I" } : Jvm.MethodName) ({ cls := "OneBackModel", name := "end", desc := "(I)I" } : Jvm.MethodName)) ∈ GT := GT_t 1358 (by decide +kernel) rfl
theorem tw1359 : (Jvm.Cond.code ({ cls := "OneBackModel", name := "end", desc := "(I)I" } : Jvm.MethodName) prog_13_method_13_code (2 : Nat) (Option.some Jvm.ClassFile.FieldType.int)) ∈ GT := GT_t 1359 (by decide +kernel) rfl
theorem tw1360 : (Jvm.Cond.methodLink "OneBackModel" (98 : Nat) ({ cls := "OneBackModel", name := "in", desc := "(III)Z" } : Jvm.MethodName)) ∈ GT := GT_t 1360 (by decide +kernel) rfl
theorem tw1361 : (Jvm.Cond.static ({ cls := "OneBackModel", name := "in", desc := "(III)Z" } : Jvm.MethodName)) ∈ GT := GT_t 1361 (by decide +kernel) rfl
theorem tw1362 : (Jvm.Cond.code ({ cls := "OneBackModel", name := "in", desc := "(III)Z" } : Jvm.MethodName) prog_13_method_3_code (3 : Nat) (Option.some Jvm.ClassFile.FieldType.boolean)) ∈ GT := GT_t 1362 (by decide +kernel) rfl
theorem tw1363 : (Jvm.Cond.methodLink "OneBackLaw" (27 : Nat) ({ cls := "OneBackModel", name := "text", desc := "(II)I" } : Jvm.MethodName)) ∈ GT := GT_t 1363 (by decide +kernel) rfl
theorem tw1364 : (Jvm.Cond.instanceMethod ({ cls := "OneBackModel", name := "text", desc := "(II)I" } : Jvm.MethodName)) ∈ GT := GT_t 1364 (by decide +kernel) rfl
theorem tw1365 : (Jvm.Cond.selects "OneBackModel" ({ cls := "OneBackModel", name := "text", desc := "(II)I" } : Jvm.MethodName) ({ cls := "OneBackModel", name := "text", desc := "(II)I" } : Jvm.MethodName)) ∈ GT := GT_t 1365 (by decide +kernel) rfl
theorem tw1366 : (Jvm.Cond.code ({ cls := "OneBackModel", name := "text", desc := "(II)I" } : Jvm.MethodName) prog_13_method_39_code (4 : Nat) (Option.some Jvm.ClassFile.FieldType.int)) ∈ GT := GT_t 1366 (by decide +kernel) rfl
theorem tw1367 : (Jvm.Cond.methodLink "OneBackModel" (264 : Nat) ({ cls := "OneBackModel", name := "is", desc := "(II)Z" } : Jvm.MethodName)) ∈ GT := GT_t 1367 (by decide +kernel) rfl
theorem tw1369 : (Jvm.Cond.instanceMethod ({ cls := "OneBackModel", name := "is", desc := "(II)Z" } : Jvm.MethodName)) ∈ GT := GT_t 1369 (by decide +kernel) rfl
theorem tw1370 : (Jvm.Cond.code ({ cls := "OneBackModel", name := "is", desc := "(II)Z" } : Jvm.MethodName) prog_13_method_10_code (3 : Nat) (Option.some Jvm.ClassFile.FieldType.boolean)) ∈ GT := GT_t 1370 (by decide +kernel) rfl
theorem tw1371 : (Jvm.Cond.methodLink "OneBackModel" (268 : Nat) ({ cls := "OneBackModel", name := "readText", desc := "(I)Z" } : Jvm.MethodName)) ∈ GT := GT_t 1371 (by decide +kernel) rfl
theorem tw1373 : (Jvm.Cond.instanceMethod ({ cls := "OneBackModel", name := "readText", desc := "(I)Z" } : Jvm.MethodName)) ∈ GT := GT_t 1373 (by decide +kernel) rfl
theorem tw1374 : (Jvm.Cond.code ({ cls := "OneBackModel", name := "readText", desc := "(I)Z" } : Jvm.MethodName) prog_13_method_36_code (3 : Nat) (Option.some Jvm.ClassFile.FieldType.boolean)) ∈ GT := GT_t 1374 (by decide +kernel) rfl
theorem tw1375 : (Jvm.Cond.methodLink "OneBackModel" (254 : Nat) ({ cls := "OneBackModel", name := "blank", desc := "(I)V" } : Jvm.MethodName)) ∈ GT := GT_t 1375 (by decide +kernel) rfl
theorem tw1377 : (Jvm.Cond.instanceMethod ({ cls := "OneBackModel", name := "blank", desc := "(I)V" } : Jvm.MethodName)) ∈ GT := GT_t 1377 (by decide +kernel) rfl
theorem tw1378 : (Jvm.Cond.code ({ cls := "OneBackModel", name := "blank", desc := "(I)V" } : Jvm.MethodName) prog_13_method_35_code (3 : Nat) (Option.none : Option Jvm.ClassFile.FieldType)) ∈ GT := GT_t 1378 (by decide +kernel) rfl
theorem tw1379 : (Jvm.Cond.methodLink "OneBackModel" (251 : Nat) ({ cls := "OneBackModel", name := "blankTown", desc := "()V" } : Jvm.MethodName)) ∈ GT := GT_t 1379 (by decide +kernel) rfl
theorem tw1381 : (Jvm.Cond.instanceMethod ({ cls := "OneBackModel", name := "blankTown", desc := "()V" } : Jvm.MethodName)) ∈ GT := GT_t 1381 (by decide +kernel) rfl
theorem tw1382 : (Jvm.Cond.code ({ cls := "OneBackModel", name := "blankTown", desc := "()V" } : Jvm.MethodName) prog_13_method_34_code (2 : Nat) (Option.none : Option Jvm.ClassFile.FieldType)) ∈ GT := GT_t 1382 (by decide +kernel) rfl
theorem tw1383 : (Jvm.Cond.methodLink "OneBackModel" (150 : Nat) ({ cls := "OneBackModel", name := "token", desc := "()V" } : Jvm.MethodName)) ∈ GT := GT_t 1383 (by decide +kernel) rfl
theorem tw1385 : (Jvm.Cond.instanceMethod ({ cls := "OneBackModel", name := "token", desc := "()V" } : Jvm.MethodName)) ∈ GT := GT_t 1385 (by decide +kernel) rfl
theorem tw1386 : (Jvm.Cond.code ({ cls := "OneBackModel", name := "token", desc := "()V" } : Jvm.MethodName) prog_13_method_15_code (3 : Nat) (Option.none : Option Jvm.ClassFile.FieldType)) ∈ GT := GT_t 1386 (by decide +kernel) rfl
theorem tw1387 : (Jvm.Cond.methodLink "OneBackModel" (112 : Nat) ({ cls := "OneBackModel", name := "see", desc := "()I" } : Jvm.MethodName)) ∈ GT := GT_t 1387 (by decide +kernel) rfl
theorem tw1389 : (Jvm.Cond.instanceMethod ({ cls := "OneBackModel", name := "see", desc := "()I" } : Jvm.MethodName)) ∈ GT := GT_t 1389 (by decide +kernel) rfl
theorem tw1390 : (Jvm.Cond.code ({ cls := "OneBackModel", name := "see", desc := "()I" } : Jvm.MethodName) prog_13_method_14_code (1 : Nat) (Option.some Jvm.ClassFile.FieldType.int)) ∈ GT := GT_t 1390 (by decide +kernel) rfl
theorem tw1391 : (Jvm.Cond.methodLink "OneBackModel" (257 : Nat) ({ cls := "OneBackModel", name := "lines", desc := "(I)Z" } : Jvm.MethodName)) ∈ GT := GT_t 1391 (by decide +kernel) rfl
theorem tw1393 : (Jvm.Cond.instanceMethod ({ cls := "OneBackModel", name := "lines", desc := "(I)Z" } : Jvm.MethodName)) ∈ GT := GT_t 1393 (by decide +kernel) rfl
theorem tw1394 : (Jvm.Cond.code ({ cls := "OneBackModel", name := "lines", desc := "(I)Z" } : Jvm.MethodName) prog_13_method_33_code (4 : Nat) (Option.some Jvm.ClassFile.FieldType.boolean)) ∈ GT := GT_t 1394 (by decide +kernel) rfl
theorem tw1395 : (Jvm.Cond.methodLink "OneBackModel" (247 : Nat) ({ cls := "OneBackModel", name := "lineOf", desc := "(IJI)Z" } : Jvm.MethodName)) ∈ GT := GT_t 1395 (by decide +kernel) rfl
theorem tw1397 : (Jvm.Cond.instanceMethod ({ cls := "OneBackModel", name := "lineOf", desc := "(IJI)Z" } : Jvm.MethodName)) ∈ GT := GT_t 1397 (by decide +kernel) rfl
theorem tw1398 : (Jvm.Cond.code ({ cls := "OneBackModel", name := "lineOf", desc := "(IJI)Z" } : Jvm.MethodName) prog_13_method_32_code (5 : Nat) (Option.some Jvm.ClassFile.FieldType.boolean)) ∈ GT := GT_t 1398 (by decide +kernel) rfl
theorem tw1399 : (Jvm.Cond.methodLink "OneBackModel" (234 : Nat) ({ cls := "OneBackModel", name := "townLine", desc := "(JI)Z" } : Jvm.MethodName)) ∈ GT := GT_t 1399 (by decide +kernel) rfl
theorem tw1401 : (Jvm.Cond.instanceMethod ({ cls := "OneBackModel", name := "townLine", desc := "(JI)Z" } : Jvm.MethodName)) ∈ GT := GT_t 1401 (by decide +kernel) rfl
theorem tw1402 : (Jvm.Cond.code ({ cls := "OneBackModel", name := "townLine", desc := "(JI)Z" } : Jvm.MethodName) prog_13_method_28_code (4 : Nat) (Option.some Jvm.ClassFile.FieldType.boolean)) ∈ GT := GT_t 1402 (by decide +kernel) rfl
theorem tw1403 : (Jvm.Cond.constantLong "OneBackModel" (181 : Nat) (114827921155443 : Int64)) ∈ GT := GT_t 1403 (by decide +kernel) rfl
theorem tw1404 : (Jvm.Cond.constantLong "OneBackModel" (183 : Nat) (6840691 : Int64)) ∈ GT := GT_t 1404 (by decide +kernel) rfl
theorem tw1405 : (Jvm.Cond.constantLong "OneBackModel" (185 : Nat) (474147546227 : Int64)) ∈ GT := GT_t 1405 (by decide +kernel) rfl
theorem tw1406 : (Jvm.Cond.constantLong "OneBackModel" (177 : Nat) (512736125800 : Int64)) ∈ GT := GT_t 1406 (by decide +kernel) rfl
theorem tw1407 : (Jvm.Cond.constantLong "OneBackModel" (187 : Nat) (123563851081075 : Int64)) ∈ GT := GT_t 1407 (by decide +kernel) rfl
theorem tw1408 : (Jvm.Cond.constantLong "OneBackModel" (179 : Nat) (131277443786868 : Int64)) ∈ GT := GT_t 1408 (by decide +kernel) rfl
theorem tw1409 : (Jvm.Cond.constantLong "OneBackModel" (189 : Nat) (512970880104 : Int64)) ∈ GT := GT_t 1409 (by decide +kernel) rfl
theorem tw1410 : (Jvm.Cond.constantLong "OneBackModel" (191 : Nat) (7565166 : Int64)) ∈ GT := GT_t 1410 (by decide +kernel) rfl
theorem tw1411 : (Jvm.Cond.constantLong "OneBackModel" (193 : Nat) (499967944038 : Int64)) ∈ GT := GT_t 1411 (by decide +kernel) rfl
theorem tw1412 : (Jvm.Cond.methodLink "OneBackModel" (138 : Nat) ({ cls := "OneBackModel", name := "fails", desc := "()Z" } : Jvm.MethodName)) ∈ GT := GT_t 1412 (by decide +kernel) rfl
theorem tw1414 : (Jvm.Cond.instanceMethod ({ cls := "OneBackModel", name := "fails", desc := "()Z" } : Jvm.MethodName)) ∈ GT := GT_t 1414 (by decide +kernel) rfl
theorem tw1415 : (Jvm.Cond.code ({ cls := "OneBackModel", name := "fails", desc := "()Z" } : Jvm.MethodName) prog_13_method_16_code (1 : Nat) (Option.some Jvm.ClassFile.FieldType.boolean)) ∈ GT := GT_t 1415 (by decide +kernel) rfl
theorem tw1416 : (Jvm.Cond.methodLink "OneBackModel" (195 : Nat) ({ cls := "OneBackModel", name := "full", desc := "(III)V" } : Jvm.MethodName)) ∈ GT := GT_t 1416 (by decide +kernel) rfl
theorem tw1418 : (Jvm.Cond.instanceMethod ({ cls := "OneBackModel", name := "full", desc := "(III)V" } : Jvm.MethodName)) ∈ GT := GT_t 1418 (by decide +kernel) rfl
theorem tw1419 : (Jvm.Cond.code ({ cls := "OneBackModel", name := "full", desc := "(III)V" } : Jvm.MethodName) prog_13_method_21_code (4 : Nat) (Option.none : Option Jvm.ClassFile.FieldType)) ∈ GT := GT_t 1419 (by decide +kernel) rfl
theorem tw1420 : (Jvm.Cond.methodLink "OneBackModel" (142 : Nat) ({ cls := "OneBackModel", name := "later", desc := "(II)V" } : Jvm.MethodName)) ∈ GT := GT_t 1420 (by decide +kernel) rfl
theorem tw1422 : (Jvm.Cond.instanceMethod ({ cls := "OneBackModel", name := "later", desc := "(II)V" } : Jvm.MethodName)) ∈ GT := GT_t 1422 (by decide +kernel) rfl
theorem tw1423 : (Jvm.Cond.code ({ cls := "OneBackModel", name := "later", desc := "(II)V" } : Jvm.MethodName) prog_13_method_17_code (3 : Nat) (Option.none : Option Jvm.ClassFile.FieldType)) ∈ GT := GT_t 1423 (by decide +kernel) rfl
theorem tw1424 : (Jvm.Cond.methodLink "OneBackModel" (199 : Nat) ({ cls := "OneBackModel", name := "goodsLine", desc := "(I)Z" } : Jvm.MethodName)) ∈ GT := GT_t 1424 (by decide +kernel) rfl
theorem tw1426 : (Jvm.Cond.instanceMethod ({ cls := "OneBackModel", name := "goodsLine", desc := "(I)Z" } : Jvm.MethodName)) ∈ GT := GT_t 1426 (by decide +kernel) rfl
theorem tw1427 : (Jvm.Cond.code ({ cls := "OneBackModel", name := "goodsLine", desc := "(I)Z" } : Jvm.MethodName) prog_13_method_24_code (2 : Nat) (Option.some Jvm.ClassFile.FieldType.boolean)) ∈ GT := GT_t 1427 (by decide +kernel) rfl
theorem tw1428 : (Jvm.Cond.methodLink "OneBackModel" (167 : Nat) ({ cls := "OneBackModel", name := "takeHouse", desc := "(I)Z" } : Jvm.MethodName)) ∈ GT := GT_t 1428 (by decide +kernel) rfl
theorem tw1430 : (Jvm.Cond.instanceMethod ({ cls := "OneBackModel", name := "takeHouse", desc := "(I)Z" } : Jvm.MethodName)) ∈ GT := GT_t 1430 (by decide +kernel) rfl
theorem tw1431 : (Jvm.Cond.code ({ cls := "OneBackModel", name := "takeHouse", desc := "(I)Z" } : Jvm.MethodName) prog_13_method_20_code (2 : Nat) (Option.some Jvm.ClassFile.FieldType.boolean)) ∈ GT := GT_t 1431 (by decide +kernel) rfl
theorem tw1432 : (Jvm.Cond.methodLink "OneBackModel" (157 : Nat) ({ cls := "OneBackModel", name := "take", desc := "(III)Z" } : Jvm.MethodName)) ∈ GT := GT_t 1432 (by decide +kernel) rfl
theorem tw1434 : (Jvm.Cond.instanceMethod ({ cls := "OneBackModel", name := "take", desc := "(III)Z" } : Jvm.MethodName)) ∈ GT := GT_t 1434 (by decide +kernel) rfl
theorem tw1435 : (Jvm.Cond.code ({ cls := "OneBackModel", name := "take", desc := "(III)Z" } : Jvm.MethodName) prog_13_method_19_code (4 : Nat) (Option.some Jvm.ClassFile.FieldType.boolean)) ∈ GT := GT_t 1435 (by decide +kernel) rfl
theorem tw1436 : (Jvm.Cond.methodLink "OneBackModel" (153 : Nat) ({ cls := "OneBackModel", name := "takeBut", desc := "(IIII)Z" } : Jvm.MethodName)) ∈ GT := GT_t 1436 (by decide +kernel) rfl
theorem tw1438 : (Jvm.Cond.instanceMethod ({ cls := "OneBackModel", name := "takeBut", desc := "(IIII)Z" } : Jvm.MethodName)) ∈ GT := GT_t 1438 (by decide +kernel) rfl
theorem tw1439 : (Jvm.Cond.code ({ cls := "OneBackModel", name := "takeBut", desc := "(IIII)Z" } : Jvm.MethodName) prog_13_method_18_code (5 : Nat) (Option.some Jvm.ClassFile.FieldType.boolean)) ∈ GT := GT_t 1439 (by decide +kernel) rfl
theorem tw1440 : (Jvm.Cond.methodLink "OneBackModel" (163 : Nat) ({ cls := "OneBackModel", name := "greater", desc := "(II)I" } : Jvm.MethodName)) ∈ GT := GT_t 1440 (by decide +kernel) rfl
theorem tw1441 : (Jvm.Cond.static ({ cls := "OneBackModel", name := "greater", desc := "(II)I" } : Jvm.MethodName)) ∈ GT := GT_t 1441 (by decide +kernel) rfl
theorem tw1442 : (Jvm.Cond.code ({ cls := "OneBackModel", name := "greater", desc := "(II)I" } : Jvm.MethodName) prog_13_method_5_code (2 : Nat) (Option.some Jvm.ClassFile.FieldType.int)) ∈ GT := GT_t 1442 (by decide +kernel) rfl
theorem tw1443 : (Jvm.Cond.methodLink "OneBackModel" (171 : Nat) ({ cls := "OneBackModel", name := "lay", desc := "(II)V" } : Jvm.MethodName)) ∈ GT := GT_t 1443 (by decide +kernel) rfl
theorem tw1445 : (Jvm.Cond.instanceMethod ({ cls := "OneBackModel", name := "lay", desc := "(II)V" } : Jvm.MethodName)) ∈ GT := GT_t 1445 (by decide +kernel) rfl
theorem tw1446 : (Jvm.Cond.code ({ cls := "OneBackModel", name := "lay", desc := "(II)V" } : Jvm.MethodName) prog_13_method_23_code (3 : Nat) (Option.none : Option Jvm.ClassFile.FieldType)) ∈ GT := GT_t 1446 (by decide +kernel) rfl
theorem tw1447 : (Jvm.Cond.methodLink "OneBackModel" (202 : Nat) ({ cls := "OneBackModel", name := "houseLine", desc := "(J)Z" } : Jvm.MethodName)) ∈ GT := GT_t 1447 (by decide +kernel) rfl
theorem tw1449 : (Jvm.Cond.instanceMethod ({ cls := "OneBackModel", name := "houseLine", desc := "(J)Z" } : Jvm.MethodName)) ∈ GT := GT_t 1449 (by decide +kernel) rfl
theorem tw1450 : (Jvm.Cond.code ({ cls := "OneBackModel", name := "houseLine", desc := "(J)Z" } : Jvm.MethodName) prog_13_method_26_code (3 : Nat) (Option.some Jvm.ClassFile.FieldType.boolean)) ∈ GT := GT_t 1450 (by decide +kernel) rfl
theorem tw1451 : (Jvm.Cond.methodLink "OneBackModel" (206 : Nat) ({ cls := "OneBackModel", name := "goodLine", desc := "(J)Z" } : Jvm.MethodName)) ∈ GT := GT_t 1451 (by decide +kernel) rfl
theorem tw1453 : (Jvm.Cond.instanceMethod ({ cls := "OneBackModel", name := "goodLine", desc := "(J)Z" } : Jvm.MethodName)) ∈ GT := GT_t 1453 (by decide +kernel) rfl
theorem tw1454 : (Jvm.Cond.code ({ cls := "OneBackModel", name := "goodLine", desc := "(J)Z" } : Jvm.MethodName) prog_13_method_27_code (3 : Nat) (Option.some Jvm.ClassFile.FieldType.boolean)) ∈ GT := GT_t 1454 (by decide +kernel) rfl
theorem tw1455 : (Jvm.Cond.methodLink "OneBackModel" (209 : Nat) ({ cls := "OneBackModel", name := "sonLine", desc := "()Z" } : Jvm.MethodName)) ∈ GT := GT_t 1455 (by decide +kernel) rfl
theorem tw1457 : (Jvm.Cond.instanceMethod ({ cls := "OneBackModel", name := "sonLine", desc := "()Z" } : Jvm.MethodName)) ∈ GT := GT_t 1457 (by decide +kernel) rfl
theorem tw1458 : (Jvm.Cond.code ({ cls := "OneBackModel", name := "sonLine", desc := "()Z" } : Jvm.MethodName) prog_13_method_25_code (1 : Nat) (Option.some Jvm.ClassFile.FieldType.boolean)) ∈ GT := GT_t 1458 (by decide +kernel) rfl
theorem tw1459 : (Jvm.Cond.methodLink "OneBackModel" (212 : Nat) ({ cls := "OneBackModel", name := "keep", desc := "(IIII)V" } : Jvm.MethodName)) ∈ GT := GT_t 1459 (by decide +kernel) rfl
theorem tw1461 : (Jvm.Cond.instanceMethod ({ cls := "OneBackModel", name := "keep", desc := "(IIII)V" } : Jvm.MethodName)) ∈ GT := GT_t 1461 (by decide +kernel) rfl
theorem tw1462 : (Jvm.Cond.code ({ cls := "OneBackModel", name := "keep", desc := "(IIII)V" } : Jvm.MethodName) prog_13_method_22_code (7 : Nat) (Option.none : Option Jvm.ClassFile.FieldType)) ∈ GT := GT_t 1462 (by decide +kernel) rfl
theorem tw1463 : (Jvm.Cond.methodLink "OneBackModel" (238 : Nat) ({ cls := "OneBackModel", name := "lawLine", desc := "(J)Z" } : Jvm.MethodName)) ∈ GT := GT_t 1463 (by decide +kernel) rfl
theorem tw1465 : (Jvm.Cond.instanceMethod ({ cls := "OneBackModel", name := "lawLine", desc := "(J)Z" } : Jvm.MethodName)) ∈ GT := GT_t 1465 (by decide +kernel) rfl
theorem tw1466 : (Jvm.Cond.code ({ cls := "OneBackModel", name := "lawLine", desc := "(J)Z" } : Jvm.MethodName) prog_13_method_29_code (3 : Nat) (Option.some Jvm.ClassFile.FieldType.boolean)) ∈ GT := GT_t 1466 (by decide +kernel) rfl
theorem tw1467 : (Jvm.Cond.constantLong "OneBackModel" (216 : Nat) (1918989413 : Int64)) ∈ GT := GT_t 1467 (by decide +kernel) rfl
theorem tw1468 : (Jvm.Cond.constantLong "OneBackModel" (218 : Nat) (426836779880 : Int64)) ∈ GT := GT_t 1468 (by decide +kernel) rfl
theorem tw1469 : (Jvm.Cond.constantLong "OneBackModel" (220 : Nat) (110429873532005 : Int64)) ∈ GT := GT_t 1469 (by decide +kernel) rfl
theorem tw1470 : (Jvm.Cond.methodLink "OneBackModel" (241 : Nat) ({ cls := "OneBackModel", name := "nightsLine", desc := "(JI)Z" } : Jvm.MethodName)) ∈ GT := GT_t 1470 (by decide +kernel) rfl
theorem tw1472 : (Jvm.Cond.instanceMethod ({ cls := "OneBackModel", name := "nightsLine", desc := "(JI)Z" } : Jvm.MethodName)) ∈ GT := GT_t 1472 (by decide +kernel) rfl
theorem tw1473 : (Jvm.Cond.code ({ cls := "OneBackModel", name := "nightsLine", desc := "(JI)Z" } : Jvm.MethodName) prog_13_method_30_code (5 : Nat) (Option.some Jvm.ClassFile.FieldType.boolean)) ∈ GT := GT_t 1473 (by decide +kernel) rfl
theorem tw1474 : (Jvm.Cond.constantLong "OneBackModel" (222 : Nat) (1952541541 : Int64)) ∈ GT := GT_t 1474 (by decide +kernel) rfl
theorem tw1475 : (Jvm.Cond.constantLong "OneBackModel" (224 : Nat) (1734964837 : Int64)) ∈ GT := GT_t 1475 (by decide +kernel) rfl
theorem tw1476 : (Jvm.Cond.constantLong "OneBackModel" (226 : Nat) (7562612 : Int64)) ∈ GT := GT_t 1476 (by decide +kernel) rfl
theorem tw1477 : (Jvm.Cond.constantLong "OneBackModel" (228 : Nat) (474214787188 : Int64)) ∈ GT := GT_t 1477 (by decide +kernel) rfl
theorem tw1478 : (Jvm.Cond.methodLink "OneBackModel" (244 : Nat) ({ cls := "OneBackModel", name := "sightLine", desc := "(JI)Z" } : Jvm.MethodName)) ∈ GT := GT_t 1478 (by decide +kernel) rfl
theorem tw1480 : (Jvm.Cond.instanceMethod ({ cls := "OneBackModel", name := "sightLine", desc := "(JI)Z" } : Jvm.MethodName)) ∈ GT := GT_t 1480 (by decide +kernel) rfl
theorem tw1481 : (Jvm.Cond.code ({ cls := "OneBackModel", name := "sightLine", desc := "(JI)Z" } : Jvm.MethodName) prog_13_method_31_code (4 : Nat) (Option.some Jvm.ClassFile.FieldType.boolean)) ∈ GT := GT_t 1481 (by decide +kernel) rfl
theorem tw1482 : (Jvm.Cond.constantLong "OneBackModel" (230 : Nat) (444150998382 : Int64)) ∈ GT := GT_t 1482 (by decide +kernel) rfl
theorem tw1483 : (Jvm.Cond.constantLong "OneBackModel" (232 : Nat) (1818584692 : Int64)) ∈ GT := GT_t 1483 (by decide +kernel) rfl
theorem tw1484 : (Jvm.Cond.methodLink "OneBackModel" (271 : Nat) ({ cls := "OneBackModel", name := "storeAll", desc := "(II)V" } : Jvm.MethodName)) ∈ GT := GT_t 1484 (by decide +kernel) rfl
theorem tw1486 : (Jvm.Cond.instanceMethod ({ cls := "OneBackModel", name := "storeAll", desc := "(II)V" } : Jvm.MethodName)) ∈ GT := GT_t 1486 (by decide +kernel) rfl
theorem tw1487 : (Jvm.Cond.code ({ cls := "OneBackModel", name := "storeAll", desc := "(II)V" } : Jvm.MethodName) prog_13_method_38_code (3 : Nat) (Option.none : Option Jvm.ClassFile.FieldType)) ∈ GT := GT_t 1487 (by decide +kernel) rfl
theorem tw1488 : (Jvm.Cond.methodLink "OneBackModel" (260 : Nat) ({ cls := "OneBackModel", name := "store", desc := "([III)V" } : Jvm.MethodName)) ∈ GT := GT_t 1488 (by decide +kernel) rfl
theorem tw1490 : (Jvm.Cond.instanceMethod ({ cls := "OneBackModel", name := "store", desc := "([III)V" } : Jvm.MethodName)) ∈ GT := GT_t 1490 (by decide +kernel) rfl
theorem tw1491 : (Jvm.Cond.code ({ cls := "OneBackModel", name := "store", desc := "([III)V" } : Jvm.MethodName) prog_13_method_37_code (5 : Nat) (Option.none : Option Jvm.ClassFile.FieldType)) ∈ GT := GT_t 1491 (by decide +kernel) rfl
theorem tw1492 : (Jvm.Cond.methodLink "OneBackLaw" (31 : Nat) ({ cls := "OneBackModel", name := "fault", desc := "(I)I" } : Jvm.MethodName)) ∈ GT := GT_t 1492 (by decide +kernel) rfl
theorem tw1493 : (Jvm.Cond.instanceMethod ({ cls := "OneBackModel", name := "fault", desc := "(I)I" } : Jvm.MethodName)) ∈ GT := GT_t 1493 (by decide +kernel) rfl
theorem tw1494 : (Jvm.Cond.selects "OneBackModel" ({ cls := "OneBackModel", name := "fault", desc := "(I)I" } : Jvm.MethodName) ({ cls := "OneBackModel", name := "fault", desc := "(I)I" } : Jvm.MethodName)) ∈ GT := GT_t 1494 (by decide +kernel) rfl
theorem tw1495 : (Jvm.Cond.code ({ cls := "OneBackModel", name := "fault", desc := "(I)I" } : Jvm.MethodName) prog_13_method_40_code (2 : Nat) (Option.some Jvm.ClassFile.FieldType.int)) ∈ GT := GT_t 1495 (by decide +kernel) rfl
theorem tw1496 : (Jvm.Cond.methodLink "OneBackLaw" (35 : Nat) ({ cls := "OneBackModel", name := "town", desc := "(II)I" } : Jvm.MethodName)) ∈ GT := GT_t 1496 (by decide +kernel) rfl
theorem tw1497 : (Jvm.Cond.instanceMethod ({ cls := "OneBackModel", name := "town", desc := "(II)I" } : Jvm.MethodName)) ∈ GT := GT_t 1497 (by decide +kernel) rfl
theorem tw1498 : (Jvm.Cond.selects "OneBackModel" ({ cls := "OneBackModel", name := "town", desc := "(II)I" } : Jvm.MethodName) ({ cls := "OneBackModel", name := "town", desc := "(II)I" } : Jvm.MethodName)) ∈ GT := GT_t 1498 (by decide +kernel) rfl
theorem tw1499 : (Jvm.Cond.code ({ cls := "OneBackModel", name := "town", desc := "(II)I" } : Jvm.MethodName) prog_13_method_48_code (4 : Nat) (Option.some Jvm.ClassFile.FieldType.int)) ∈ GT := GT_t 1499 (by decide +kernel) rfl
theorem tw1500 : (Jvm.Cond.methodLink "OneBackModel" (287 : Nat) ({ cls := "OneBackModel", name := "hand", desc := "(I)Z" } : Jvm.MethodName)) ∈ GT := GT_t 1500 (by decide +kernel) rfl
theorem tw1502 : (Jvm.Cond.instanceMethod ({ cls := "OneBackModel", name := "hand", desc := "(I)Z" } : Jvm.MethodName)) ∈ GT := GT_t 1502 (by decide +kernel) rfl
theorem tw1503 : (Jvm.Cond.code ({ cls := "OneBackModel", name := "hand", desc := "(I)Z" } : Jvm.MethodName) prog_13_method_42_code (2 : Nat) (Option.some Jvm.ClassFile.FieldType.boolean)) ∈ GT := GT_t 1503 (by decide +kernel) rfl
theorem tw1504 : (Jvm.Cond.methodLink "OneBackModel" (277 : Nat) ({ cls := "OneBackModel", name := "of", desc := "(I)I" } : Jvm.MethodName)) ∈ GT := GT_t 1504 (by decide +kernel) rfl
theorem tw1506 : (Jvm.Cond.instanceMethod ({ cls := "OneBackModel", name := "of", desc := "(I)I" } : Jvm.MethodName)) ∈ GT := GT_t 1506 (by decide +kernel) rfl
theorem tw1507 : (Jvm.Cond.code ({ cls := "OneBackModel", name := "of", desc := "(I)I" } : Jvm.MethodName) prog_13_method_41_code (2 : Nat) (Option.some Jvm.ClassFile.FieldType.int)) ∈ GT := GT_t 1507 (by decide +kernel) rfl
theorem tw1508 : (Jvm.Cond.methodLink "OneBackModel" (290 : Nat) ({ cls := "OneBackModel", name := "isHouse", desc := "(I)Z" } : Jvm.MethodName)) ∈ GT := GT_t 1508 (by decide +kernel) rfl
theorem tw1510 : (Jvm.Cond.instanceMethod ({ cls := "OneBackModel", name := "isHouse", desc := "(I)Z" } : Jvm.MethodName)) ∈ GT := GT_t 1510 (by decide +kernel) rfl
theorem tw1511 : (Jvm.Cond.code ({ cls := "OneBackModel", name := "isHouse", desc := "(I)Z" } : Jvm.MethodName) prog_13_method_43_code (2 : Nat) (Option.some Jvm.ClassFile.FieldType.boolean)) ∈ GT := GT_t 1511 (by decide +kernel) rfl
theorem tw1512 : (Jvm.Cond.methodLink "OneBackModel" (293 : Nat) ({ cls := "OneBackModel", name := "isGood", desc := "(I)Z" } : Jvm.MethodName)) ∈ GT := GT_t 1512 (by decide +kernel) rfl
theorem tw1513 : (Jvm.Cond.static ({ cls := "OneBackModel", name := "isGood", desc := "(I)Z" } : Jvm.MethodName)) ∈ GT := GT_t 1513 (by decide +kernel) rfl
theorem tw1514 : (Jvm.Cond.code ({ cls := "OneBackModel", name := "isGood", desc := "(I)Z" } : Jvm.MethodName) prog_13_method_45_code (1 : Nat) (Option.some Jvm.ClassFile.FieldType.boolean)) ∈ GT := GT_t 1514 (by decide +kernel) rfl
theorem tw1515 : (Jvm.Cond.methodLink "OneBackModel" (296 : Nat) ({ cls := "OneBackModel", name := "isThief", desc := "(I)Z" } : Jvm.MethodName)) ∈ GT := GT_t 1515 (by decide +kernel) rfl
theorem tw1517 : (Jvm.Cond.instanceMethod ({ cls := "OneBackModel", name := "isThief", desc := "(I)Z" } : Jvm.MethodName)) ∈ GT := GT_t 1517 (by decide +kernel) rfl
theorem tw1518 : (Jvm.Cond.code ({ cls := "OneBackModel", name := "isThief", desc := "(I)Z" } : Jvm.MethodName) prog_13_method_44_code (2 : Nat) (Option.some Jvm.ClassFile.FieldType.boolean)) ∈ GT := GT_t 1518 (by decide +kernel) rfl
theorem tw1519 : (Jvm.Cond.methodLink "OneBackLaw" (40 : Nat) ({ cls := "OneBackModel", name := "house", desc := "(IIII)I" } : Jvm.MethodName)) ∈ GT := GT_t 1519 (by decide +kernel) rfl
theorem tw1520 : (Jvm.Cond.instanceMethod ({ cls := "OneBackModel", name := "house", desc := "(IIII)I" } : Jvm.MethodName)) ∈ GT := GT_t 1520 (by decide +kernel) rfl
theorem tw1521 : (Jvm.Cond.selects "OneBackModel" ({ cls := "OneBackModel", name := "house", desc := "(IIII)I" } : Jvm.MethodName) ({ cls := "OneBackModel", name := "house", desc := "(IIII)I" } : Jvm.MethodName)) ∈ GT := GT_t 1521 (by decide +kernel) rfl
theorem tw1522 : (Jvm.Cond.code ({ cls := "OneBackModel", name := "house", desc := "(IIII)I" } : Jvm.MethodName) prog_13_method_49_code (5 : Nat) (Option.some Jvm.ClassFile.FieldType.int)) ∈ GT := GT_t 1522 (by decide +kernel) rfl
theorem tw1523 : (Jvm.Cond.methodLink "OneBackModel" (299 : Nat) ({ cls := "OneBackModel", name := "spare", desc := "(II)I" } : Jvm.MethodName)) ∈ GT := GT_t 1523 (by decide +kernel) rfl
theorem tw1525 : (Jvm.Cond.instanceMethod ({ cls := "OneBackModel", name := "spare", desc := "(II)I" } : Jvm.MethodName)) ∈ GT := GT_t 1525 (by decide +kernel) rfl
theorem tw1526 : (Jvm.Cond.code ({ cls := "OneBackModel", name := "spare", desc := "(II)I" } : Jvm.MethodName) prog_13_method_46_code (3 : Nat) (Option.some Jvm.ClassFile.FieldType.int)) ∈ GT := GT_t 1526 (by decide +kernel) rfl
theorem tw1527 : (Jvm.Cond.methodLink "OneBackModel" (302 : Nat) ({ cls := "OneBackModel", name := "lacks", desc := "(II)I" } : Jvm.MethodName)) ∈ GT := GT_t 1527 (by decide +kernel) rfl
theorem tw1529 : (Jvm.Cond.instanceMethod ({ cls := "OneBackModel", name := "lacks", desc := "(II)I" } : Jvm.MethodName)) ∈ GT := GT_t 1529 (by decide +kernel) rfl
theorem tw1530 : (Jvm.Cond.code ({ cls := "OneBackModel", name := "lacks", desc := "(II)I" } : Jvm.MethodName) prog_13_method_47_code (3 : Nat) (Option.some Jvm.ClassFile.FieldType.int)) ∈ GT := GT_t 1530 (by decide +kernel) rfl
theorem tw1531 : (Jvm.Cond.methodLink "OneBackLaw" (44 : Nat) ({ cls := "OneBackModel", name := "law", desc := "(II)I" } : Jvm.MethodName)) ∈ GT := GT_t 1531 (by decide +kernel) rfl
theorem tw1532 : (Jvm.Cond.instanceMethod ({ cls := "OneBackModel", name := "law", desc := "(II)I" } : Jvm.MethodName)) ∈ GT := GT_t 1532 (by decide +kernel) rfl
theorem tw1533 : (Jvm.Cond.selects "OneBackModel" ({ cls := "OneBackModel", name := "law", desc := "(II)I" } : Jvm.MethodName) ({ cls := "OneBackModel", name := "law", desc := "(II)I" } : Jvm.MethodName)) ∈ GT := GT_t 1533 (by decide +kernel) rfl
theorem tw1534 : (Jvm.Cond.code ({ cls := "OneBackModel", name := "law", desc := "(II)I" } : Jvm.MethodName) prog_13_method_53_code (3 : Nat) (Option.some Jvm.ClassFile.FieldType.int)) ∈ GT := GT_t 1534 (by decide +kernel) rfl
theorem tw1535 : (Jvm.Cond.methodLink "OneBackModel" (314 : Nat) ({ cls := "OneBackModel", name := "hasLaw", desc := "(I)Z" } : Jvm.MethodName)) ∈ GT := GT_t 1535 (by decide +kernel) rfl
theorem tw1537 : (Jvm.Cond.instanceMethod ({ cls := "OneBackModel", name := "hasLaw", desc := "(I)Z" } : Jvm.MethodName)) ∈ GT := GT_t 1537 (by decide +kernel) rfl
theorem tw1538 : (Jvm.Cond.code ({ cls := "OneBackModel", name := "hasLaw", desc := "(I)Z" } : Jvm.MethodName) prog_13_method_51_code (2 : Nat) (Option.some Jvm.ClassFile.FieldType.boolean)) ∈ GT := GT_t 1538 (by decide +kernel) rfl
theorem tw1539 : (Jvm.Cond.methodLink "OneBackModel" (308 : Nat) ({ cls := "OneBackModel", name := "lawOf", desc := "(I)I" } : Jvm.MethodName)) ∈ GT := GT_t 1539 (by decide +kernel) rfl
theorem tw1541 : (Jvm.Cond.instanceMethod ({ cls := "OneBackModel", name := "lawOf", desc := "(I)I" } : Jvm.MethodName)) ∈ GT := GT_t 1541 (by decide +kernel) rfl
theorem tw1542 : (Jvm.Cond.code ({ cls := "OneBackModel", name := "lawOf", desc := "(I)I" } : Jvm.MethodName) prog_13_method_50_code (2 : Nat) (Option.some Jvm.ClassFile.FieldType.int)) ∈ GT := GT_t 1542 (by decide +kernel) rfl
theorem tw1543 : (Jvm.Cond.methodLink "OneBackModel" (317 : Nat) ({ cls := "OneBackModel", name := "isDouble", desc := "(I)Z" } : Jvm.MethodName)) ∈ GT := GT_t 1543 (by decide +kernel) rfl
theorem tw1545 : (Jvm.Cond.instanceMethod ({ cls := "OneBackModel", name := "isDouble", desc := "(I)Z" } : Jvm.MethodName)) ∈ GT := GT_t 1545 (by decide +kernel) rfl
theorem tw1546 : (Jvm.Cond.code ({ cls := "OneBackModel", name := "isDouble", desc := "(I)Z" } : Jvm.MethodName) prog_13_method_52_code (2 : Nat) (Option.some Jvm.ClassFile.FieldType.boolean)) ∈ GT := GT_t 1546 (by decide +kernel) rfl
theorem tw1547 : (Jvm.Cond.methodLink "OneBackModel" (311 : Nat) ({ cls := "OneBackModel", name := "has", desc := "(II)Z" } : Jvm.MethodName)) ∈ GT := GT_t 1547 (by decide +kernel) rfl
theorem tw1548 : (Jvm.Cond.static ({ cls := "OneBackModel", name := "has", desc := "(II)Z" } : Jvm.MethodName)) ∈ GT := GT_t 1548 (by decide +kernel) rfl
theorem tw1549 : (Jvm.Cond.code ({ cls := "OneBackModel", name := "has", desc := "(II)Z" } : Jvm.MethodName) prog_13_method_4_code (2 : Nat) (Option.some Jvm.ClassFile.FieldType.boolean)) ∈ GT := GT_t 1549 (by decide +kernel) rfl
theorem tw1550 : (Jvm.Cond.methodLink "OneBackLaw" (49 : Nat) ({ cls := "OneBackModel", name := "deed", desc := "(III)I" } : Jvm.MethodName)) ∈ GT := GT_t 1550 (by decide +kernel) rfl
theorem tw1551 : (Jvm.Cond.instanceMethod ({ cls := "OneBackModel", name := "deed", desc := "(III)I" } : Jvm.MethodName)) ∈ GT := GT_t 1551 (by decide +kernel) rfl
theorem tw1552 : (Jvm.Cond.selects "OneBackModel" ({ cls := "OneBackModel", name := "deed", desc := "(III)I" } : Jvm.MethodName) ({ cls := "OneBackModel", name := "deed", desc := "(III)I" } : Jvm.MethodName)) ∈ GT := GT_t 1552 (by decide +kernel) rfl
theorem tw1553 : (Jvm.Cond.code ({ cls := "OneBackModel", name := "deed", desc := "(III)I" } : Jvm.MethodName) prog_13_method_57_code (4 : Nat) (Option.some Jvm.ClassFile.FieldType.int)) ∈ GT := GT_t 1553 (by decide +kernel) rfl
theorem tw1554 : (Jvm.Cond.methodLink "OneBackModel" (323 : Nat) ({ cls := "OneBackModel", name := "hasNights", desc := "(I)Z" } : Jvm.MethodName)) ∈ GT := GT_t 1554 (by decide +kernel) rfl
theorem tw1556 : (Jvm.Cond.instanceMethod ({ cls := "OneBackModel", name := "hasNights", desc := "(I)Z" } : Jvm.MethodName)) ∈ GT := GT_t 1556 (by decide +kernel) rfl
theorem tw1557 : (Jvm.Cond.code ({ cls := "OneBackModel", name := "hasNights", desc := "(I)Z" } : Jvm.MethodName) prog_13_method_56_code (2 : Nat) (Option.some Jvm.ClassFile.FieldType.boolean)) ∈ GT := GT_t 1557 (by decide +kernel) rfl
theorem tw1558 : (Jvm.Cond.methodLink "OneBackModel" (326 : Nat) ({ cls := "OneBackModel", name := "deeds", desc := "()I" } : Jvm.MethodName)) ∈ GT := GT_t 1558 (by decide +kernel) rfl
theorem tw1560 : (Jvm.Cond.instanceMethod ({ cls := "OneBackModel", name := "deeds", desc := "()I" } : Jvm.MethodName)) ∈ GT := GT_t 1560 (by decide +kernel) rfl
theorem tw1561 : (Jvm.Cond.code ({ cls := "OneBackModel", name := "deeds", desc := "()I" } : Jvm.MethodName) prog_13_method_54_code (1 : Nat) (Option.some Jvm.ClassFile.FieldType.int)) ∈ GT := GT_t 1561 (by decide +kernel) rfl
theorem tw1562 : (Jvm.Cond.methodLink "OneBackModel" (329 : Nat) ({ cls := "OneBackModel", name := "deedOf", desc := "(II)I" } : Jvm.MethodName)) ∈ GT := GT_t 1562 (by decide +kernel) rfl
theorem tw1564 : (Jvm.Cond.instanceMethod ({ cls := "OneBackModel", name := "deedOf", desc := "(II)I" } : Jvm.MethodName)) ∈ GT := GT_t 1564 (by decide +kernel) rfl
theorem tw1565 : (Jvm.Cond.code ({ cls := "OneBackModel", name := "deedOf", desc := "(II)I" } : Jvm.MethodName) prog_13_method_55_code (3 : Nat) (Option.some Jvm.ClassFile.FieldType.int)) ∈ GT := GT_t 1565 (by decide +kernel) rfl
theorem tw1566 : (Jvm.Cond.methodLink "OneBackLaw" (53 : Nat) ({ cls := "OneBackModel", name := "stop", desc := "(III)I" } : Jvm.MethodName)) ∈ GT := GT_t 1566 (by decide +kernel) rfl
theorem tw1567 : (Jvm.Cond.instanceMethod ({ cls := "OneBackModel", name := "stop", desc := "(III)I" } : Jvm.MethodName)) ∈ GT := GT_t 1567 (by decide +kernel) rfl
theorem tw1568 : (Jvm.Cond.selects "OneBackModel" ({ cls := "OneBackModel", name := "stop", desc := "(III)I" } : Jvm.MethodName) ({ cls := "OneBackModel", name := "stop", desc := "(III)I" } : Jvm.MethodName)) ∈ GT := GT_t 1568 (by decide +kernel) rfl
theorem tw1569 : (Jvm.Cond.code ({ cls := "OneBackModel", name := "stop", desc := "(III)I" } : Jvm.MethodName) prog_13_method_72_code (4 : Nat) (Option.some Jvm.ClassFile.FieldType.int)) ∈ GT := GT_t 1569 (by decide +kernel) rfl
theorem tw1570 : (Jvm.Cond.methodLink "OneBackModel" (372 : Nat) ({ cls := "OneBackModel", name := "layAll", desc := "(III)Z" } : Jvm.MethodName)) ∈ GT := GT_t 1570 (by decide +kernel) rfl
theorem tw1572 : (Jvm.Cond.instanceMethod ({ cls := "OneBackModel", name := "layAll", desc := "(III)Z" } : Jvm.MethodName)) ∈ GT := GT_t 1572 (by decide +kernel) rfl
theorem tw1573 : (Jvm.Cond.code ({ cls := "OneBackModel", name := "layAll", desc := "(III)Z" } : Jvm.MethodName) prog_13_method_70_code (4 : Nat) (Option.some Jvm.ClassFile.FieldType.boolean)) ∈ GT := GT_t 1573 (by decide +kernel) rfl
theorem tw1574 : (Jvm.Cond.methodLink "OneBackModel" (375 : Nat) ({ cls := "OneBackModel", name := "play", desc := "(I)I" } : Jvm.MethodName)) ∈ GT := GT_t 1574 (by decide +kernel) rfl
theorem tw1576 : (Jvm.Cond.instanceMethod ({ cls := "OneBackModel", name := "play", desc := "(I)I" } : Jvm.MethodName)) ∈ GT := GT_t 1576 (by decide +kernel) rfl
theorem tw1577 : (Jvm.Cond.code ({ cls := "OneBackModel", name := "play", desc := "(I)I" } : Jvm.MethodName) prog_13_method_69_code (3 : Nat) (Option.some Jvm.ClassFile.FieldType.int)) ∈ GT := GT_t 1577 (by decide +kernel) rfl
theorem tw1578 : (Jvm.Cond.methodLink "OneBackModel" (366 : Nat) ({ cls := "OneBackModel", name := "begin", desc := "()V" } : Jvm.MethodName)) ∈ GT := GT_t 1578 (by decide +kernel) rfl
theorem tw1580 : (Jvm.Cond.instanceMethod ({ cls := "OneBackModel", name := "begin", desc := "()V" } : Jvm.MethodName)) ∈ GT := GT_t 1580 (by decide +kernel) rfl
theorem tw1581 : (Jvm.Cond.code ({ cls := "OneBackModel", name := "begin", desc := "()V" } : Jvm.MethodName) prog_13_method_58_code (2 : Nat) (Option.none : Option Jvm.ClassFile.FieldType)) ∈ GT := GT_t 1581 (by decide +kernel) rfl
theorem tw1582 : (Jvm.Cond.methodLink "OneBackModel" (369 : Nat) ({ cls := "OneBackModel", name := "does", desc := "(I)Z" } : Jvm.MethodName)) ∈ GT := GT_t 1582 (by decide +kernel) rfl
theorem tw1584 : (Jvm.Cond.instanceMethod ({ cls := "OneBackModel", name := "does", desc := "(I)Z" } : Jvm.MethodName)) ∈ GT := GT_t 1584 (by decide +kernel) rfl
theorem tw1585 : (Jvm.Cond.code ({ cls := "OneBackModel", name := "does", desc := "(I)Z" } : Jvm.MethodName) prog_13_method_68_code (5 : Nat) (Option.some Jvm.ClassFile.FieldType.boolean)) ∈ GT := GT_t 1585 (by decide +kernel) rfl
theorem tw1586 : (Jvm.Cond.methodLink "OneBackModel" (354 : Nat) ({ cls := "OneBackModel", name := "takes", desc := "(III)Z" } : Jvm.MethodName)) ∈ GT := GT_t 1586 (by decide +kernel) rfl
theorem tw1588 : (Jvm.Cond.instanceMethod ({ cls := "OneBackModel", name := "takes", desc := "(III)Z" } : Jvm.MethodName)) ∈ GT := GT_t 1588 (by decide +kernel) rfl
theorem tw1589 : (Jvm.Cond.code ({ cls := "OneBackModel", name := "takes", desc := "(III)Z" } : Jvm.MethodName) prog_13_method_63_code (4 : Nat) (Option.some Jvm.ClassFile.FieldType.boolean)) ∈ GT := GT_t 1589 (by decide +kernel) rfl
theorem tw1590 : (Jvm.Cond.methodLink "OneBackModel" (341 : Nat) ({ cls := "OneBackModel", name := "isFree", desc := "(I)Z" } : Jvm.MethodName)) ∈ GT := GT_t 1590 (by decide +kernel) rfl
theorem tw1592 : (Jvm.Cond.instanceMethod ({ cls := "OneBackModel", name := "isFree", desc := "(I)Z" } : Jvm.MethodName)) ∈ GT := GT_t 1592 (by decide +kernel) rfl
theorem tw1593 : (Jvm.Cond.code ({ cls := "OneBackModel", name := "isFree", desc := "(I)Z" } : Jvm.MethodName) prog_13_method_60_code (2 : Nat) (Option.some Jvm.ClassFile.FieldType.boolean)) ∈ GT := GT_t 1593 (by decide +kernel) rfl
theorem tw1594 : (Jvm.Cond.methodLink "OneBackModel" (344 : Nat) ({ cls := "OneBackModel", name := "place", desc := "(III)I" } : Jvm.MethodName)) ∈ GT := GT_t 1594 (by decide +kernel) rfl
theorem tw1595 : (Jvm.Cond.static ({ cls := "OneBackModel", name := "place", desc := "(III)I" } : Jvm.MethodName)) ∈ GT := GT_t 1595 (by decide +kernel) rfl
theorem tw1596 : (Jvm.Cond.code ({ cls := "OneBackModel", name := "place", desc := "(III)I" } : Jvm.MethodName) prog_13_method_59_code (3 : Nat) (Option.some Jvm.ClassFile.FieldType.int)) ∈ GT := GT_t 1596 (by decide +kernel) rfl
theorem tw1597 : (Jvm.Cond.methodLink "OneBackModel" (357 : Nat) ({ cls := "OneBackModel", name := "gives", desc := "(III)Z" } : Jvm.MethodName)) ∈ GT := GT_t 1597 (by decide +kernel) rfl
theorem tw1599 : (Jvm.Cond.instanceMethod ({ cls := "OneBackModel", name := "gives", desc := "(III)Z" } : Jvm.MethodName)) ∈ GT := GT_t 1599 (by decide +kernel) rfl
theorem tw1600 : (Jvm.Cond.code ({ cls := "OneBackModel", name := "gives", desc := "(III)Z" } : Jvm.MethodName) prog_13_method_65_code (4 : Nat) (Option.some Jvm.ClassFile.FieldType.boolean)) ∈ GT := GT_t 1600 (by decide +kernel) rfl
theorem tw1601 : (Jvm.Cond.methodLink "OneBackModel" (348 : Nat) ({ cls := "OneBackModel", name := "mayGive", desc := "(III)Z" } : Jvm.MethodName)) ∈ GT := GT_t 1601 (by decide +kernel) rfl
theorem tw1603 : (Jvm.Cond.instanceMethod ({ cls := "OneBackModel", name := "mayGive", desc := "(III)Z" } : Jvm.MethodName)) ∈ GT := GT_t 1603 (by decide +kernel) rfl
theorem tw1604 : (Jvm.Cond.code ({ cls := "OneBackModel", name := "mayGive", desc := "(III)Z" } : Jvm.MethodName) prog_13_method_64_code (4 : Nat) (Option.some Jvm.ClassFile.FieldType.boolean)) ∈ GT := GT_t 1604 (by decide +kernel) rfl
theorem tw1605 : (Jvm.Cond.methodLink "OneBackModel" (360 : Nat) ({ cls := "OneBackModel", name := "sets", desc := "(III)Z" } : Jvm.MethodName)) ∈ GT := GT_t 1605 (by decide +kernel) rfl
theorem tw1607 : (Jvm.Cond.instanceMethod ({ cls := "OneBackModel", name := "sets", desc := "(III)Z" } : Jvm.MethodName)) ∈ GT := GT_t 1607 (by decide +kernel) rfl
theorem tw1608 : (Jvm.Cond.code ({ cls := "OneBackModel", name := "sets", desc := "(III)Z" } : Jvm.MethodName) prog_13_method_66_code (4 : Nat) (Option.some Jvm.ClassFile.FieldType.boolean)) ∈ GT := GT_t 1608 (by decide +kernel) rfl
theorem tw1609 : (Jvm.Cond.methodLink "OneBackModel" (351 : Nat) ({ cls := "OneBackModel", name := "owes", desc := "(I)I" } : Jvm.MethodName)) ∈ GT := GT_t 1609 (by decide +kernel) rfl
theorem tw1611 : (Jvm.Cond.instanceMethod ({ cls := "OneBackModel", name := "owes", desc := "(I)I" } : Jvm.MethodName)) ∈ GT := GT_t 1611 (by decide +kernel) rfl
theorem tw1612 : (Jvm.Cond.code ({ cls := "OneBackModel", name := "owes", desc := "(I)I" } : Jvm.MethodName) prog_13_method_61_code (2 : Nat) (Option.some Jvm.ClassFile.FieldType.int)) ∈ GT := GT_t 1612 (by decide +kernel) rfl
theorem tw1613 : (Jvm.Cond.methodLink "OneBackModel" (363 : Nat) ({ cls := "OneBackModel", name := "ends", desc := "()V" } : Jvm.MethodName)) ∈ GT := GT_t 1613 (by decide +kernel) rfl
theorem tw1615 : (Jvm.Cond.instanceMethod ({ cls := "OneBackModel", name := "ends", desc := "()V" } : Jvm.MethodName)) ∈ GT := GT_t 1615 (by decide +kernel) rfl
theorem tw1616 : (Jvm.Cond.code ({ cls := "OneBackModel", name := "ends", desc := "()V" } : Jvm.MethodName) prog_13_method_67_code (2 : Nat) (Option.none : Option Jvm.ClassFile.FieldType)) ∈ GT := GT_t 1616 (by decide +kernel) rfl
theorem tw1617 : (Jvm.Cond.methodLink "OneBackLaw" (57 : Nat) ({ cls := "OneBackModel", name := "state", desc := "(IIIII)I" } : Jvm.MethodName)) ∈ GT := GT_t 1617 (by decide +kernel) rfl
theorem tw1618 : (Jvm.Cond.instanceMethod ({ cls := "OneBackModel", name := "state", desc := "(IIIII)I" } : Jvm.MethodName)) ∈ GT := GT_t 1618 (by decide +kernel) rfl
theorem tw1619 : (Jvm.Cond.selects "OneBackModel" ({ cls := "OneBackModel", name := "state", desc := "(IIIII)I" } : Jvm.MethodName) ({ cls := "OneBackModel", name := "state", desc := "(IIIII)I" } : Jvm.MethodName)) ∈ GT := GT_t 1619 (by decide +kernel) rfl
theorem tw1620 : (Jvm.Cond.code ({ cls := "OneBackModel", name := "state", desc := "(IIIII)I" } : Jvm.MethodName) prog_13_method_78_code (6 : Nat) (Option.some Jvm.ClassFile.FieldType.int)) ∈ GT := GT_t 1620 (by decide +kernel) rfl
theorem tw1621 : (Jvm.Cond.methodLink "OneBackModel" (390 : Nat) ({ cls := "OneBackModel", name := "layState", desc := "(IIII)Z" } : Jvm.MethodName)) ∈ GT := GT_t 1621 (by decide +kernel) rfl
theorem tw1623 : (Jvm.Cond.instanceMethod ({ cls := "OneBackModel", name := "layState", desc := "(IIII)Z" } : Jvm.MethodName)) ∈ GT := GT_t 1623 (by decide +kernel) rfl
theorem tw1624 : (Jvm.Cond.code ({ cls := "OneBackModel", name := "layState", desc := "(IIII)Z" } : Jvm.MethodName) prog_13_method_71_code (5 : Nat) (Option.some Jvm.ClassFile.FieldType.boolean)) ∈ GT := GT_t 1624 (by decide +kernel) rfl
theorem tw1625 : (Jvm.Cond.methodLink "OneBackModel" (393 : Nat) ({ cls := "OneBackModel", name := "queued", desc := "(I)I" } : Jvm.MethodName)) ∈ GT := GT_t 1625 (by decide +kernel) rfl
theorem tw1627 : (Jvm.Cond.instanceMethod ({ cls := "OneBackModel", name := "queued", desc := "(I)I" } : Jvm.MethodName)) ∈ GT := GT_t 1627 (by decide +kernel) rfl
theorem tw1628 : (Jvm.Cond.code ({ cls := "OneBackModel", name := "queued", desc := "(I)I" } : Jvm.MethodName) prog_13_method_75_code (5 : Nat) (Option.some Jvm.ClassFile.FieldType.int)) ∈ GT := GT_t 1628 (by decide +kernel) rfl
theorem tw1629 : (Jvm.Cond.methodLink "OneBackModel" (378 : Nat) ({ cls := "OneBackModel", name := "odd", desc := "(I)I" } : Jvm.MethodName)) ∈ GT := GT_t 1629 (by decide +kernel) rfl
theorem tw1631 : (Jvm.Cond.instanceMethod ({ cls := "OneBackModel", name := "odd", desc := "(I)I" } : Jvm.MethodName)) ∈ GT := GT_t 1631 (by decide +kernel) rfl
theorem tw1632 : (Jvm.Cond.code ({ cls := "OneBackModel", name := "odd", desc := "(I)I" } : Jvm.MethodName) prog_13_method_62_code (2 : Nat) (Option.some Jvm.ClassFile.FieldType.int)) ∈ GT := GT_t 1632 (by decide +kernel) rfl
theorem tw1633 : (Jvm.Cond.methodLink "OneBackModel" (396 : Nat) ({ cls := "OneBackModel", name := "ofState", desc := "(I)I" } : Jvm.MethodName)) ∈ GT := GT_t 1633 (by decide +kernel) rfl
theorem tw1635 : (Jvm.Cond.instanceMethod ({ cls := "OneBackModel", name := "ofState", desc := "(I)I" } : Jvm.MethodName)) ∈ GT := GT_t 1635 (by decide +kernel) rfl
theorem tw1636 : (Jvm.Cond.code ({ cls := "OneBackModel", name := "ofState", desc := "(I)I" } : Jvm.MethodName) prog_13_method_77_code (2 : Nat) (Option.some Jvm.ClassFile.FieldType.int)) ∈ GT := GT_t 1636 (by decide +kernel) rfl
theorem tw1637 : (Jvm.Cond.methodLink "OneBackModel" (381 : Nat) ({ cls := "OneBackModel", name := "want", desc := "()I" } : Jvm.MethodName)) ∈ GT := GT_t 1637 (by decide +kernel) rfl
theorem tw1639 : (Jvm.Cond.instanceMethod ({ cls := "OneBackModel", name := "want", desc := "()I" } : Jvm.MethodName)) ∈ GT := GT_t 1639 (by decide +kernel) rfl
theorem tw1640 : (Jvm.Cond.code ({ cls := "OneBackModel", name := "want", desc := "()I" } : Jvm.MethodName) prog_13_method_73_code (3 : Nat) (Option.some Jvm.ClassFile.FieldType.int)) ∈ GT := GT_t 1640 (by decide +kernel) rfl
theorem tw1641 : (Jvm.Cond.methodLink "OneBackModel" (384 : Nat) ({ cls := "OneBackModel", name := "pious", desc := "()I" } : Jvm.MethodName)) ∈ GT := GT_t 1641 (by decide +kernel) rfl
theorem tw1643 : (Jvm.Cond.instanceMethod ({ cls := "OneBackModel", name := "pious", desc := "()I" } : Jvm.MethodName)) ∈ GT := GT_t 1643 (by decide +kernel) rfl
theorem tw1644 : (Jvm.Cond.code ({ cls := "OneBackModel", name := "pious", desc := "()I" } : Jvm.MethodName) prog_13_method_74_code (3 : Nat) (Option.some Jvm.ClassFile.FieldType.int)) ∈ GT := GT_t 1644 (by decide +kernel) rfl
theorem tw1645 : (Jvm.Cond.methodLink "OneBackModel" (387 : Nat) ({ cls := "OneBackModel", name := "ofEach", desc := "(I)I" } : Jvm.MethodName)) ∈ GT := GT_t 1645 (by decide +kernel) rfl
theorem tw1647 : (Jvm.Cond.instanceMethod ({ cls := "OneBackModel", name := "ofEach", desc := "(I)I" } : Jvm.MethodName)) ∈ GT := GT_t 1647 (by decide +kernel) rfl
theorem tw1648 : (Jvm.Cond.code ({ cls := "OneBackModel", name := "ofEach", desc := "(I)I" } : Jvm.MethodName) prog_13_method_76_code (3 : Nat) (Option.some Jvm.ClassFile.FieldType.int)) ∈ GT := GT_t 1648 (by decide +kernel) rfl
theorem tw1649 : (Jvm.Cond.methodLink "OneBackLaw" (62 : Nat) ({ cls := "OneBackModel", name := "goods", desc := "(IIIIIII)I" } : Jvm.MethodName)) ∈ GT := GT_t 1649 (by decide +kernel) rfl
theorem tw1650 : (Jvm.Cond.instanceMethod ({ cls := "OneBackModel", name := "goods", desc := "(IIIIIII)I" } : Jvm.MethodName)) ∈ GT := GT_t 1650 (by decide +kernel) rfl
theorem tw1651 : (Jvm.Cond.selects "OneBackModel" ({ cls := "OneBackModel", name := "goods", desc := "(IIIIIII)I" } : Jvm.MethodName) ({ cls := "OneBackModel", name := "goods", desc := "(IIIIIII)I" } : Jvm.MethodName)) ∈ GT := GT_t 1651 (by decide +kernel) rfl
theorem tw1652 : (Jvm.Cond.code ({ cls := "OneBackModel", name := "goods", desc := "(IIIIIII)I" } : Jvm.MethodName) prog_13_method_79_code (8 : Nat) (Option.some Jvm.ClassFile.FieldType.int)) ∈ GT := GT_t 1652 (by decide +kernel) rfl
theorem tw1653 : (Jvm.Cond.methodLink "OneBackLaw" (66 : Nat) ({ cls := "OneBackModel", name := "aid", desc := "(II)I" } : Jvm.MethodName)) ∈ GT := GT_t 1653 (by decide +kernel) rfl
theorem tw1654 : (Jvm.Cond.instanceMethod ({ cls := "OneBackModel", name := "aid", desc := "(II)I" } : Jvm.MethodName)) ∈ GT := GT_t 1654 (by decide +kernel) rfl
theorem tw1655 : (Jvm.Cond.selects "OneBackModel" ({ cls := "OneBackModel", name := "aid", desc := "(II)I" } : Jvm.MethodName) ({ cls := "OneBackModel", name := "aid", desc := "(II)I" } : Jvm.MethodName)) ∈ GT := GT_t 1655 (by decide +kernel) rfl
theorem tw1656 : (Jvm.Cond.code ({ cls := "OneBackModel", name := "aid", desc := "(II)I" } : Jvm.MethodName) prog_13_method_83_code (3 : Nat) (Option.some Jvm.ClassFile.FieldType.int)) ∈ GT := GT_t 1656 (by decide +kernel) rfl
theorem tw1657 : (Jvm.Cond.methodLink "OneBackModel" (411 : Nat) ({ cls := "OneBackModel", name := "findAid", desc := "()Z" } : Jvm.MethodName)) ∈ GT := GT_t 1657 (by decide +kernel) rfl
theorem tw1659 : (Jvm.Cond.instanceMethod ({ cls := "OneBackModel", name := "findAid", desc := "()Z" } : Jvm.MethodName)) ∈ GT := GT_t 1659 (by decide +kernel) rfl
theorem tw1660 : (Jvm.Cond.code ({ cls := "OneBackModel", name := "findAid", desc := "()Z" } : Jvm.MethodName) prog_13_method_81_code (3 : Nat) (Option.some Jvm.ClassFile.FieldType.boolean)) ∈ GT := GT_t 1660 (by decide +kernel) rfl
theorem tw1661 : (Jvm.Cond.methodLink "OneBackModel" (408 : Nat) ({ cls := "OneBackModel", name := "aidGood", desc := "(I)Z" } : Jvm.MethodName)) ∈ GT := GT_t 1661 (by decide +kernel) rfl
theorem tw1663 : (Jvm.Cond.instanceMethod ({ cls := "OneBackModel", name := "aidGood", desc := "(I)Z" } : Jvm.MethodName)) ∈ GT := GT_t 1663 (by decide +kernel) rfl
theorem tw1664 : (Jvm.Cond.code ({ cls := "OneBackModel", name := "aidGood", desc := "(I)Z" } : Jvm.MethodName) prog_13_method_80_code (6 : Nat) (Option.some Jvm.ClassFile.FieldType.boolean)) ∈ GT := GT_t 1664 (by decide +kernel) rfl
theorem tw1665 : (Jvm.Cond.methodLink "OneBackModel" (399 : Nat) ({ cls := "OneBackModel", name := "lesser", desc := "(II)I" } : Jvm.MethodName)) ∈ GT := GT_t 1665 (by decide +kernel) rfl
theorem tw1666 : (Jvm.Cond.static ({ cls := "OneBackModel", name := "lesser", desc := "(II)I" } : Jvm.MethodName)) ∈ GT := GT_t 1666 (by decide +kernel) rfl
theorem tw1667 : (Jvm.Cond.code ({ cls := "OneBackModel", name := "lesser", desc := "(II)I" } : Jvm.MethodName) prog_13_method_6_code (2 : Nat) (Option.some Jvm.ClassFile.FieldType.int)) ∈ GT := GT_t 1667 (by decide +kernel) rfl
theorem tw1668 : (Jvm.Cond.methodLink "OneBackModel" (414 : Nat) ({ cls := "OneBackModel", name := "aidNights", desc := "()I" } : Jvm.MethodName)) ∈ GT := GT_t 1668 (by decide +kernel) rfl
theorem tw1670 : (Jvm.Cond.instanceMethod ({ cls := "OneBackModel", name := "aidNights", desc := "()I" } : Jvm.MethodName)) ∈ GT := GT_t 1670 (by decide +kernel) rfl
theorem tw1671 : (Jvm.Cond.code ({ cls := "OneBackModel", name := "aidNights", desc := "()I" } : Jvm.MethodName) prog_13_method_82_code (3 : Nat) (Option.some Jvm.ClassFile.FieldType.int)) ∈ GT := GT_t 1671 (by decide +kernel) rfl
theorem tw1672 : (Jvm.Cond.methodLink "OneBackLaw" (70 : Nat) ({ cls := "OneBackModel", name := "carry", desc := "(I)I" } : Jvm.MethodName)) ∈ GT := GT_t 1672 (by decide +kernel) rfl
theorem tw1673 : (Jvm.Cond.instanceMethod ({ cls := "OneBackModel", name := "carry", desc := "(I)I" } : Jvm.MethodName)) ∈ GT := GT_t 1673 (by decide +kernel) rfl
theorem tw1674 : (Jvm.Cond.selects "OneBackModel" ({ cls := "OneBackModel", name := "carry", desc := "(I)I" } : Jvm.MethodName) ({ cls := "OneBackModel", name := "carry", desc := "(I)I" } : Jvm.MethodName)) ∈ GT := GT_t 1674 (by decide +kernel) rfl
theorem tw1675 : (Jvm.Cond.code ({ cls := "OneBackModel", name := "carry", desc := "(I)I" } : Jvm.MethodName) prog_13_method_86_code (5 : Nat) (Option.some Jvm.ClassFile.FieldType.int)) ∈ GT := GT_t 1675 (by decide +kernel) rfl
theorem tw1676 : (Jvm.Cond.methodLink "OneBackModel" (423 : Nat) ({ cls := "OneBackModel", name := "carryGood", desc := "(I)I" } : Jvm.MethodName)) ∈ GT := GT_t 1676 (by decide +kernel) rfl
theorem tw1678 : (Jvm.Cond.instanceMethod ({ cls := "OneBackModel", name := "carryGood", desc := "(I)I" } : Jvm.MethodName)) ∈ GT := GT_t 1678 (by decide +kernel) rfl
theorem tw1679 : (Jvm.Cond.code ({ cls := "OneBackModel", name := "carryGood", desc := "(I)I" } : Jvm.MethodName) prog_13_method_85_code (3 : Nat) (Option.some Jvm.ClassFile.FieldType.int)) ∈ GT := GT_t 1679 (by decide +kernel) rfl
theorem tw1680 : (Jvm.Cond.constant "OneBackModel" (417 : Nat) (1000000 : Int32)) ∈ GT := GT_t 1680 (by decide +kernel) rfl
theorem tw1681 : (Jvm.Cond.methodLink "OneBackModel" (420 : Nat) ({ cls := "OneBackModel", name := "carryOn", desc := "(II)V" } : Jvm.MethodName)) ∈ GT := GT_t 1681 (by decide +kernel) rfl
theorem tw1683 : (Jvm.Cond.instanceMethod ({ cls := "OneBackModel", name := "carryOn", desc := "(II)V" } : Jvm.MethodName)) ∈ GT := GT_t 1683 (by decide +kernel) rfl
theorem tw1684 : (Jvm.Cond.code ({ cls := "OneBackModel", name := "carryOn", desc := "(II)V" } : Jvm.MethodName) prog_13_method_84_code (6 : Nat) (Option.none : Option Jvm.ClassFile.FieldType)) ∈ GT := GT_t 1684 (by decide +kernel) rfl
theorem tw1685 : (Jvm.Cond.methodLink "OneBackModel" (418 : Nat) ({ cls := "OneBackModel", name := "size", desc := "(I)I" } : Jvm.MethodName)) ∈ GT := GT_t 1685 (by decide +kernel) rfl
theorem tw1686 : (Jvm.Cond.static ({ cls := "OneBackModel", name := "size", desc := "(I)I" } : Jvm.MethodName)) ∈ GT := GT_t 1686 (by decide +kernel) rfl
theorem tw1687 : (Jvm.Cond.code ({ cls := "OneBackModel", name := "size", desc := "(I)I" } : Jvm.MethodName) prog_13_method_7_code (1 : Nat) (Option.some Jvm.ClassFile.FieldType.int)) ∈ GT := GT_t 1687 (by decide +kernel) rfl
theorem tw1688 : (Jvm.Cond.methodLink "OneBackLaw" (74 : Nat) ({ cls := "OneBackModel", name := "round", desc := "(II)I" } : Jvm.MethodName)) ∈ GT := GT_t 1688 (by decide +kernel) rfl
theorem tw1689 : (Jvm.Cond.instanceMethod ({ cls := "OneBackModel", name := "round", desc := "(II)I" } : Jvm.MethodName)) ∈ GT := GT_t 1689 (by decide +kernel) rfl
theorem tw1690 : (Jvm.Cond.selects "OneBackModel" ({ cls := "OneBackModel", name := "round", desc := "(II)I" } : Jvm.MethodName) ({ cls := "OneBackModel", name := "round", desc := "(II)I" } : Jvm.MethodName)) ∈ GT := GT_t 1690 (by decide +kernel) rfl
theorem tw1691 : (Jvm.Cond.code ({ cls := "OneBackModel", name := "round", desc := "(II)I" } : Jvm.MethodName) prog_13_method_89_code (6 : Nat) (Option.some Jvm.ClassFile.FieldType.int)) ∈ GT := GT_t 1691 (by decide +kernel) rfl
theorem tw1692 : (Jvm.Cond.methodLink "OneBackModel" (426 : Nat) ({ cls := "OneBackModel", name := "roundOf", desc := "(I)I" } : Jvm.MethodName)) ∈ GT := GT_t 1692 (by decide +kernel) rfl
theorem tw1694 : (Jvm.Cond.instanceMethod ({ cls := "OneBackModel", name := "roundOf", desc := "(I)I" } : Jvm.MethodName)) ∈ GT := GT_t 1694 (by decide +kernel) rfl
theorem tw1695 : (Jvm.Cond.code ({ cls := "OneBackModel", name := "roundOf", desc := "(I)I" } : Jvm.MethodName) prog_13_method_87_code (4 : Nat) (Option.some Jvm.ClassFile.FieldType.int)) ∈ GT := GT_t 1695 (by decide +kernel) rfl
theorem tw1696 : (Jvm.Cond.methodLink "OneBackModel" (429 : Nat) ({ cls := "OneBackModel", name := "common", desc := "(II)I" } : Jvm.MethodName)) ∈ GT := GT_t 1696 (by decide +kernel) rfl
theorem tw1697 : (Jvm.Cond.static ({ cls := "OneBackModel", name := "common", desc := "(II)I" } : Jvm.MethodName)) ∈ GT := GT_t 1697 (by decide +kernel) rfl
theorem tw1698 : (Jvm.Cond.code ({ cls := "OneBackModel", name := "common", desc := "(II)I" } : Jvm.MethodName) prog_13_method_88_code (5 : Nat) (Option.some Jvm.ClassFile.FieldType.int)) ∈ GT := GT_t 1698 (by decide +kernel) rfl
theorem tw1699 : (Jvm.Cond.methodLink "OneBackLaw" (78 : Nat) ({ cls := "OneBackModel", name := "meets", desc := "(III)I" } : Jvm.MethodName)) ∈ GT := GT_t 1699 (by decide +kernel) rfl
theorem tw1700 : (Jvm.Cond.instanceMethod ({ cls := "OneBackModel", name := "meets", desc := "(III)I" } : Jvm.MethodName)) ∈ GT := GT_t 1700 (by decide +kernel) rfl
theorem tw1701 : (Jvm.Cond.selects "OneBackModel" ({ cls := "OneBackModel", name := "meets", desc := "(III)I" } : Jvm.MethodName) ({ cls := "OneBackModel", name := "meets", desc := "(III)I" } : Jvm.MethodName)) ∈ GT := GT_t 1701 (by decide +kernel) rfl
theorem tw1702 : (Jvm.Cond.code ({ cls := "OneBackModel", name := "meets", desc := "(III)I" } : Jvm.MethodName) prog_13_method_90_code (7 : Nat) (Option.some Jvm.ClassFile.FieldType.int)) ∈ GT := GT_t 1702 (by decide +kernel) rfl
theorem tw1703 : (Jvm.Cond.methodLink "OneBackLaw" (82 : Nat) ({ cls := "OneBackModel", name := "sight", desc := "(II)I" } : Jvm.MethodName)) ∈ GT := GT_t 1703 (by decide +kernel) rfl
theorem tw1704 : (Jvm.Cond.instanceMethod ({ cls := "OneBackModel", name := "sight", desc := "(II)I" } : Jvm.MethodName)) ∈ GT := GT_t 1704 (by decide +kernel) rfl
theorem tw1705 : (Jvm.Cond.selects "OneBackModel" ({ cls := "OneBackModel", name := "sight", desc := "(II)I" } : Jvm.MethodName) ({ cls := "OneBackModel", name := "sight", desc := "(II)I" } : Jvm.MethodName)) ∈ GT := GT_t 1705 (by decide +kernel) rfl
theorem tw1706 : (Jvm.Cond.code ({ cls := "OneBackModel", name := "sight", desc := "(II)I" } : Jvm.MethodName) prog_13_method_95_code (3 : Nat) (Option.some Jvm.ClassFile.FieldType.int)) ∈ GT := GT_t 1706 (by decide +kernel) rfl
theorem tw1707 : (Jvm.Cond.methodLink "OneBackModel" (435 : Nat) ({ cls := "OneBackModel", name := "hasSight", desc := "(I)Z" } : Jvm.MethodName)) ∈ GT := GT_t 1707 (by decide +kernel) rfl
theorem tw1709 : (Jvm.Cond.instanceMethod ({ cls := "OneBackModel", name := "hasSight", desc := "(I)Z" } : Jvm.MethodName)) ∈ GT := GT_t 1709 (by decide +kernel) rfl
theorem tw1710 : (Jvm.Cond.code ({ cls := "OneBackModel", name := "hasSight", desc := "(I)Z" } : Jvm.MethodName) prog_13_method_94_code (2 : Nat) (Option.some Jvm.ClassFile.FieldType.boolean)) ∈ GT := GT_t 1710 (by decide +kernel) rfl
theorem tw1711 : (Jvm.Cond.methodLink "OneBackModel" (438 : Nat) ({ cls := "OneBackModel", name := "gifts", desc := "()I" } : Jvm.MethodName)) ∈ GT := GT_t 1711 (by decide +kernel) rfl
theorem tw1713 : (Jvm.Cond.instanceMethod ({ cls := "OneBackModel", name := "gifts", desc := "()I" } : Jvm.MethodName)) ∈ GT := GT_t 1713 (by decide +kernel) rfl
theorem tw1714 : (Jvm.Cond.code ({ cls := "OneBackModel", name := "gifts", desc := "()I" } : Jvm.MethodName) prog_13_method_91_code (1 : Nat) (Option.some Jvm.ClassFile.FieldType.int)) ∈ GT := GT_t 1714 (by decide +kernel) rfl
theorem tw1715 : (Jvm.Cond.methodLink "OneBackModel" (441 : Nat) ({ cls := "OneBackModel", name := "giftOf", desc := "(II)I" } : Jvm.MethodName)) ∈ GT := GT_t 1715 (by decide +kernel) rfl
theorem tw1717 : (Jvm.Cond.instanceMethod ({ cls := "OneBackModel", name := "giftOf", desc := "(II)I" } : Jvm.MethodName)) ∈ GT := GT_t 1717 (by decide +kernel) rfl
theorem tw1718 : (Jvm.Cond.code ({ cls := "OneBackModel", name := "giftOf", desc := "(II)I" } : Jvm.MethodName) prog_13_method_92_code (3 : Nat) (Option.some Jvm.ClassFile.FieldType.int)) ∈ GT := GT_t 1718 (by decide +kernel) rfl
theorem tw1719 : (Jvm.Cond.methodLink "OneBackModel" (444 : Nat) ({ cls := "OneBackModel", name := "left", desc := "(II)I" } : Jvm.MethodName)) ∈ GT := GT_t 1719 (by decide +kernel) rfl
theorem tw1721 : (Jvm.Cond.instanceMethod ({ cls := "OneBackModel", name := "left", desc := "(II)I" } : Jvm.MethodName)) ∈ GT := GT_t 1721 (by decide +kernel) rfl
theorem tw1722 : (Jvm.Cond.code ({ cls := "OneBackModel", name := "left", desc := "(II)I" } : Jvm.MethodName) prog_13_method_93_code (3 : Nat) (Option.some Jvm.ClassFile.FieldType.int)) ∈ GT := GT_t 1722 (by decide +kernel) rfl
theorem tw1723 : (Jvm.Cond.methodLink "OneBackLaw" (86 : Nat) ({ cls := "OneBackModel", name := "hands", desc := "(IIIII)I" } : Jvm.MethodName)) ∈ GT := GT_t 1723 (by decide +kernel) rfl
theorem tw1724 : (Jvm.Cond.instanceMethod ({ cls := "OneBackModel", name := "hands", desc := "(IIIII)I" } : Jvm.MethodName)) ∈ GT := GT_t 1724 (by decide +kernel) rfl
theorem tw1725 : (Jvm.Cond.selects "OneBackModel" ({ cls := "OneBackModel", name := "hands", desc := "(IIIII)I" } : Jvm.MethodName) ({ cls := "OneBackModel", name := "hands", desc := "(IIIII)I" } : Jvm.MethodName)) ∈ GT := GT_t 1725 (by decide +kernel) rfl
theorem tw1726 : (Jvm.Cond.code ({ cls := "OneBackModel", name := "hands", desc := "(IIIII)I" } : Jvm.MethodName) prog_13_method_98_code (9 : Nat) (Option.some Jvm.ClassFile.FieldType.int)) ∈ GT := GT_t 1726 (by decide +kernel) rfl
theorem tw1727 : (Jvm.Cond.methodLink "OneBackModel" (450 : Nat) ({ cls := "OneBackModel", name := "canBe", desc := "(I)Z" } : Jvm.MethodName)) ∈ GT := GT_t 1727 (by decide +kernel) rfl
theorem tw1729 : (Jvm.Cond.instanceMethod ({ cls := "OneBackModel", name := "canBe", desc := "(I)Z" } : Jvm.MethodName)) ∈ GT := GT_t 1729 (by decide +kernel) rfl
theorem tw1730 : (Jvm.Cond.code ({ cls := "OneBackModel", name := "canBe", desc := "(I)Z" } : Jvm.MethodName) prog_13_method_97_code (7 : Nat) (Option.some Jvm.ClassFile.FieldType.boolean)) ∈ GT := GT_t 1730 (by decide +kernel) rfl
theorem tw1731 : (Jvm.Cond.methodLink "OneBackModel" (447 : Nat) ({ cls := "OneBackModel", name := "handOf", desc := "(II)I" } : Jvm.MethodName)) ∈ GT := GT_t 1731 (by decide +kernel) rfl
theorem tw1732 : (Jvm.Cond.static ({ cls := "OneBackModel", name := "handOf", desc := "(II)I" } : Jvm.MethodName)) ∈ GT := GT_t 1732 (by decide +kernel) rfl
theorem tw1733 : (Jvm.Cond.code ({ cls := "OneBackModel", name := "handOf", desc := "(II)I" } : Jvm.MethodName) prog_13_method_96_code (2 : Nat) (Option.some Jvm.ClassFile.FieldType.int)) ∈ GT := GT_t 1733 (by decide +kernel) rfl
theorem tw1734 : (Jvm.Cond.methodLink "OneBackLaw" (91 : Nat) ({ cls := "OneBackModel", name := "moved", desc := "(IIZ)I" } : Jvm.MethodName)) ∈ GT := GT_t 1734 (by decide +kernel) rfl
theorem tw1735 : (Jvm.Cond.instanceMethod ({ cls := "OneBackModel", name := "moved", desc := "(IIZ)I" } : Jvm.MethodName)) ∈ GT := GT_t 1735 (by decide +kernel) rfl
theorem tw1736 : (Jvm.Cond.selects "OneBackModel" ({ cls := "OneBackModel", name := "moved", desc := "(IIZ)I" } : Jvm.MethodName) ({ cls := "OneBackModel", name := "moved", desc := "(IIZ)I" } : Jvm.MethodName)) ∈ GT := GT_t 1736 (by decide +kernel) rfl
theorem tw1737 : (Jvm.Cond.code ({ cls := "OneBackModel", name := "moved", desc := "(IIZ)I" } : Jvm.MethodName) prog_13_method_100_code (10 : Nat) (Option.some Jvm.ClassFile.FieldType.int)) ∈ GT := GT_t 1737 (by decide +kernel) rfl
theorem tw1738 : (Jvm.Cond.methodLink "OneBackModel" (453 : Nat) ({ cls := "OneBackModel", name := "isToldAll", desc := "(I)Z" } : Jvm.MethodName)) ∈ GT := GT_t 1738 (by decide +kernel) rfl
theorem tw1740 : (Jvm.Cond.instanceMethod ({ cls := "OneBackModel", name := "isToldAll", desc := "(I)Z" } : Jvm.MethodName)) ∈ GT := GT_t 1740 (by decide +kernel) rfl
theorem tw1741 : (Jvm.Cond.code ({ cls := "OneBackModel", name := "isToldAll", desc := "(I)Z" } : Jvm.MethodName) prog_13_method_99_code (3 : Nat) (Option.some Jvm.ClassFile.FieldType.boolean)) ∈ GT := GT_t 1741 (by decide +kernel) rfl
theorem tw1742 : (Jvm.Cond.methodLink "OneBackLaw" (95 : Nat) ({ cls := "OneBackModel", name := "quit", desc := "(IIIII)I" } : Jvm.MethodName)) ∈ GT := GT_t 1742 (by decide +kernel) rfl
theorem tw1743 : (Jvm.Cond.instanceMethod ({ cls := "OneBackModel", name := "quit", desc := "(IIIII)I" } : Jvm.MethodName)) ∈ GT := GT_t 1743 (by decide +kernel) rfl
theorem tw1744 : (Jvm.Cond.selects "OneBackModel" ({ cls := "OneBackModel", name := "quit", desc := "(IIIII)I" } : Jvm.MethodName) ({ cls := "OneBackModel", name := "quit", desc := "(IIIII)I" } : Jvm.MethodName)) ∈ GT := GT_t 1744 (by decide +kernel) rfl
theorem tw1745 : (Jvm.Cond.code ({ cls := "OneBackModel", name := "quit", desc := "(IIIII)I" } : Jvm.MethodName) prog_13_method_103_code (7 : Nat) (Option.some Jvm.ClassFile.FieldType.int)) ∈ GT := GT_t 1745 (by decide +kernel) rfl
theorem tw1746 : (Jvm.Cond.methodLink "OneBackModel" (459 : Nat) ({ cls := "OneBackModel", name := "giftsBy", desc := "(IIII)I" } : Jvm.MethodName)) ∈ GT := GT_t 1746 (by decide +kernel) rfl
theorem tw1748 : (Jvm.Cond.instanceMethod ({ cls := "OneBackModel", name := "giftsBy", desc := "(IIII)I" } : Jvm.MethodName)) ∈ GT := GT_t 1748 (by decide +kernel) rfl
theorem tw1749 : (Jvm.Cond.code ({ cls := "OneBackModel", name := "giftsBy", desc := "(IIII)I" } : Jvm.MethodName) prog_13_method_102_code (9 : Nat) (Option.some Jvm.ClassFile.FieldType.int)) ∈ GT := GT_t 1749 (by decide +kernel) rfl
theorem tw1750 : (Jvm.Cond.methodLink "OneBackModel" (456 : Nat) ({ cls := "OneBackModel", name := "doubles", desc := "(II)I" } : Jvm.MethodName)) ∈ GT := GT_t 1750 (by decide +kernel) rfl
theorem tw1752 : (Jvm.Cond.instanceMethod ({ cls := "OneBackModel", name := "doubles", desc := "(II)I" } : Jvm.MethodName)) ∈ GT := GT_t 1752 (by decide +kernel) rfl
theorem tw1753 : (Jvm.Cond.code ({ cls := "OneBackModel", name := "doubles", desc := "(II)I" } : Jvm.MethodName) prog_13_method_101_code (5 : Nat) (Option.some Jvm.ClassFile.FieldType.int)) ∈ GT := GT_t 1753 (by decide +kernel) rfl
theorem tw1754 : (Jvm.Cond.methodLink "OneBackLaw" (100 : Nat) ({ cls := "OneBackModel", name := "alms", desc := "(IZ)I" } : Jvm.MethodName)) ∈ GT := GT_t 1754 (by decide +kernel) rfl
theorem tw1755 : (Jvm.Cond.instanceMethod ({ cls := "OneBackModel", name := "alms", desc := "(IZ)I" } : Jvm.MethodName)) ∈ GT := GT_t 1755 (by decide +kernel) rfl
theorem tw1756 : (Jvm.Cond.selects "OneBackModel" ({ cls := "OneBackModel", name := "alms", desc := "(IZ)I" } : Jvm.MethodName) ({ cls := "OneBackModel", name := "alms", desc := "(IZ)I" } : Jvm.MethodName)) ∈ GT := GT_t 1756 (by decide +kernel) rfl
theorem tw1757 : (Jvm.Cond.code ({ cls := "OneBackModel", name := "alms", desc := "(IZ)I" } : Jvm.MethodName) prog_13_method_104_code (5 : Nat) (Option.some Jvm.ClassFile.FieldType.int)) ∈ GT := GT_t 1757 (by decide +kernel) rfl
theorem tw1758 : (Jvm.Cond.methodLink "OneBackLaw" (104 : Nat) ({ cls := "OneBackModel", name := "prize", desc := "(III)I" } : Jvm.MethodName)) ∈ GT := GT_t 1758 (by decide +kernel) rfl
theorem tw1759 : (Jvm.Cond.instanceMethod ({ cls := "OneBackModel", name := "prize", desc := "(III)I" } : Jvm.MethodName)) ∈ GT := GT_t 1759 (by decide +kernel) rfl
theorem tw1760 : (Jvm.Cond.selects "OneBackModel" ({ cls := "OneBackModel", name := "prize", desc := "(III)I" } : Jvm.MethodName) ({ cls := "OneBackModel", name := "prize", desc := "(III)I" } : Jvm.MethodName)) ∈ GT := GT_t 1760 (by decide +kernel) rfl
theorem tw1761 : (Jvm.Cond.code ({ cls := "OneBackModel", name := "prize", desc := "(III)I" } : Jvm.MethodName) prog_13_method_107_code (4 : Nat) (Option.some Jvm.ClassFile.FieldType.int)) ∈ GT := GT_t 1761 (by decide +kernel) rfl
theorem tw1762 : (Jvm.Cond.methodLink "OneBackModel" (466 : Nat) ({ cls := "OneBackModel", name := "prizeOf", desc := "(II)I" } : Jvm.MethodName)) ∈ GT := GT_t 1762 (by decide +kernel) rfl
theorem tw1764 : (Jvm.Cond.instanceMethod ({ cls := "OneBackModel", name := "prizeOf", desc := "(II)I" } : Jvm.MethodName)) ∈ GT := GT_t 1764 (by decide +kernel) rfl
theorem tw1765 : (Jvm.Cond.code ({ cls := "OneBackModel", name := "prizeOf", desc := "(II)I" } : Jvm.MethodName) prog_13_method_106_code (3 : Nat) (Option.some Jvm.ClassFile.FieldType.int)) ∈ GT := GT_t 1765 (by decide +kernel) rfl
theorem tw1766 : (Jvm.Cond.methodLink "OneBackModel" (463 : Nat) ({ cls := "OneBackModel", name := "worthOf", desc := "(I)I" } : Jvm.MethodName)) ∈ GT := GT_t 1766 (by decide +kernel) rfl
theorem tw1768 : (Jvm.Cond.instanceMethod ({ cls := "OneBackModel", name := "worthOf", desc := "(I)I" } : Jvm.MethodName)) ∈ GT := GT_t 1768 (by decide +kernel) rfl
theorem tw1769 : (Jvm.Cond.code ({ cls := "OneBackModel", name := "worthOf", desc := "(I)I" } : Jvm.MethodName) prog_13_method_105_code (4 : Nat) (Option.some Jvm.ClassFile.FieldType.int)) ∈ GT := GT_t 1769 (by decide +kernel) rfl
theorem tw1770 : (Jvm.Cond.methodLink "OneBackLaw" (108 : Nat) ({ cls := "OneBackModel", name := "rest", desc := "(II)I" } : Jvm.MethodName)) ∈ GT := GT_t 1770 (by decide +kernel) rfl
theorem tw1771 : (Jvm.Cond.instanceMethod ({ cls := "OneBackModel", name := "rest", desc := "(II)I" } : Jvm.MethodName)) ∈ GT := GT_t 1771 (by decide +kernel) rfl
theorem tw1772 : (Jvm.Cond.selects "OneBackModel" ({ cls := "OneBackModel", name := "rest", desc := "(II)I" } : Jvm.MethodName) ({ cls := "OneBackModel", name := "rest", desc := "(II)I" } : Jvm.MethodName)) ∈ GT := GT_t 1772 (by decide +kernel) rfl
theorem tw1773 : (Jvm.Cond.code ({ cls := "OneBackModel", name := "rest", desc := "(II)I" } : Jvm.MethodName) prog_13_method_109_code (5 : Nat) (Option.some Jvm.ClassFile.FieldType.int)) ∈ GT := GT_t 1773 (by decide +kernel) rfl
theorem tw1774 : (Jvm.Cond.methodLink "OneBackModel" (469 : Nat) ({ cls := "OneBackModel", name := "isRest", desc := "(II)Z" } : Jvm.MethodName)) ∈ GT := GT_t 1774 (by decide +kernel) rfl
theorem tw1776 : (Jvm.Cond.instanceMethod ({ cls := "OneBackModel", name := "isRest", desc := "(II)Z" } : Jvm.MethodName)) ∈ GT := GT_t 1776 (by decide +kernel) rfl
theorem tw1777 : (Jvm.Cond.code ({ cls := "OneBackModel", name := "isRest", desc := "(II)Z" } : Jvm.MethodName) prog_13_method_108_code (4 : Nat) (Option.some Jvm.ClassFile.FieldType.boolean)) ∈ GT := GT_t 1777 (by decide +kernel) rfl
theorem tw1778 : (Jvm.Cond.methodLink "OneBackLaw" (112 : Nat) ({ cls := "OneBackModel", name := "share", desc := "(IIZ)I" } : Jvm.MethodName)) ∈ GT := GT_t 1778 (by decide +kernel) rfl
theorem tw1779 : (Jvm.Cond.instanceMethod ({ cls := "OneBackModel", name := "share", desc := "(IIZ)I" } : Jvm.MethodName)) ∈ GT := GT_t 1779 (by decide +kernel) rfl
theorem tw1780 : (Jvm.Cond.selects "OneBackModel" ({ cls := "OneBackModel", name := "share", desc := "(IIZ)I" } : Jvm.MethodName) ({ cls := "OneBackModel", name := "share", desc := "(IIZ)I" } : Jvm.MethodName)) ∈ GT := GT_t 1780 (by decide +kernel) rfl
theorem tw1781 : (Jvm.Cond.code ({ cls := "OneBackModel", name := "share", desc := "(IIZ)I" } : Jvm.MethodName) prog_13_method_111_code (6 : Nat) (Option.some Jvm.ClassFile.FieldType.int)) ∈ GT := GT_t 1781 (by decide +kernel) rfl
theorem tw1782 : (Jvm.Cond.methodLink "OneBackModel" (472 : Nat) ({ cls := "OneBackModel", name := "least", desc := "(IIZ)I" } : Jvm.MethodName)) ∈ GT := GT_t 1782 (by decide +kernel) rfl
theorem tw1783 : (Jvm.Cond.static ({ cls := "OneBackModel", name := "least", desc := "(IIZ)I" } : Jvm.MethodName)) ∈ GT := GT_t 1783 (by decide +kernel) rfl
theorem tw1784 : (Jvm.Cond.code ({ cls := "OneBackModel", name := "least", desc := "(IIZ)I" } : Jvm.MethodName) prog_13_method_110_code (3 : Nat) (Option.some Jvm.ClassFile.FieldType.int)) ∈ GT := GT_t 1784 (by decide +kernel) rfl
theorem tw1785 : (Jvm.Cond.methodLink "OneBackLaw" (116 : Nat) ({ cls := "OneBackModel", name := "even", desc := "(II)I" } : Jvm.MethodName)) ∈ GT := GT_t 1785 (by decide +kernel) rfl
theorem tw1786 : (Jvm.Cond.instanceMethod ({ cls := "OneBackModel", name := "even", desc := "(II)I" } : Jvm.MethodName)) ∈ GT := GT_t 1786 (by decide +kernel) rfl
theorem tw1787 : (Jvm.Cond.selects "OneBackModel" ({ cls := "OneBackModel", name := "even", desc := "(II)I" } : Jvm.MethodName) ({ cls := "OneBackModel", name := "even", desc := "(II)I" } : Jvm.MethodName)) ∈ GT := GT_t 1787 (by decide +kernel) rfl
theorem tw1788 : (Jvm.Cond.code ({ cls := "OneBackModel", name := "even", desc := "(II)I" } : Jvm.MethodName) prog_13_method_112_code (10 : Nat) (Option.some Jvm.ClassFile.FieldType.int)) ∈ GT := GT_t 1788 (by decide +kernel) rfl
theorem tw1789 : (Jvm.Cond.methodLink "OneBackLaw" (120 : Nat) ({ cls := "OneBackModel", name := "drawn", desc := "(IIIII)I" } : Jvm.MethodName)) ∈ GT := GT_t 1789 (by decide +kernel) rfl
theorem tw1790 : (Jvm.Cond.instanceMethod ({ cls := "OneBackModel", name := "drawn", desc := "(IIIII)I" } : Jvm.MethodName)) ∈ GT := GT_t 1790 (by decide +kernel) rfl
theorem tw1791 : (Jvm.Cond.selects "OneBackModel" ({ cls := "OneBackModel", name := "drawn", desc := "(IIIII)I" } : Jvm.MethodName) ({ cls := "OneBackModel", name := "drawn", desc := "(IIIII)I" } : Jvm.MethodName)) ∈ GT := GT_t 1791 (by decide +kernel) rfl
theorem tw1792 : (Jvm.Cond.code ({ cls := "OneBackModel", name := "drawn", desc := "(IIIII)I" } : Jvm.MethodName) prog_13_method_116_code (8 : Nat) (Option.some Jvm.ClassFile.FieldType.int)) ∈ GT := GT_t 1792 (by decide +kernel) rfl
theorem tw1793 : (Jvm.Cond.methodLink "OneBackModel" (486 : Nat) ({ cls := "OneBackModel", name := "drawThief", desc := "(I)V" } : Jvm.MethodName)) ∈ GT := GT_t 1793 (by decide +kernel) rfl
theorem tw1795 : (Jvm.Cond.instanceMethod ({ cls := "OneBackModel", name := "drawThief", desc := "(I)V" } : Jvm.MethodName)) ∈ GT := GT_t 1795 (by decide +kernel) rfl
theorem tw1796 : (Jvm.Cond.code ({ cls := "OneBackModel", name := "drawThief", desc := "(I)V" } : Jvm.MethodName) prog_13_method_115_code (4 : Nat) (Option.none : Option Jvm.ClassFile.FieldType)) ∈ GT := GT_t 1796 (by decide +kernel) rfl
theorem tw1797 : (Jvm.Cond.methodLink "OneBackModel" (480 : Nat) ({ cls := "OneBackModel", name := "draw", desc := "(I)I" } : Jvm.MethodName)) ∈ GT := GT_t 1797 (by decide +kernel) rfl
theorem tw1799 : (Jvm.Cond.instanceMethod ({ cls := "OneBackModel", name := "draw", desc := "(I)I" } : Jvm.MethodName)) ∈ GT := GT_t 1799 (by decide +kernel) rfl
theorem tw1800 : (Jvm.Cond.code ({ cls := "OneBackModel", name := "draw", desc := "(I)I" } : Jvm.MethodName) prog_13_method_113_code (2 : Nat) (Option.some Jvm.ClassFile.FieldType.int)) ∈ GT := GT_t 1800 (by decide +kernel) rfl
theorem tw1801 : (Jvm.Cond.constant "OneBackModel" (479 : Nat) (1103515245 : Int32)) ∈ GT := GT_t 1801 (by decide +kernel) rfl
theorem tw1802 : (Jvm.Cond.methodLink "OneBackModel" (483 : Nat) ({ cls := "OneBackModel", name := "givesOne", desc := "(I)Z" } : Jvm.MethodName)) ∈ GT := GT_t 1802 (by decide +kernel) rfl
theorem tw1804 : (Jvm.Cond.instanceMethod ({ cls := "OneBackModel", name := "givesOne", desc := "(I)Z" } : Jvm.MethodName)) ∈ GT := GT_t 1804 (by decide +kernel) rfl
theorem tw1805 : (Jvm.Cond.code ({ cls := "OneBackModel", name := "givesOne", desc := "(I)Z" } : Jvm.MethodName) prog_13_method_114_code (4 : Nat) (Option.some Jvm.ClassFile.FieldType.boolean)) ∈ GT := GT_t 1805 (by decide +kernel) rfl
theorem tw1806 : (Jvm.Cond.methodLink "OneBackLaw" (124 : Nat) ({ cls := "OneBackModel", name := "wealth", desc := "(IIIII)I" } : Jvm.MethodName)) ∈ GT := GT_t 1806 (by decide +kernel) rfl
theorem tw1807 : (Jvm.Cond.instanceMethod ({ cls := "OneBackModel", name := "wealth", desc := "(IIIII)I" } : Jvm.MethodName)) ∈ GT := GT_t 1807 (by decide +kernel) rfl
theorem tw1808 : (Jvm.Cond.selects "OneBackModel" ({ cls := "OneBackModel", name := "wealth", desc := "(IIIII)I" } : Jvm.MethodName) ({ cls := "OneBackModel", name := "wealth", desc := "(IIIII)I" } : Jvm.MethodName)) ∈ GT := GT_t 1808 (by decide +kernel) rfl
theorem tw1809 : (Jvm.Cond.code ({ cls := "OneBackModel", name := "wealth", desc := "(IIIII)I" } : Jvm.MethodName) prog_13_method_125_code (6 : Nat) (Option.some Jvm.ClassFile.FieldType.int)) ∈ GT := GT_t 1809 (by decide +kernel) rfl
theorem tw1810 : (Jvm.Cond.methodLink "OneBackModel" (498 : Nat) ({ cls := "OneBackModel", name := "can", desc := "(I)I" } : Jvm.MethodName)) ∈ GT := GT_t 1810 (by decide +kernel) rfl
theorem tw1812 : (Jvm.Cond.instanceMethod ({ cls := "OneBackModel", name := "can", desc := "(I)I" } : Jvm.MethodName)) ∈ GT := GT_t 1812 (by decide +kernel) rfl
theorem tw1813 : (Jvm.Cond.code ({ cls := "OneBackModel", name := "can", desc := "(I)I" } : Jvm.MethodName) prog_13_method_119_code (6 : Nat) (Option.some Jvm.ClassFile.FieldType.int)) ∈ GT := GT_t 1813 (by decide +kernel) rfl
theorem tw1814 : (Jvm.Cond.methodLink "OneBackModel" (492 : Nat) ({ cls := "OneBackModel", name := "wealthOf", desc := "(I)I" } : Jvm.MethodName)) ∈ GT := GT_t 1814 (by decide +kernel) rfl
theorem tw1816 : (Jvm.Cond.instanceMethod ({ cls := "OneBackModel", name := "wealthOf", desc := "(I)I" } : Jvm.MethodName)) ∈ GT := GT_t 1816 (by decide +kernel) rfl
theorem tw1817 : (Jvm.Cond.code ({ cls := "OneBackModel", name := "wealthOf", desc := "(I)I" } : Jvm.MethodName) prog_13_method_120_code (4 : Nat) (Option.some Jvm.ClassFile.FieldType.int)) ∈ GT := GT_t 1817 (by decide +kernel) rfl
theorem tw1818 : (Jvm.Cond.methodLink "OneBackModel" (495 : Nat) ({ cls := "OneBackModel", name := "ranked", desc := "(I)I" } : Jvm.MethodName)) ∈ GT := GT_t 1818 (by decide +kernel) rfl
theorem tw1820 : (Jvm.Cond.instanceMethod ({ cls := "OneBackModel", name := "ranked", desc := "(I)I" } : Jvm.MethodName)) ∈ GT := GT_t 1820 (by decide +kernel) rfl
theorem tw1821 : (Jvm.Cond.code ({ cls := "OneBackModel", name := "ranked", desc := "(I)I" } : Jvm.MethodName) prog_13_method_121_code (5 : Nat) (Option.some Jvm.ClassFile.FieldType.int)) ∈ GT := GT_t 1821 (by decide +kernel) rfl
theorem tw1822 : (Jvm.Cond.methodLink "OneBackModel" (501 : Nat) ({ cls := "OneBackModel", name := "settle", desc := "()I" } : Jvm.MethodName)) ∈ GT := GT_t 1822 (by decide +kernel) rfl
theorem tw1824 : (Jvm.Cond.instanceMethod ({ cls := "OneBackModel", name := "settle", desc := "()I" } : Jvm.MethodName)) ∈ GT := GT_t 1824 (by decide +kernel) rfl
theorem tw1825 : (Jvm.Cond.code ({ cls := "OneBackModel", name := "settle", desc := "()I" } : Jvm.MethodName) prog_13_method_118_code (7 : Nat) (Option.some Jvm.ClassFile.FieldType.int)) ∈ GT := GT_t 1825 (by decide +kernel) rfl
theorem tw1826 : (Jvm.Cond.methodLink "OneBackModel" (489 : Nat) ({ cls := "OneBackModel", name := "areKin", desc := "(II)Z" } : Jvm.MethodName)) ∈ GT := GT_t 1826 (by decide +kernel) rfl
theorem tw1828 : (Jvm.Cond.instanceMethod ({ cls := "OneBackModel", name := "areKin", desc := "(II)Z" } : Jvm.MethodName)) ∈ GT := GT_t 1828 (by decide +kernel) rfl
theorem tw1829 : (Jvm.Cond.code ({ cls := "OneBackModel", name := "areKin", desc := "(II)Z" } : Jvm.MethodName) prog_13_method_117_code (3 : Nat) (Option.some Jvm.ClassFile.FieldType.boolean)) ∈ GT := GT_t 1829 (by decide +kernel) rfl
theorem tw1830 : (Jvm.Cond.methodLink "OneBackModel" (504 : Nat) ({ cls := "OneBackModel", name := "gap", desc := "()I" } : Jvm.MethodName)) ∈ GT := GT_t 1830 (by decide +kernel) rfl
theorem tw1832 : (Jvm.Cond.instanceMethod ({ cls := "OneBackModel", name := "gap", desc := "()I" } : Jvm.MethodName)) ∈ GT := GT_t 1832 (by decide +kernel) rfl
theorem tw1833 : (Jvm.Cond.code ({ cls := "OneBackModel", name := "gap", desc := "()I" } : Jvm.MethodName) prog_13_method_122_code (1 : Nat) (Option.some Jvm.ClassFile.FieldType.int)) ∈ GT := GT_t 1833 (by decide +kernel) rfl
theorem tw1834 : (Jvm.Cond.methodLink "OneBackModel" (507 : Nat) ({ cls := "OneBackModel", name := "unlike", desc := "(Z)I" } : Jvm.MethodName)) ∈ GT := GT_t 1834 (by decide +kernel) rfl
theorem tw1836 : (Jvm.Cond.instanceMethod ({ cls := "OneBackModel", name := "unlike", desc := "(Z)I" } : Jvm.MethodName)) ∈ GT := GT_t 1836 (by decide +kernel) rfl
theorem tw1837 : (Jvm.Cond.code ({ cls := "OneBackModel", name := "unlike", desc := "(Z)I" } : Jvm.MethodName) prog_13_method_123_code (6 : Nat) (Option.some Jvm.ClassFile.FieldType.int)) ∈ GT := GT_t 1837 (by decide +kernel) rfl
theorem tw1838 : (Jvm.Cond.methodLink "OneBackModel" (511 : Nat) ({ cls := "OneBackModel", name := "robbed", desc := "()I" } : Jvm.MethodName)) ∈ GT := GT_t 1838 (by decide +kernel) rfl
theorem tw1840 : (Jvm.Cond.instanceMethod ({ cls := "OneBackModel", name := "robbed", desc := "()I" } : Jvm.MethodName)) ∈ GT := GT_t 1840 (by decide +kernel) rfl
theorem tw1841 : (Jvm.Cond.code ({ cls := "OneBackModel", name := "robbed", desc := "()I" } : Jvm.MethodName) prog_13_method_124_code (7 : Nat) (Option.some Jvm.ClassFile.FieldType.int)) ∈ GT := GT_t 1841 (by decide +kernel) rfl
theorem tw1842 : (Jvm.Cond.methodLink "OneBackLaw" (128 : Nat) ({ cls := "OneBackModel", name := "haul", desc := "(IIIII)I" } : Jvm.MethodName)) ∈ GT := GT_t 1842 (by decide +kernel) rfl
theorem tw1843 : (Jvm.Cond.instanceMethod ({ cls := "OneBackModel", name := "haul", desc := "(IIIII)I" } : Jvm.MethodName)) ∈ GT := GT_t 1843 (by decide +kernel) rfl
theorem tw1844 : (Jvm.Cond.selects "OneBackModel" ({ cls := "OneBackModel", name := "haul", desc := "(IIIII)I" } : Jvm.MethodName) ({ cls := "OneBackModel", name := "haul", desc := "(IIIII)I" } : Jvm.MethodName)) ∈ GT := GT_t 1844 (by decide +kernel) rfl
theorem tw1845 : (Jvm.Cond.code ({ cls := "OneBackModel", name := "haul", desc := "(IIIII)I" } : Jvm.MethodName) prog_13_method_128_code (10 : Nat) (Option.some Jvm.ClassFile.FieldType.int)) ∈ GT := GT_t 1845 (by decide +kernel) rfl
theorem tw1846 : (Jvm.Cond.constant "OneBackModel" (514 : Nat) (99999 : Int32)) ∈ GT := GT_t 1846 (by decide +kernel) rfl
theorem tw1847 : (Jvm.Cond.methodLink "OneBackModel" (515 : Nat) ({ cls := "OneBackModel", name := "haulWorth", desc := "(IIII)I" } : Jvm.MethodName)) ∈ GT := GT_t 1847 (by decide +kernel) rfl
theorem tw1849 : (Jvm.Cond.instanceMethod ({ cls := "OneBackModel", name := "haulWorth", desc := "(IIII)I" } : Jvm.MethodName)) ∈ GT := GT_t 1849 (by decide +kernel) rfl
theorem tw1850 : (Jvm.Cond.code ({ cls := "OneBackModel", name := "haulWorth", desc := "(IIII)I" } : Jvm.MethodName) prog_13_method_127_code (11 : Nat) (Option.some Jvm.ClassFile.FieldType.int)) ∈ GT := GT_t 1850 (by decide +kernel) rfl
theorem tw1851 : (Jvm.Cond.methodLink "OneBackModel" (518 : Nat) ({ cls := "OneBackModel", name := "figure", desc := "(II)I" } : Jvm.MethodName)) ∈ GT := GT_t 1851 (by decide +kernel) rfl
theorem tw1852 : (Jvm.Cond.static ({ cls := "OneBackModel", name := "figure", desc := "(II)I" } : Jvm.MethodName)) ∈ GT := GT_t 1852 (by decide +kernel) rfl
theorem tw1853 : (Jvm.Cond.code ({ cls := "OneBackModel", name := "figure", desc := "(II)I" } : Jvm.MethodName) prog_13_method_126_code (4 : Nat) (Option.some Jvm.ClassFile.FieldType.int)) ∈ GT := GT_t 1853 (by decide +kernel) rfl
theorem tw1854 : (Jvm.Cond.methodLink "OneBackLaw" (132 : Nat) ({ cls := "OneBackModel", name := "crew", desc := "(IIZ)I" } : Jvm.MethodName)) ∈ GT := GT_t 1854 (by decide +kernel) rfl
theorem tw1855 : (Jvm.Cond.instanceMethod ({ cls := "OneBackModel", name := "crew", desc := "(IIZ)I" } : Jvm.MethodName)) ∈ GT := GT_t 1855 (by decide +kernel) rfl
theorem tw1856 : (Jvm.Cond.selects "OneBackModel" ({ cls := "OneBackModel", name := "crew", desc := "(IIZ)I" } : Jvm.MethodName) ({ cls := "OneBackModel", name := "crew", desc := "(IIZ)I" } : Jvm.MethodName)) ∈ GT := GT_t 1856 (by decide +kernel) rfl
theorem tw1857 : (Jvm.Cond.code ({ cls := "OneBackModel", name := "crew", desc := "(IIZ)I" } : Jvm.MethodName) prog_13_method_131_code (6 : Nat) (Option.some Jvm.ClassFile.FieldType.int)) ∈ GT := GT_t 1857 (by decide +kernel) rfl
theorem tw1858 : (Jvm.Cond.methodLink "OneBackModel" (521 : Nat) ({ cls := "OneBackModel", name := "limits", desc := "(I)I" } : Jvm.MethodName)) ∈ GT := GT_t 1858 (by decide +kernel) rfl
theorem tw1860 : (Jvm.Cond.instanceMethod ({ cls := "OneBackModel", name := "limits", desc := "(I)I" } : Jvm.MethodName)) ∈ GT := GT_t 1860 (by decide +kernel) rfl
theorem tw1861 : (Jvm.Cond.code ({ cls := "OneBackModel", name := "limits", desc := "(I)I" } : Jvm.MethodName) prog_13_method_129_code (4 : Nat) (Option.some Jvm.ClassFile.FieldType.int)) ∈ GT := GT_t 1861 (by decide +kernel) rfl
theorem tw1862 : (Jvm.Cond.methodLink "OneBackModel" (524 : Nat) ({ cls := "OneBackModel", name := "heads", desc := "(I)I" } : Jvm.MethodName)) ∈ GT := GT_t 1862 (by decide +kernel) rfl
theorem tw1864 : (Jvm.Cond.instanceMethod ({ cls := "OneBackModel", name := "heads", desc := "(I)I" } : Jvm.MethodName)) ∈ GT := GT_t 1864 (by decide +kernel) rfl
theorem tw1865 : (Jvm.Cond.code ({ cls := "OneBackModel", name := "heads", desc := "(I)I" } : Jvm.MethodName) prog_13_method_130_code (4 : Nat) (Option.some Jvm.ClassFile.FieldType.int)) ∈ GT := GT_t 1865 (by decide +kernel) rfl
theorem tw1866 : (Jvm.Cond.methodLink "OneBackLaw" (136 : Nat) ({ cls := "OneBackModel", name := "pairs", desc := "(II)I" } : Jvm.MethodName)) ∈ GT := GT_t 1866 (by decide +kernel) rfl
theorem tw1867 : (Jvm.Cond.instanceMethod ({ cls := "OneBackModel", name := "pairs", desc := "(II)I" } : Jvm.MethodName)) ∈ GT := GT_t 1867 (by decide +kernel) rfl
theorem tw1868 : (Jvm.Cond.selects "OneBackModel" ({ cls := "OneBackModel", name := "pairs", desc := "(II)I" } : Jvm.MethodName) ({ cls := "OneBackModel", name := "pairs", desc := "(II)I" } : Jvm.MethodName)) ∈ GT := GT_t 1868 (by decide +kernel) rfl
theorem tw1869 : (Jvm.Cond.code ({ cls := "OneBackModel", name := "pairs", desc := "(II)I" } : Jvm.MethodName) prog_13_method_133_code (7 : Nat) (Option.some Jvm.ClassFile.FieldType.int)) ∈ GT := GT_t 1869 (by decide +kernel) rfl
theorem tw1870 : (Jvm.Cond.methodLink "OneBackModel" (527 : Nat) ({ cls := "OneBackModel", name := "helps", desc := "(II)Z" } : Jvm.MethodName)) ∈ GT := GT_t 1870 (by decide +kernel) rfl
theorem tw1872 : (Jvm.Cond.instanceMethod ({ cls := "OneBackModel", name := "helps", desc := "(II)Z" } : Jvm.MethodName)) ∈ GT := GT_t 1872 (by decide +kernel) rfl
theorem tw1873 : (Jvm.Cond.code ({ cls := "OneBackModel", name := "helps", desc := "(II)Z" } : Jvm.MethodName) prog_13_method_132_code (4 : Nat) (Option.some Jvm.ClassFile.FieldType.boolean)) ∈ GT := GT_t 1873 (by decide +kernel) rfl
theorem tw1874 : (Jvm.Cond.methodLink "OneBackLaw" (140 : Nat) ({ cls := "OneBackModel", name := "count", desc := "(I)I" } : Jvm.MethodName)) ∈ GT := GT_t 1874 (by decide +kernel) rfl
theorem tw1875 : (Jvm.Cond.instanceMethod ({ cls := "OneBackModel", name := "count", desc := "(I)I" } : Jvm.MethodName)) ∈ GT := GT_t 1875 (by decide +kernel) rfl
theorem tw1876 : (Jvm.Cond.selects "OneBackModel" ({ cls := "OneBackModel", name := "count", desc := "(I)I" } : Jvm.MethodName) ({ cls := "OneBackModel", name := "count", desc := "(I)I" } : Jvm.MethodName)) ∈ GT := GT_t 1876 (by decide +kernel) rfl
theorem tw1877 : (Jvm.Cond.code ({ cls := "OneBackModel", name := "count", desc := "(I)I" } : Jvm.MethodName) prog_13_method_134_code (2 : Nat) (Option.some Jvm.ClassFile.FieldType.int)) ∈ GT := GT_t 1877 (by decide +kernel) rfl
theorem tw1878 : (Jvm.Cond.methodLink "OneBackLaw" (145 : Nat) ({ cls := "OneBackModel", name := "image", desc := "(I)Z" } : Jvm.MethodName)) ∈ GT := GT_t 1878 (by decide +kernel) rfl
theorem tw1879 : (Jvm.Cond.instanceMethod ({ cls := "OneBackModel", name := "image", desc := "(I)Z" } : Jvm.MethodName)) ∈ GT := GT_t 1879 (by decide +kernel) rfl
theorem tw1880 : (Jvm.Cond.selects "OneBackModel" ({ cls := "OneBackModel", name := "image", desc := "(I)Z" } : Jvm.MethodName) ({ cls := "OneBackModel", name := "image", desc := "(I)Z" } : Jvm.MethodName)) ∈ GT := GT_t 1880 (by decide +kernel) rfl
theorem tw1881 : (Jvm.Cond.code ({ cls := "OneBackModel", name := "image", desc := "(I)Z" } : Jvm.MethodName) prog_13_method_135_code (2 : Nat) (Option.some Jvm.ClassFile.FieldType.boolean)) ∈ GT := GT_t 1881 (by decide +kernel) rfl
theorem tw1882 : (Jvm.Cond.methodLink "OneBackModel" (530 : Nat) ({ cls := "OneBackModel", name := "copyAll", desc := "(II)V" } : Jvm.MethodName)) ∈ GT := GT_t 1882 (by decide +kernel) rfl
theorem tw1884 : (Jvm.Cond.instanceMethod ({ cls := "OneBackModel", name := "copyAll", desc := "(II)V" } : Jvm.MethodName)) ∈ GT := GT_t 1884 (by decide +kernel) rfl
theorem tw1885 : (Jvm.Cond.code ({ cls := "OneBackModel", name := "copyAll", desc := "(II)V" } : Jvm.MethodName) prog_13_method_9_code (4 : Nat) (Option.none : Option Jvm.ClassFile.FieldType)) ∈ GT := GT_t 1885 (by decide +kernel) rfl
theorem tw1886 : (Jvm.Cond.methodLink "OneBackModel" (94 : Nat) ({ cls := "OneBackModel", name := "copyRow", desc := "([IIII)V" } : Jvm.MethodName)) ∈ GT := GT_t 1886 (by decide +kernel) rfl
theorem tw1887 : (Jvm.Cond.static ({ cls := "OneBackModel", name := "copyRow", desc := "([IIII)V" } : Jvm.MethodName)) ∈ GT := GT_t 1887 (by decide +kernel) rfl
theorem tw1888 : (Jvm.Cond.code ({ cls := "OneBackModel", name := "copyRow", desc := "([IIII)V" } : Jvm.MethodName) prog_13_method_8_code (5 : Nat) (Option.none : Option Jvm.ClassFile.FieldType)) ∈ GT := GT_t 1888 (by decide +kernel) rfl
theorem tw1889 : (Jvm.Cond.methodLink "OneBackLaw" (149 : Nat) ({ cls := "OneBackModel", name := "again", desc := "(I)Z" } : Jvm.MethodName)) ∈ GT := GT_t 1889 (by decide +kernel) rfl
theorem tw1890 : (Jvm.Cond.instanceMethod ({ cls := "OneBackModel", name := "again", desc := "(I)Z" } : Jvm.MethodName)) ∈ GT := GT_t 1890 (by decide +kernel) rfl
theorem tw1891 : (Jvm.Cond.selects "OneBackModel" ({ cls := "OneBackModel", name := "again", desc := "(I)Z" } : Jvm.MethodName) ({ cls := "OneBackModel", name := "again", desc := "(I)Z" } : Jvm.MethodName)) ∈ GT := GT_t 1891 (by decide +kernel) rfl
theorem tw1892 : (Jvm.Cond.code ({ cls := "OneBackModel", name := "again", desc := "(I)Z" } : Jvm.MethodName) prog_13_method_136_code (2 : Nat) (Option.some Jvm.ClassFile.FieldType.boolean)) ∈ GT := GT_t 1892 (by decide +kernel) rfl
theorem tw1893 : (Jvm.Cond.fieldLink "java/lang/String" (9 : Nat) "java/lang/String" "value" "[B") ∈ GT := GT_t 1893 (by decide +kernel) rfl
theorem tw1894 : (Jvm.Cond.fieldLink "java/lang/String" (15 : Nat) "java/lang/String" "coder" "B") ∈ GT := GT_t 1894 (by decide +kernel) rfl
theorem tp0 : Cond.selects "OneBack$Reader" ⟨"OneBack$Reader", "begin", "([BI)V"⟩ ⟨"OneBack$Reader", "begin", "([BI)V"⟩ ∈ GT := GT_p (q := (⟨"OneBack$Reader", "begin", "([BI)V"⟩, 16)) 0 (by decide +kernel)
theorem tp1 : Cond.selects "OneBack$Reader" ⟨"OneBack$Reader", "step", "()V"⟩ ⟨"OneBack$Reader", "step", "()V"⟩ ∈ GT := GT_p (q := (⟨"OneBack$Reader", "step", "()V"⟩, 16)) 1 (by decide +kernel)
theorem tp2 : Cond.selects "OneBack$Reader" ⟨"OneBack$Reader", "byteAt", "(I)I"⟩ ⟨"OneBack$Reader", "byteAt", "(I)I"⟩ ∈ GT := GT_p (q := (⟨"OneBack$Reader", "byteAt", "(I)I"⟩, 16)) 2 (by decide +kernel)
theorem tp3 : Cond.selects "OneBack$Reader" ⟨"OneBack$Reader", "stepNumber", "()V"⟩ ⟨"OneBack$Reader", "stepNumber", "()V"⟩ ∈ GT := GT_p (q := (⟨"OneBack$Reader", "stepNumber", "()V"⟩, 16)) 3 (by decide +kernel)
theorem tp4 : Cond.selects "OneBack$Reader" ⟨"OneBack$Reader", "readLine", "(I)V"⟩ ⟨"OneBack$Reader", "readLine", "(I)V"⟩ ∈ GT := GT_p (q := (⟨"OneBack$Reader", "readLine", "(I)V"⟩, 16)) 4 (by decide +kernel)
theorem tp5 : Cond.selects "OneBack$Reader" ⟨"OneBack$Reader", "lineOf", "(I)I"⟩ ⟨"OneBack$Reader", "lineOf", "(I)I"⟩ ∈ GT := GT_p (q := (⟨"OneBack$Reader", "lineOf", "(I)I"⟩, 16)) 5 (by decide +kernel)
theorem tp6 : Cond.selects "OneBack$Reader" ⟨"OneBack$Reader", "isWord", "(Ljava/lang/String;)Z"⟩ ⟨"OneBack$Reader", "isWord", "(Ljava/lang/String;)Z"⟩ ∈ GT := GT_p (q := (⟨"OneBack$Reader", "isWord", "(Ljava/lang/String;)Z"⟩, 16)) 6 (by decide +kernel)
theorem tp7 : Cond.selects "OneBack$Reader" ⟨"OneBack$Reader", "breakOff", "()V"⟩ ⟨"OneBack$Reader", "breakOff", "()V"⟩ ∈ GT := GT_p (q := (⟨"OneBack$Reader", "breakOff", "()V"⟩, 16)) 7 (by decide +kernel)
theorem tp8 : Cond.selects "OneBack$Reader" ⟨"OneBack$Reader", "isFull", "(I)Z"⟩ ⟨"OneBack$Reader", "isFull", "(I)Z"⟩ ∈ GT := GT_p (q := (⟨"OneBack$Reader", "isFull", "(I)Z"⟩, 16)) 8 (by decide +kernel)
theorem tp9 : Cond.selects "OneBack$Reader" ⟨"OneBack$Reader", "note", "(II)V"⟩ ⟨"OneBack$Reader", "note", "(II)V"⟩ ∈ GT := GT_p (q := (⟨"OneBack$Reader", "note", "(II)V"⟩, 16)) 9 (by decide +kernel)
theorem tp10 : Cond.selects "OneBack$Reader" ⟨"OneBack$Reader", "readNumber", "(II)V"⟩ ⟨"OneBack$Reader", "readNumber", "(II)V"⟩ ∈ GT := GT_p (q := (⟨"OneBack$Reader", "readNumber", "(II)V"⟩, 16)) 10 (by decide +kernel)
theorem tp11 : Cond.selects "OneBack$Reader" ⟨"OneBack$Reader", "keepLine", "(I)V"⟩ ⟨"OneBack$Reader", "keepLine", "(I)V"⟩ ∈ GT := GT_p (q := (⟨"OneBack$Reader", "keepLine", "(I)V"⟩, 16)) 11 (by decide +kernel)
theorem tp12 : Cond.selects "OneBack$Reader" ⟨"OneBack$Reader", "keepTown", "(I)V"⟩ ⟨"OneBack$Reader", "keepTown", "(I)V"⟩ ∈ GT := GT_p (q := (⟨"OneBack$Reader", "keepTown", "(I)V"⟩, 16)) 12 (by decide +kernel)
theorem tp13 : Cond.selects "OneBack$Reader" ⟨"OneBack$Reader", "keepLaw", "(I)V"⟩ ⟨"OneBack$Reader", "keepLaw", "(I)V"⟩ ∈ GT := GT_p (q := (⟨"OneBack$Reader", "keepLaw", "(I)V"⟩, 16)) 13 (by decide +kernel)
theorem tp14 : Cond.selects "OneBack" ⟨"OneBack", "walkTo", "(IIII)Z"⟩ ⟨"OneBack", "walkTo", "(IIII)Z"⟩ ∈ GT := GT_p (q := (⟨"OneBack", "walkTo", "(IIII)Z"⟩, 6)) 14 (by decide +kernel)
theorem tp15 : Cond.selects "OneBack$Walk" ⟨"OneBack$Walk", "act", "(LOneBack$Nights;I)Z"⟩ ⟨"OneBack$Walk", "act", "(LOneBack$Nights;I)Z"⟩ ∈ GT := GT_p (q := (⟨"OneBack$Walk", "act", "(LOneBack$Nights;I)Z"⟩, 17)) 15 (by decide +kernel)
theorem tp16 : Cond.selects "OneBack" ⟨"OneBack", "walkJust", "(IIII)Z"⟩ ⟨"OneBack", "walkJust", "(IIII)Z"⟩ ∈ GT := GT_p (q := (⟨"OneBack", "walkJust", "(IIII)Z"⟩, 6)) 16 (by decide +kernel)
theorem tp17 : Cond.selects "OneBack$Supply" ⟨"OneBack$Supply", "carryGood", "(LOneBack$Town;I)I"⟩ ⟨"OneBack$Supply", "carryGood", "(LOneBack$Town;I)I"⟩ ∈ GT := GT_p (q := (⟨"OneBack$Supply", "carryGood", "(LOneBack$Town;I)I"⟩, 2)) 17 (by decide +kernel)
theorem tp18 : Cond.selects "OneBack$Supply" ⟨"OneBack$Supply", "leastOf", "(II)I"⟩ ⟨"OneBack$Supply", "leastOf", "(II)I"⟩ ∈ GT := GT_p (q := (⟨"OneBack$Supply", "leastOf", "(II)I"⟩, 2)) 18 (by decide +kernel)
theorem tp19 : Cond.selects "OneBack$Sight" ⟨"OneBack$Sight", "alike", "(III)I"⟩ ⟨"OneBack$Sight", "alike", "(III)I"⟩ ∈ GT := GT_p (q := (⟨"OneBack$Sight", "alike", "(III)I"⟩, 4)) 19 (by decide +kernel)
theorem tp20 : Cond.selects "OneBack$Sight" ⟨"OneBack$Sight", "isTold", "(LOneBack$Town;I)Z"⟩ ⟨"OneBack$Sight", "isTold", "(LOneBack$Town;I)Z"⟩ ∈ GT := GT_p (q := (⟨"OneBack$Sight", "isTold", "(LOneBack$Town;I)Z"⟩, 4)) 20 (by decide +kernel)
theorem tp21 : Cond.selects "OneBack$Sight" ⟨"OneBack$Sight", "movedOf", "(LOneBack$Town;IZ)I"⟩ ⟨"OneBack$Sight", "movedOf", "(LOneBack$Town;IZ)I"⟩ ∈ GT := GT_p (q := (⟨"OneBack$Sight", "movedOf", "(LOneBack$Town;IZ)I"⟩, 4)) 21 (by decide +kernel)
theorem tp22 : Cond.selects "OneBack$Town" ⟨"OneBack$Town", "isBest", "(II)Z"⟩ ⟨"OneBack$Town", "isBest", "(II)Z"⟩ ∈ GT := GT_p (q := (⟨"OneBack$Town", "isBest", "(II)Z"⟩, 10)) 22 (by decide +kernel)
theorem tp23 : Cond.selects "OneBack$Walk" ⟨"OneBack$Walk", "drawDeeds", "(I)V"⟩ ⟨"OneBack$Walk", "drawDeeds", "(I)V"⟩ ∈ GT := GT_p (q := (⟨"OneBack$Walk", "drawDeeds", "(I)V"⟩, 17)) 23 (by decide +kernel)
theorem tp24 : Cond.selects "OneBack$Walk" ⟨"OneBack$Walk", "drawBelow", "(I)I"⟩ ⟨"OneBack$Walk", "drawBelow", "(I)I"⟩ ∈ GT := GT_p (q := (⟨"OneBack$Walk", "drawBelow", "(I)I"⟩, 17)) 24 (by decide +kernel)
theorem tp25 : Cond.selects "OneBack$Walk" ⟨"OneBack$Walk", "giveLeast", "(I)Z"⟩ ⟨"OneBack$Walk", "giveLeast", "(I)Z"⟩ ∈ GT := GT_p (q := (⟨"OneBack$Walk", "giveLeast", "(I)Z"⟩, 17)) 25 (by decide +kernel)
theorem tp26 : Cond.selects "OneBack$Porter" ⟨"OneBack$Porter", "keepBetter", "(I)V"⟩ ⟨"OneBack$Porter", "keepBetter", "(I)V"⟩ ∈ GT := GT_p (q := (⟨"OneBack$Porter", "keepBetter", "(I)V"⟩, 5)) 26 (by decide +kernel)
theorem tp27 : Cond.selects "OneBackModel" ⟨"OneBackModel", "four", "(I)V"⟩ ⟨"OneBackModel", "four", "(I)V"⟩ ∈ GT := GT_p (q := (⟨"OneBackModel", "four", "(I)V"⟩, 51)) 27 (by decide +kernel)
theorem tp28 : Cond.selects "OneBackModel" ⟨"OneBackModel", "is", "(II)Z"⟩ ⟨"OneBackModel", "is", "(II)Z"⟩ ∈ GT := GT_p (q := (⟨"OneBackModel", "is", "(II)Z"⟩, 51)) 28 (by decide +kernel)
theorem tp29 : Cond.selects "OneBackModel" ⟨"OneBackModel", "readText", "(I)Z"⟩ ⟨"OneBackModel", "readText", "(I)Z"⟩ ∈ GT := GT_p (q := (⟨"OneBackModel", "readText", "(I)Z"⟩, 51)) 29 (by decide +kernel)
theorem tp30 : Cond.selects "OneBackModel" ⟨"OneBackModel", "blank", "(I)V"⟩ ⟨"OneBackModel", "blank", "(I)V"⟩ ∈ GT := GT_p (q := (⟨"OneBackModel", "blank", "(I)V"⟩, 51)) 30 (by decide +kernel)
theorem tp31 : Cond.selects "OneBackModel" ⟨"OneBackModel", "blankTown", "()V"⟩ ⟨"OneBackModel", "blankTown", "()V"⟩ ∈ GT := GT_p (q := (⟨"OneBackModel", "blankTown", "()V"⟩, 51)) 31 (by decide +kernel)
theorem tp32 : Cond.selects "OneBackModel" ⟨"OneBackModel", "token", "()V"⟩ ⟨"OneBackModel", "token", "()V"⟩ ∈ GT := GT_p (q := (⟨"OneBackModel", "token", "()V"⟩, 51)) 32 (by decide +kernel)
theorem tp33 : Cond.selects "OneBackModel" ⟨"OneBackModel", "see", "()I"⟩ ⟨"OneBackModel", "see", "()I"⟩ ∈ GT := GT_p (q := (⟨"OneBackModel", "see", "()I"⟩, 51)) 33 (by decide +kernel)
theorem tp34 : Cond.selects "OneBackModel" ⟨"OneBackModel", "lines", "(I)Z"⟩ ⟨"OneBackModel", "lines", "(I)Z"⟩ ∈ GT := GT_p (q := (⟨"OneBackModel", "lines", "(I)Z"⟩, 51)) 34 (by decide +kernel)
theorem tp35 : Cond.selects "OneBackModel" ⟨"OneBackModel", "lineOf", "(IJI)Z"⟩ ⟨"OneBackModel", "lineOf", "(IJI)Z"⟩ ∈ GT := GT_p (q := (⟨"OneBackModel", "lineOf", "(IJI)Z"⟩, 51)) 35 (by decide +kernel)
theorem tp36 : Cond.selects "OneBackModel" ⟨"OneBackModel", "townLine", "(JI)Z"⟩ ⟨"OneBackModel", "townLine", "(JI)Z"⟩ ∈ GT := GT_p (q := (⟨"OneBackModel", "townLine", "(JI)Z"⟩, 51)) 36 (by decide +kernel)
theorem tp37 : Cond.selects "OneBackModel" ⟨"OneBackModel", "fails", "()Z"⟩ ⟨"OneBackModel", "fails", "()Z"⟩ ∈ GT := GT_p (q := (⟨"OneBackModel", "fails", "()Z"⟩, 51)) 37 (by decide +kernel)
theorem tp38 : Cond.selects "OneBackModel" ⟨"OneBackModel", "full", "(III)V"⟩ ⟨"OneBackModel", "full", "(III)V"⟩ ∈ GT := GT_p (q := (⟨"OneBackModel", "full", "(III)V"⟩, 51)) 38 (by decide +kernel)
theorem tp39 : Cond.selects "OneBackModel" ⟨"OneBackModel", "later", "(II)V"⟩ ⟨"OneBackModel", "later", "(II)V"⟩ ∈ GT := GT_p (q := (⟨"OneBackModel", "later", "(II)V"⟩, 51)) 39 (by decide +kernel)
theorem tp40 : Cond.selects "OneBackModel" ⟨"OneBackModel", "goodsLine", "(I)Z"⟩ ⟨"OneBackModel", "goodsLine", "(I)Z"⟩ ∈ GT := GT_p (q := (⟨"OneBackModel", "goodsLine", "(I)Z"⟩, 51)) 40 (by decide +kernel)
theorem tp41 : Cond.selects "OneBackModel" ⟨"OneBackModel", "takeHouse", "(I)Z"⟩ ⟨"OneBackModel", "takeHouse", "(I)Z"⟩ ∈ GT := GT_p (q := (⟨"OneBackModel", "takeHouse", "(I)Z"⟩, 51)) 41 (by decide +kernel)
theorem tp42 : Cond.selects "OneBackModel" ⟨"OneBackModel", "take", "(III)Z"⟩ ⟨"OneBackModel", "take", "(III)Z"⟩ ∈ GT := GT_p (q := (⟨"OneBackModel", "take", "(III)Z"⟩, 51)) 42 (by decide +kernel)
theorem tp43 : Cond.selects "OneBackModel" ⟨"OneBackModel", "takeBut", "(IIII)Z"⟩ ⟨"OneBackModel", "takeBut", "(IIII)Z"⟩ ∈ GT := GT_p (q := (⟨"OneBackModel", "takeBut", "(IIII)Z"⟩, 51)) 43 (by decide +kernel)
theorem tp44 : Cond.selects "OneBackModel" ⟨"OneBackModel", "lay", "(II)V"⟩ ⟨"OneBackModel", "lay", "(II)V"⟩ ∈ GT := GT_p (q := (⟨"OneBackModel", "lay", "(II)V"⟩, 51)) 44 (by decide +kernel)
theorem tp45 : Cond.selects "OneBackModel" ⟨"OneBackModel", "houseLine", "(J)Z"⟩ ⟨"OneBackModel", "houseLine", "(J)Z"⟩ ∈ GT := GT_p (q := (⟨"OneBackModel", "houseLine", "(J)Z"⟩, 51)) 45 (by decide +kernel)
theorem tp46 : Cond.selects "OneBackModel" ⟨"OneBackModel", "goodLine", "(J)Z"⟩ ⟨"OneBackModel", "goodLine", "(J)Z"⟩ ∈ GT := GT_p (q := (⟨"OneBackModel", "goodLine", "(J)Z"⟩, 51)) 46 (by decide +kernel)
theorem tp47 : Cond.selects "OneBackModel" ⟨"OneBackModel", "sonLine", "()Z"⟩ ⟨"OneBackModel", "sonLine", "()Z"⟩ ∈ GT := GT_p (q := (⟨"OneBackModel", "sonLine", "()Z"⟩, 51)) 47 (by decide +kernel)
theorem tp48 : Cond.selects "OneBackModel" ⟨"OneBackModel", "keep", "(IIII)V"⟩ ⟨"OneBackModel", "keep", "(IIII)V"⟩ ∈ GT := GT_p (q := (⟨"OneBackModel", "keep", "(IIII)V"⟩, 51)) 48 (by decide +kernel)
theorem tp49 : Cond.selects "OneBackModel" ⟨"OneBackModel", "lawLine", "(J)Z"⟩ ⟨"OneBackModel", "lawLine", "(J)Z"⟩ ∈ GT := GT_p (q := (⟨"OneBackModel", "lawLine", "(J)Z"⟩, 51)) 49 (by decide +kernel)
theorem tp50 : Cond.selects "OneBackModel" ⟨"OneBackModel", "nightsLine", "(JI)Z"⟩ ⟨"OneBackModel", "nightsLine", "(JI)Z"⟩ ∈ GT := GT_p (q := (⟨"OneBackModel", "nightsLine", "(JI)Z"⟩, 51)) 50 (by decide +kernel)
theorem tp51 : Cond.selects "OneBackModel" ⟨"OneBackModel", "sightLine", "(JI)Z"⟩ ⟨"OneBackModel", "sightLine", "(JI)Z"⟩ ∈ GT := GT_p (q := (⟨"OneBackModel", "sightLine", "(JI)Z"⟩, 51)) 51 (by decide +kernel)
theorem tp52 : Cond.selects "OneBackModel" ⟨"OneBackModel", "storeAll", "(II)V"⟩ ⟨"OneBackModel", "storeAll", "(II)V"⟩ ∈ GT := GT_p (q := (⟨"OneBackModel", "storeAll", "(II)V"⟩, 51)) 52 (by decide +kernel)
theorem tp53 : Cond.selects "OneBackModel" ⟨"OneBackModel", "store", "([III)V"⟩ ⟨"OneBackModel", "store", "([III)V"⟩ ∈ GT := GT_p (q := (⟨"OneBackModel", "store", "([III)V"⟩, 51)) 53 (by decide +kernel)
theorem tp54 : Cond.selects "OneBackModel" ⟨"OneBackModel", "hand", "(I)Z"⟩ ⟨"OneBackModel", "hand", "(I)Z"⟩ ∈ GT := GT_p (q := (⟨"OneBackModel", "hand", "(I)Z"⟩, 51)) 54 (by decide +kernel)
theorem tp55 : Cond.selects "OneBackModel" ⟨"OneBackModel", "of", "(I)I"⟩ ⟨"OneBackModel", "of", "(I)I"⟩ ∈ GT := GT_p (q := (⟨"OneBackModel", "of", "(I)I"⟩, 51)) 55 (by decide +kernel)
theorem tp56 : Cond.selects "OneBackModel" ⟨"OneBackModel", "isHouse", "(I)Z"⟩ ⟨"OneBackModel", "isHouse", "(I)Z"⟩ ∈ GT := GT_p (q := (⟨"OneBackModel", "isHouse", "(I)Z"⟩, 51)) 56 (by decide +kernel)
theorem tp57 : Cond.selects "OneBackModel" ⟨"OneBackModel", "isThief", "(I)Z"⟩ ⟨"OneBackModel", "isThief", "(I)Z"⟩ ∈ GT := GT_p (q := (⟨"OneBackModel", "isThief", "(I)Z"⟩, 51)) 57 (by decide +kernel)
theorem tp58 : Cond.selects "OneBackModel" ⟨"OneBackModel", "spare", "(II)I"⟩ ⟨"OneBackModel", "spare", "(II)I"⟩ ∈ GT := GT_p (q := (⟨"OneBackModel", "spare", "(II)I"⟩, 51)) 58 (by decide +kernel)
theorem tp59 : Cond.selects "OneBackModel" ⟨"OneBackModel", "lacks", "(II)I"⟩ ⟨"OneBackModel", "lacks", "(II)I"⟩ ∈ GT := GT_p (q := (⟨"OneBackModel", "lacks", "(II)I"⟩, 51)) 59 (by decide +kernel)
theorem tp60 : Cond.selects "OneBackModel" ⟨"OneBackModel", "hasLaw", "(I)Z"⟩ ⟨"OneBackModel", "hasLaw", "(I)Z"⟩ ∈ GT := GT_p (q := (⟨"OneBackModel", "hasLaw", "(I)Z"⟩, 51)) 60 (by decide +kernel)
theorem tp61 : Cond.selects "OneBackModel" ⟨"OneBackModel", "lawOf", "(I)I"⟩ ⟨"OneBackModel", "lawOf", "(I)I"⟩ ∈ GT := GT_p (q := (⟨"OneBackModel", "lawOf", "(I)I"⟩, 51)) 61 (by decide +kernel)
theorem tp62 : Cond.selects "OneBackModel" ⟨"OneBackModel", "isDouble", "(I)Z"⟩ ⟨"OneBackModel", "isDouble", "(I)Z"⟩ ∈ GT := GT_p (q := (⟨"OneBackModel", "isDouble", "(I)Z"⟩, 51)) 62 (by decide +kernel)
theorem tp63 : Cond.selects "OneBackModel" ⟨"OneBackModel", "hasNights", "(I)Z"⟩ ⟨"OneBackModel", "hasNights", "(I)Z"⟩ ∈ GT := GT_p (q := (⟨"OneBackModel", "hasNights", "(I)Z"⟩, 51)) 63 (by decide +kernel)
theorem tp64 : Cond.selects "OneBackModel" ⟨"OneBackModel", "deeds", "()I"⟩ ⟨"OneBackModel", "deeds", "()I"⟩ ∈ GT := GT_p (q := (⟨"OneBackModel", "deeds", "()I"⟩, 51)) 64 (by decide +kernel)
theorem tp65 : Cond.selects "OneBackModel" ⟨"OneBackModel", "deedOf", "(II)I"⟩ ⟨"OneBackModel", "deedOf", "(II)I"⟩ ∈ GT := GT_p (q := (⟨"OneBackModel", "deedOf", "(II)I"⟩, 51)) 65 (by decide +kernel)
theorem tp66 : Cond.selects "OneBackModel" ⟨"OneBackModel", "layAll", "(III)Z"⟩ ⟨"OneBackModel", "layAll", "(III)Z"⟩ ∈ GT := GT_p (q := (⟨"OneBackModel", "layAll", "(III)Z"⟩, 51)) 66 (by decide +kernel)
theorem tp67 : Cond.selects "OneBackModel" ⟨"OneBackModel", "play", "(I)I"⟩ ⟨"OneBackModel", "play", "(I)I"⟩ ∈ GT := GT_p (q := (⟨"OneBackModel", "play", "(I)I"⟩, 51)) 67 (by decide +kernel)
theorem tp68 : Cond.selects "OneBackModel" ⟨"OneBackModel", "begin", "()V"⟩ ⟨"OneBackModel", "begin", "()V"⟩ ∈ GT := GT_p (q := (⟨"OneBackModel", "begin", "()V"⟩, 51)) 68 (by decide +kernel)
theorem tp69 : Cond.selects "OneBackModel" ⟨"OneBackModel", "does", "(I)Z"⟩ ⟨"OneBackModel", "does", "(I)Z"⟩ ∈ GT := GT_p (q := (⟨"OneBackModel", "does", "(I)Z"⟩, 51)) 69 (by decide +kernel)
theorem tp70 : Cond.selects "OneBackModel" ⟨"OneBackModel", "takes", "(III)Z"⟩ ⟨"OneBackModel", "takes", "(III)Z"⟩ ∈ GT := GT_p (q := (⟨"OneBackModel", "takes", "(III)Z"⟩, 51)) 70 (by decide +kernel)
theorem tp71 : Cond.selects "OneBackModel" ⟨"OneBackModel", "isFree", "(I)Z"⟩ ⟨"OneBackModel", "isFree", "(I)Z"⟩ ∈ GT := GT_p (q := (⟨"OneBackModel", "isFree", "(I)Z"⟩, 51)) 71 (by decide +kernel)
theorem tp72 : Cond.selects "OneBackModel" ⟨"OneBackModel", "gives", "(III)Z"⟩ ⟨"OneBackModel", "gives", "(III)Z"⟩ ∈ GT := GT_p (q := (⟨"OneBackModel", "gives", "(III)Z"⟩, 51)) 72 (by decide +kernel)
theorem tp73 : Cond.selects "OneBackModel" ⟨"OneBackModel", "mayGive", "(III)Z"⟩ ⟨"OneBackModel", "mayGive", "(III)Z"⟩ ∈ GT := GT_p (q := (⟨"OneBackModel", "mayGive", "(III)Z"⟩, 51)) 73 (by decide +kernel)
theorem tp74 : Cond.selects "OneBackModel" ⟨"OneBackModel", "sets", "(III)Z"⟩ ⟨"OneBackModel", "sets", "(III)Z"⟩ ∈ GT := GT_p (q := (⟨"OneBackModel", "sets", "(III)Z"⟩, 51)) 74 (by decide +kernel)
theorem tp75 : Cond.selects "OneBackModel" ⟨"OneBackModel", "owes", "(I)I"⟩ ⟨"OneBackModel", "owes", "(I)I"⟩ ∈ GT := GT_p (q := (⟨"OneBackModel", "owes", "(I)I"⟩, 51)) 75 (by decide +kernel)
theorem tp76 : Cond.selects "OneBackModel" ⟨"OneBackModel", "ends", "()V"⟩ ⟨"OneBackModel", "ends", "()V"⟩ ∈ GT := GT_p (q := (⟨"OneBackModel", "ends", "()V"⟩, 51)) 76 (by decide +kernel)
theorem tp77 : Cond.selects "OneBackModel" ⟨"OneBackModel", "layState", "(IIII)Z"⟩ ⟨"OneBackModel", "layState", "(IIII)Z"⟩ ∈ GT := GT_p (q := (⟨"OneBackModel", "layState", "(IIII)Z"⟩, 51)) 77 (by decide +kernel)
theorem tp78 : Cond.selects "OneBackModel" ⟨"OneBackModel", "queued", "(I)I"⟩ ⟨"OneBackModel", "queued", "(I)I"⟩ ∈ GT := GT_p (q := (⟨"OneBackModel", "queued", "(I)I"⟩, 51)) 78 (by decide +kernel)
theorem tp79 : Cond.selects "OneBackModel" ⟨"OneBackModel", "odd", "(I)I"⟩ ⟨"OneBackModel", "odd", "(I)I"⟩ ∈ GT := GT_p (q := (⟨"OneBackModel", "odd", "(I)I"⟩, 51)) 79 (by decide +kernel)
theorem tp80 : Cond.selects "OneBackModel" ⟨"OneBackModel", "ofState", "(I)I"⟩ ⟨"OneBackModel", "ofState", "(I)I"⟩ ∈ GT := GT_p (q := (⟨"OneBackModel", "ofState", "(I)I"⟩, 51)) 80 (by decide +kernel)
theorem tp81 : Cond.selects "OneBackModel" ⟨"OneBackModel", "want", "()I"⟩ ⟨"OneBackModel", "want", "()I"⟩ ∈ GT := GT_p (q := (⟨"OneBackModel", "want", "()I"⟩, 51)) 81 (by decide +kernel)
theorem tp82 : Cond.selects "OneBackModel" ⟨"OneBackModel", "pious", "()I"⟩ ⟨"OneBackModel", "pious", "()I"⟩ ∈ GT := GT_p (q := (⟨"OneBackModel", "pious", "()I"⟩, 51)) 82 (by decide +kernel)
theorem tp83 : Cond.selects "OneBackModel" ⟨"OneBackModel", "ofEach", "(I)I"⟩ ⟨"OneBackModel", "ofEach", "(I)I"⟩ ∈ GT := GT_p (q := (⟨"OneBackModel", "ofEach", "(I)I"⟩, 51)) 83 (by decide +kernel)
theorem tp84 : Cond.selects "OneBackModel" ⟨"OneBackModel", "findAid", "()Z"⟩ ⟨"OneBackModel", "findAid", "()Z"⟩ ∈ GT := GT_p (q := (⟨"OneBackModel", "findAid", "()Z"⟩, 51)) 84 (by decide +kernel)
theorem tp85 : Cond.selects "OneBackModel" ⟨"OneBackModel", "aidGood", "(I)Z"⟩ ⟨"OneBackModel", "aidGood", "(I)Z"⟩ ∈ GT := GT_p (q := (⟨"OneBackModel", "aidGood", "(I)Z"⟩, 51)) 85 (by decide +kernel)
theorem tp86 : Cond.selects "OneBackModel" ⟨"OneBackModel", "aidNights", "()I"⟩ ⟨"OneBackModel", "aidNights", "()I"⟩ ∈ GT := GT_p (q := (⟨"OneBackModel", "aidNights", "()I"⟩, 51)) 86 (by decide +kernel)
theorem tp87 : Cond.selects "OneBackModel" ⟨"OneBackModel", "carryGood", "(I)I"⟩ ⟨"OneBackModel", "carryGood", "(I)I"⟩ ∈ GT := GT_p (q := (⟨"OneBackModel", "carryGood", "(I)I"⟩, 51)) 87 (by decide +kernel)
theorem tp88 : Cond.selects "OneBackModel" ⟨"OneBackModel", "carryOn", "(II)V"⟩ ⟨"OneBackModel", "carryOn", "(II)V"⟩ ∈ GT := GT_p (q := (⟨"OneBackModel", "carryOn", "(II)V"⟩, 51)) 88 (by decide +kernel)
theorem tp89 : Cond.selects "OneBackModel" ⟨"OneBackModel", "roundOf", "(I)I"⟩ ⟨"OneBackModel", "roundOf", "(I)I"⟩ ∈ GT := GT_p (q := (⟨"OneBackModel", "roundOf", "(I)I"⟩, 51)) 89 (by decide +kernel)
theorem tp90 : Cond.selects "OneBackModel" ⟨"OneBackModel", "hasSight", "(I)Z"⟩ ⟨"OneBackModel", "hasSight", "(I)Z"⟩ ∈ GT := GT_p (q := (⟨"OneBackModel", "hasSight", "(I)Z"⟩, 51)) 90 (by decide +kernel)
theorem tp91 : Cond.selects "OneBackModel" ⟨"OneBackModel", "gifts", "()I"⟩ ⟨"OneBackModel", "gifts", "()I"⟩ ∈ GT := GT_p (q := (⟨"OneBackModel", "gifts", "()I"⟩, 51)) 91 (by decide +kernel)
theorem tp92 : Cond.selects "OneBackModel" ⟨"OneBackModel", "giftOf", "(II)I"⟩ ⟨"OneBackModel", "giftOf", "(II)I"⟩ ∈ GT := GT_p (q := (⟨"OneBackModel", "giftOf", "(II)I"⟩, 51)) 92 (by decide +kernel)
theorem tp93 : Cond.selects "OneBackModel" ⟨"OneBackModel", "left", "(II)I"⟩ ⟨"OneBackModel", "left", "(II)I"⟩ ∈ GT := GT_p (q := (⟨"OneBackModel", "left", "(II)I"⟩, 51)) 93 (by decide +kernel)
theorem tp94 : Cond.selects "OneBackModel" ⟨"OneBackModel", "canBe", "(I)Z"⟩ ⟨"OneBackModel", "canBe", "(I)Z"⟩ ∈ GT := GT_p (q := (⟨"OneBackModel", "canBe", "(I)Z"⟩, 51)) 94 (by decide +kernel)
theorem tp95 : Cond.selects "OneBackModel" ⟨"OneBackModel", "isToldAll", "(I)Z"⟩ ⟨"OneBackModel", "isToldAll", "(I)Z"⟩ ∈ GT := GT_p (q := (⟨"OneBackModel", "isToldAll", "(I)Z"⟩, 51)) 95 (by decide +kernel)
theorem tp96 : Cond.selects "OneBackModel" ⟨"OneBackModel", "giftsBy", "(IIII)I"⟩ ⟨"OneBackModel", "giftsBy", "(IIII)I"⟩ ∈ GT := GT_p (q := (⟨"OneBackModel", "giftsBy", "(IIII)I"⟩, 51)) 96 (by decide +kernel)
theorem tp97 : Cond.selects "OneBackModel" ⟨"OneBackModel", "doubles", "(II)I"⟩ ⟨"OneBackModel", "doubles", "(II)I"⟩ ∈ GT := GT_p (q := (⟨"OneBackModel", "doubles", "(II)I"⟩, 51)) 97 (by decide +kernel)
theorem tp98 : Cond.selects "OneBackModel" ⟨"OneBackModel", "prizeOf", "(II)I"⟩ ⟨"OneBackModel", "prizeOf", "(II)I"⟩ ∈ GT := GT_p (q := (⟨"OneBackModel", "prizeOf", "(II)I"⟩, 51)) 98 (by decide +kernel)
theorem tp99 : Cond.selects "OneBackModel" ⟨"OneBackModel", "worthOf", "(I)I"⟩ ⟨"OneBackModel", "worthOf", "(I)I"⟩ ∈ GT := GT_p (q := (⟨"OneBackModel", "worthOf", "(I)I"⟩, 51)) 99 (by decide +kernel)
theorem tp100 : Cond.selects "OneBackModel" ⟨"OneBackModel", "isRest", "(II)Z"⟩ ⟨"OneBackModel", "isRest", "(II)Z"⟩ ∈ GT := GT_p (q := (⟨"OneBackModel", "isRest", "(II)Z"⟩, 51)) 100 (by decide +kernel)
theorem tp101 : Cond.selects "OneBackModel" ⟨"OneBackModel", "drawThief", "(I)V"⟩ ⟨"OneBackModel", "drawThief", "(I)V"⟩ ∈ GT := GT_p (q := (⟨"OneBackModel", "drawThief", "(I)V"⟩, 51)) 101 (by decide +kernel)
theorem tp102 : Cond.selects "OneBackModel" ⟨"OneBackModel", "draw", "(I)I"⟩ ⟨"OneBackModel", "draw", "(I)I"⟩ ∈ GT := GT_p (q := (⟨"OneBackModel", "draw", "(I)I"⟩, 51)) 102 (by decide +kernel)
theorem tp103 : Cond.selects "OneBackModel" ⟨"OneBackModel", "givesOne", "(I)Z"⟩ ⟨"OneBackModel", "givesOne", "(I)Z"⟩ ∈ GT := GT_p (q := (⟨"OneBackModel", "givesOne", "(I)Z"⟩, 51)) 103 (by decide +kernel)
theorem tp104 : Cond.selects "OneBackModel" ⟨"OneBackModel", "can", "(I)I"⟩ ⟨"OneBackModel", "can", "(I)I"⟩ ∈ GT := GT_p (q := (⟨"OneBackModel", "can", "(I)I"⟩, 51)) 104 (by decide +kernel)
theorem tp105 : Cond.selects "OneBackModel" ⟨"OneBackModel", "wealthOf", "(I)I"⟩ ⟨"OneBackModel", "wealthOf", "(I)I"⟩ ∈ GT := GT_p (q := (⟨"OneBackModel", "wealthOf", "(I)I"⟩, 51)) 105 (by decide +kernel)
theorem tp106 : Cond.selects "OneBackModel" ⟨"OneBackModel", "ranked", "(I)I"⟩ ⟨"OneBackModel", "ranked", "(I)I"⟩ ∈ GT := GT_p (q := (⟨"OneBackModel", "ranked", "(I)I"⟩, 51)) 106 (by decide +kernel)
theorem tp107 : Cond.selects "OneBackModel" ⟨"OneBackModel", "settle", "()I"⟩ ⟨"OneBackModel", "settle", "()I"⟩ ∈ GT := GT_p (q := (⟨"OneBackModel", "settle", "()I"⟩, 51)) 107 (by decide +kernel)
theorem tp108 : Cond.selects "OneBackModel" ⟨"OneBackModel", "areKin", "(II)Z"⟩ ⟨"OneBackModel", "areKin", "(II)Z"⟩ ∈ GT := GT_p (q := (⟨"OneBackModel", "areKin", "(II)Z"⟩, 51)) 108 (by decide +kernel)
theorem tp109 : Cond.selects "OneBackModel" ⟨"OneBackModel", "gap", "()I"⟩ ⟨"OneBackModel", "gap", "()I"⟩ ∈ GT := GT_p (q := (⟨"OneBackModel", "gap", "()I"⟩, 51)) 109 (by decide +kernel)
theorem tp110 : Cond.selects "OneBackModel" ⟨"OneBackModel", "unlike", "(Z)I"⟩ ⟨"OneBackModel", "unlike", "(Z)I"⟩ ∈ GT := GT_p (q := (⟨"OneBackModel", "unlike", "(Z)I"⟩, 51)) 110 (by decide +kernel)
theorem tp111 : Cond.selects "OneBackModel" ⟨"OneBackModel", "robbed", "()I"⟩ ⟨"OneBackModel", "robbed", "()I"⟩ ∈ GT := GT_p (q := (⟨"OneBackModel", "robbed", "()I"⟩, 51)) 111 (by decide +kernel)
theorem tp112 : Cond.selects "OneBackModel" ⟨"OneBackModel", "haulWorth", "(IIII)I"⟩ ⟨"OneBackModel", "haulWorth", "(IIII)I"⟩ ∈ GT := GT_p (q := (⟨"OneBackModel", "haulWorth", "(IIII)I"⟩, 51)) 112 (by decide +kernel)
theorem tp113 : Cond.selects "OneBackModel" ⟨"OneBackModel", "limits", "(I)I"⟩ ⟨"OneBackModel", "limits", "(I)I"⟩ ∈ GT := GT_p (q := (⟨"OneBackModel", "limits", "(I)I"⟩, 51)) 113 (by decide +kernel)
theorem tp114 : Cond.selects "OneBackModel" ⟨"OneBackModel", "heads", "(I)I"⟩ ⟨"OneBackModel", "heads", "(I)I"⟩ ∈ GT := GT_p (q := (⟨"OneBackModel", "heads", "(I)I"⟩, 51)) 114 (by decide +kernel)
theorem tp115 : Cond.selects "OneBackModel" ⟨"OneBackModel", "helps", "(II)Z"⟩ ⟨"OneBackModel", "helps", "(II)Z"⟩ ∈ GT := GT_p (q := (⟨"OneBackModel", "helps", "(II)Z"⟩, 51)) 115 (by decide +kernel)
theorem tp116 : Cond.selects "OneBackModel" ⟨"OneBackModel", "copyAll", "(II)V"⟩ ⟨"OneBackModel", "copyAll", "(II)V"⟩ ∈ GT := GT_p (q := (⟨"OneBackModel", "copyAll", "(II)V"⟩, 51)) 116 (by decide +kernel)
