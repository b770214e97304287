theorem m8 {α : Type} {w a b c d e f g h : α} {l : List α} (q : w ∈ l) : w ∈ a :: b :: c :: d :: e :: f :: g :: h :: l := List.Mem.tail _ (List.Mem.tail _ (List.Mem.tail _ (List.Mem.tail _ (List.Mem.tail _ (List.Mem.tail _ (List.Mem.tail _ (List.Mem.tail _ q)))))))
theorem GT_m {w : Cond} (h : w ∈ tables_1) (hg : goodWord w = true) : w ∈ GT := List.mem_filter.mpr ⟨List.mem_append_right _ h, hg⟩
theorem GT_q {q : MethodName × Nat} (h : q ∈ lw_privs) : Cond.selects q.1.cls q.1 q.1 ∈ GT := List.mem_filter.mpr ⟨List.mem_append_left _ (List.mem_map.mpr ⟨q, h, rfl⟩), rfl⟩
theorem ck1 {w : Cond} (h : w ∈ tables_1_1) : w ∈ tables_1 := List.mem_append_left _ h
theorem ck2 {w : Cond} (h : w ∈ tables_1_2) : w ∈ tables_1 := List.mem_append_right _ (List.mem_append_left _ h)
theorem ck3 {w : Cond} (h : w ∈ tables_1_3) : w ∈ tables_1 := List.mem_append_right _ (List.mem_append_right _ (List.mem_append_left _ h))
theorem ck4 {w : Cond} (h : w ∈ tables_1_4) : w ∈ tables_1 := List.mem_append_right _ (List.mem_append_right _ (List.mem_append_right _ (List.mem_append_left _ h)))
theorem ck5 {w : Cond} (h : w ∈ tables_1_5) : w ∈ tables_1 := List.mem_append_right _ (List.mem_append_right _ (List.mem_append_right _ (List.mem_append_right _ (List.mem_append_left _ h))))
theorem ck6 {w : Cond} (h : w ∈ tables_1_6) : w ∈ tables_1 := List.mem_append_right _ (List.mem_append_right _ (List.mem_append_right _ (List.mem_append_right _ (List.mem_append_right _ (List.mem_append_left _ h)))))
theorem ck7 {w : Cond} (h : w ∈ tables_1_7) : w ∈ tables_1 := List.mem_append_right _ (List.mem_append_right _ (List.mem_append_right _ (List.mem_append_right _ (List.mem_append_right _ (List.mem_append_right _ (List.mem_append_left _ h))))))
theorem ck8 {w : Cond} (h : w ∈ tables_1_8) : w ∈ tables_1 := List.mem_append_right _ (List.mem_append_right _ (List.mem_append_right _ (List.mem_append_right _ (List.mem_append_right _ (List.mem_append_right _ (List.mem_append_right _ (h)))))))
set_option maxRecDepth 4000 in
theorem tw1 : (Jvm.Cond.initialized "OneBack") ∈ GT := GT_m (ck1 (List.Mem.tail _ (List.Mem.head _))) rfl
set_option maxRecDepth 4000 in
theorem tw2 : (Jvm.Cond.initialized "OneBack$Told") ∈ GT := GT_m (ck1 (List.Mem.tail _ (List.Mem.tail _ (List.Mem.head _)))) rfl
set_option maxRecDepth 4000 in
theorem tw3 : (Jvm.Cond.initialized "OneBack$Town") ∈ GT := GT_m (ck1 (List.Mem.tail _ (List.Mem.tail _ (List.Mem.tail _ (List.Mem.head _))))) rfl
set_option maxRecDepth 4000 in
theorem tw4 : (Jvm.Cond.initialized "OneBack$Law") ∈ GT := GT_m (ck1 (List.Mem.tail _ (List.Mem.tail _ (List.Mem.tail _ (List.Mem.tail _ (List.Mem.head _)))))) rfl
set_option maxRecDepth 4000 in
theorem tw5 : (Jvm.Cond.initialized "OneBack$Nights") ∈ GT := GT_m (ck1 (List.Mem.tail _ (List.Mem.tail _ (List.Mem.tail _ (List.Mem.tail _ (List.Mem.tail _ (List.Mem.head _))))))) rfl
set_option maxRecDepth 4000 in
theorem tw6 : (Jvm.Cond.initialized "OneBack$Sight") ∈ GT := GT_m (ck1 (List.Mem.tail _ (List.Mem.tail _ (List.Mem.tail _ (List.Mem.tail _ (List.Mem.tail _ (List.Mem.tail _ (List.Mem.head _)))))))) rfl
set_option maxRecDepth 4000 in
theorem tw7 : (Jvm.Cond.initialized "OneBack$Reader") ∈ GT := GT_m (ck1 (List.Mem.tail _ (List.Mem.tail _ (List.Mem.tail _ (List.Mem.tail _ (List.Mem.tail _ (List.Mem.tail _ (List.Mem.tail _ (List.Mem.head _))))))))) rfl
set_option maxRecDepth 4000 in
theorem tw8 : (Jvm.Cond.initialized "OneBack$Walk") ∈ GT := GT_m (ck1 (m8 (List.Mem.head _))) rfl
set_option maxRecDepth 4000 in
theorem tw9 : (Jvm.Cond.initialized "OneBack$Supply") ∈ GT := GT_m (ck1 (m8 (List.Mem.tail _ (List.Mem.head _)))) rfl
set_option maxRecDepth 4000 in
theorem tw10 : (Jvm.Cond.initialized "OneBack$Porter") ∈ GT := GT_m (ck1 (m8 (List.Mem.tail _ (List.Mem.tail _ (List.Mem.head _))))) rfl
set_option maxRecDepth 4000 in
theorem tw11 : (Jvm.Cond.initialized "OneBackModel") ∈ GT := GT_m (ck1 (m8 (List.Mem.tail _ (List.Mem.tail _ (List.Mem.tail _ (List.Mem.head _)))))) rfl
set_option maxRecDepth 4000 in
theorem tw12 : (Jvm.Cond.initialized "java/lang/Math") ∈ GT := GT_m (ck1 (m8 (List.Mem.tail _ (List.Mem.tail _ (List.Mem.tail _ (List.Mem.tail _ (List.Mem.head _))))))) rfl
set_option maxRecDepth 4000 in
theorem tw13 : (Jvm.Cond.initialized "java/lang/String") ∈ GT := GT_m (ck1 (m8 (List.Mem.tail _ (List.Mem.tail _ (List.Mem.tail _ (List.Mem.tail _ (List.Mem.tail _ (List.Mem.head _)))))))) rfl
set_option maxRecDepth 4000 in
theorem tw14 : (Jvm.Cond.initialized "java/lang/StringLatin1") ∈ GT := GT_m (ck1 (m8 (List.Mem.tail _ (List.Mem.tail _ (List.Mem.tail _ (List.Mem.tail _ (List.Mem.tail _ (List.Mem.tail _ (List.Mem.head _))))))))) rfl
set_option maxRecDepth 4000 in
theorem tw15 : (Jvm.Cond.initialized "jdk/internal/util/Preconditions") ∈ GT := GT_m (ck1 (m8 (List.Mem.tail _ (List.Mem.tail _ (List.Mem.tail _ (List.Mem.tail _ (List.Mem.tail _ (List.Mem.tail _ (List.Mem.tail _ (List.Mem.head _)))))))))) rfl
set_option maxRecDepth 4000 in
theorem tw17 : (Jvm.Cond.initialized "java/lang/System") ∈ GT := GT_m (ck1 (m8 (m8 (List.Mem.tail _ (List.Mem.head _))))) rfl
set_option maxRecDepth 4000 in
theorem tw18 : (Jvm.Cond.initialized "OneBack$Views") ∈ GT := GT_m (ck1 (m8 (m8 (List.Mem.tail _ (List.Mem.tail _ (List.Mem.head _)))))) rfl
set_option maxRecDepth 4000 in
theorem tw19 : (Jvm.Cond.initialized "java/lang/Integer") ∈ GT := GT_m (ck1 (m8 (m8 (List.Mem.tail _ (List.Mem.tail _ (List.Mem.tail _ (List.Mem.head _))))))) rfl
set_option maxRecDepth 4000 in
theorem tw20 : (Jvm.Cond.classLink "OneBackLaw" (7 : Nat) "OneBack") ∈ GT := GT_m (ck1 (m8 (m8 (List.Mem.tail _ (List.Mem.tail _ (List.Mem.tail _ (List.Mem.tail _ (List.Mem.head _)))))))) rfl
set_option maxRecDepth 4000 in
theorem tw21 : (Jvm.Cond.instantiable "OneBack" (6 : Nat)) ∈ GT := GT_m (ck1 (m8 (m8 (List.Mem.tail _ (List.Mem.tail _ (List.Mem.tail _ (List.Mem.tail _ (List.Mem.tail _ (List.Mem.head _))))))))) rfl
set_option maxRecDepth 4000 in
theorem tw22 : (Jvm.Cond.methodLink "OneBackLaw" (9 : Nat) ({ cls := "OneBack", name := "<init>", desc := "()V" } : Jvm.MethodName)) ∈ GT := GT_m (ck1 (m8 (m8 (List.Mem.tail _ (List.Mem.tail _ (List.Mem.tail _ (List.Mem.tail _ (List.Mem.tail _ (List.Mem.tail _ (List.Mem.head _)))))))))) rfl
set_option maxRecDepth 4000 in
theorem tw23 : (Jvm.Cond.instanceMethod ({ cls := "OneBack", name := "<init>", desc := "()V" } : Jvm.MethodName)) ∈ GT := GT_m (ck1 (m8 (m8 (List.Mem.tail _ (List.Mem.tail _ (List.Mem.tail _ (List.Mem.tail _ (List.Mem.tail _ (List.Mem.tail _ (List.Mem.tail _ (List.Mem.head _))))))))))) rfl
set_option maxRecDepth 4000 in
theorem tw24 : (Jvm.Cond.code ({ cls := "OneBack", name := "<init>", desc := "()V" } : Jvm.MethodName) prog_1_method_1_code (1 : Nat) (Option.none : Option Jvm.ClassFile.FieldType)) ∈ GT := GT_m (ck1 (m8 (m8 (m8 (List.Mem.head _))))) rfl
set_option maxRecDepth 4000 in
theorem tw25 : (Jvm.Cond.methodLink "OneBack" (3 : Nat) ({ cls := "java/lang/Object", name := "<init>", desc := "()V" } : Jvm.MethodName)) ∈ GT := GT_m (ck1 (m8 (m8 (m8 (List.Mem.tail _ (List.Mem.head _)))))) rfl
set_option maxRecDepth 4000 in
theorem tw26 : (Jvm.Cond.instanceMethod ({ cls := "java/lang/Object", name := "<init>", desc := "()V" } : Jvm.MethodName)) ∈ GT := GT_m (ck1 (m8 (m8 (m8 (List.Mem.tail _ (List.Mem.tail _ (List.Mem.head _))))))) rfl
set_option maxRecDepth 4000 in
theorem tw27 : (Jvm.Cond.code ({ cls := "java/lang/Object", name := "<init>", desc := "()V" } : Jvm.MethodName) object_method_1_code (1 : Nat) (Option.none : Option Jvm.ClassFile.FieldType)) ∈ GT := GT_m (ck1 (m8 (m8 (m8 (List.Mem.tail _ (List.Mem.tail _ (List.Mem.tail _ (List.Mem.head _)))))))) rfl
set_option maxRecDepth 4000 in
theorem tw28 : (Jvm.Cond.classLink "OneBack" (9 : Nat) "OneBack$Told") ∈ GT := GT_m (ck1 (m8 (m8 (m8 (List.Mem.tail _ (List.Mem.tail _ (List.Mem.tail _ (List.Mem.tail _ (List.Mem.head _))))))))) rfl
set_option maxRecDepth 4000 in
theorem tw29 : (Jvm.Cond.instantiable "OneBack$Told" (9 : Nat)) ∈ GT := GT_m (ck1 (m8 (m8 (m8 (List.Mem.tail _ (List.Mem.tail _ (List.Mem.tail _ (List.Mem.tail _ (List.Mem.tail _ (List.Mem.head _)))))))))) rfl
set_option maxRecDepth 4000 in
theorem tw30 : (Jvm.Cond.methodLink "OneBack" (11 : Nat) ({ cls := "OneBack$Told", name := "<init>", desc := "()V" } : Jvm.MethodName)) ∈ GT := GT_m (ck1 (m8 (m8 (m8 (List.Mem.tail _ (List.Mem.tail _ (List.Mem.tail _ (List.Mem.tail _ (List.Mem.tail _ (List.Mem.tail _ (List.Mem.head _))))))))))) rfl
set_option maxRecDepth 4000 in
theorem tw31 : (Jvm.Cond.instanceMethod ({ cls := "OneBack$Told", name := "<init>", desc := "()V" } : Jvm.MethodName)) ∈ GT := GT_m (ck1 (m8 (m8 (m8 (List.Mem.tail _ (List.Mem.tail _ (List.Mem.tail _ (List.Mem.tail _ (List.Mem.tail _ (List.Mem.tail _ (List.Mem.tail _ (List.Mem.head _)))))))))))) rfl
set_option maxRecDepth 4000 in
theorem tw32 : (Jvm.Cond.code ({ cls := "OneBack$Told", name := "<init>", desc := "()V" } : Jvm.MethodName) prog_8_method_1_code (2 : Nat) (Option.none : Option Jvm.ClassFile.FieldType)) ∈ GT := GT_m (ck1 (m8 (m8 (m8 (m8 (List.Mem.head _)))))) rfl
set_option maxRecDepth 4000 in
theorem tw33 : (Jvm.Cond.methodLink "OneBack$Told" (3 : Nat) ({ cls := "java/lang/Object", name := "<init>", desc := "()V" } : Jvm.MethodName)) ∈ GT := GT_m (ck1 (m8 (m8 (m8 (m8 (List.Mem.tail _ (List.Mem.head _))))))) rfl
set_option maxRecDepth 4000 in
theorem tw34 : (Jvm.Cond.classLink "OneBack$Told" (29 : Nat) "OneBack$Town") ∈ GT := GT_m (ck1 (m8 (m8 (m8 (m8 (List.Mem.tail _ (List.Mem.tail _ (List.Mem.head _)))))))) rfl
set_option maxRecDepth 4000 in
theorem tw36 : (Jvm.Cond.classLink "OneBack$Told" (35 : Nat) "OneBack$Law") ∈ GT := GT_m (ck1 (m8 (m8 (m8 (m8 (List.Mem.tail _ (List.Mem.tail _ (List.Mem.tail _ (List.Mem.tail _ (List.Mem.head _)))))))))) rfl
set_option maxRecDepth 4000 in
theorem tw38 : (Jvm.Cond.classLink "OneBack$Told" (41 : Nat) "OneBack$Nights") ∈ GT := GT_m (ck1 (m8 (m8 (m8 (m8 (List.Mem.tail _ (List.Mem.tail _ (List.Mem.tail _ (List.Mem.tail _ (List.Mem.tail _ (List.Mem.tail _ (List.Mem.head _)))))))))))) rfl
set_option maxRecDepth 4000 in
theorem tw40 : (Jvm.Cond.classLink "OneBack$Told" (47 : Nat) "OneBack$Sight") ∈ GT := GT_m (ck1 (m8 (m8 (m8 (m8 (m8 (List.Mem.head _))))))) rfl
set_option maxRecDepth 4000 in
theorem tw42 : (Jvm.Cond.instantiable "OneBack$Town" (10 : Nat)) ∈ GT := GT_m (ck1 (m8 (m8 (m8 (m8 (m8 (List.Mem.tail _ (List.Mem.tail _ (List.Mem.head _))))))))) rfl
set_option maxRecDepth 4000 in
theorem tw43 : (Jvm.Cond.methodLink "OneBack$Told" (53 : Nat) ({ cls := "OneBack$Town", name := "<init>", desc := "()V" } : Jvm.MethodName)) ∈ GT := GT_m (ck1 (m8 (m8 (m8 (m8 (m8 (List.Mem.tail _ (List.Mem.tail _ (List.Mem.tail _ (List.Mem.head _)))))))))) rfl
set_option maxRecDepth 4000 in
theorem tw44 : (Jvm.Cond.instanceMethod ({ cls := "OneBack$Town", name := "<init>", desc := "()V" } : Jvm.MethodName)) ∈ GT := GT_m (ck1 (m8 (m8 (m8 (m8 (m8 (List.Mem.tail _ (List.Mem.tail _ (List.Mem.tail _ (List.Mem.tail _ (List.Mem.head _))))))))))) rfl
set_option maxRecDepth 4000 in
theorem tw45 : (Jvm.Cond.code ({ cls := "OneBack$Town", name := "<init>", desc := "()V" } : Jvm.MethodName) prog_9_method_1_code (1 : Nat) (Option.none : Option Jvm.ClassFile.FieldType)) ∈ GT := GT_m (ck1 (m8 (m8 (m8 (m8 (m8 (List.Mem.tail _ (List.Mem.tail _ (List.Mem.tail _ (List.Mem.tail _ (List.Mem.tail _ (List.Mem.head _)))))))))))) rfl
set_option maxRecDepth 4000 in
theorem tw46 : (Jvm.Cond.methodLink "OneBack$Town" (3 : Nat) ({ cls := "java/lang/Object", name := "<init>", desc := "()V" } : Jvm.MethodName)) ∈ GT := GT_m (ck1 (m8 (m8 (m8 (m8 (m8 (List.Mem.tail _ (List.Mem.tail _ (List.Mem.tail _ (List.Mem.tail _ (List.Mem.tail _ (List.Mem.tail _ (List.Mem.head _))))))))))))) rfl
set_option maxRecDepth 4000 in
theorem tw47 : (Jvm.Cond.methodLink "OneBack$Town" (36 : Nat) ({ cls := "OneBack$Town", name := "clear", desc := "()V" } : Jvm.MethodName)) ∈ GT := GT_m (ck1 (m8 (m8 (m8 (m8 (m8 (List.Mem.tail _ (List.Mem.tail _ (List.Mem.tail _ (List.Mem.tail _ (List.Mem.tail _ (List.Mem.tail _ (List.Mem.tail _ (List.Mem.head _)))))))))))))) rfl
set_option maxRecDepth 4000 in
theorem tw48 : (Jvm.Cond.instanceMethod ({ cls := "OneBack$Town", name := "clear", desc := "()V" } : Jvm.MethodName)) ∈ GT := GT_m (ck1 (m8 (m8 (m8 (m8 (m8 (m8 (List.Mem.head _)))))))) rfl
set_option maxRecDepth 4000 in
theorem tw49 : (Jvm.Cond.selects "OneBack$Town" ({ cls := "OneBack$Town", name := "clear", desc := "()V" } : Jvm.MethodName) ({ cls := "OneBack$Town", name := "clear", desc := "()V" } : Jvm.MethodName)) ∈ GT := GT_m (ck1 (m8 (m8 (m8 (m8 (m8 (m8 (List.Mem.tail _ (List.Mem.head _))))))))) rfl
set_option maxRecDepth 4000 in
theorem tw50 : (Jvm.Cond.code ({ cls := "OneBack$Town", name := "clear", desc := "()V" } : Jvm.MethodName) prog_9_method_2_code (2 : Nat) (Option.none : Option Jvm.ClassFile.FieldType)) ∈ GT := GT_m (ck1 (m8 (m8 (m8 (m8 (m8 (m8 (List.Mem.tail _ (List.Mem.tail _ (List.Mem.head _)))))))))) rfl
set_option maxRecDepth 4000 in
theorem tw52 : (Jvm.Cond.static ({ cls := "OneBack", name := "fillRow", desc := "([II)V" } : Jvm.MethodName)) ∈ GT := GT_m (ck1 (m8 (m8 (m8 (m8 (m8 (m8 (List.Mem.tail _ (List.Mem.tail _ (List.Mem.tail _ (List.Mem.tail _ (List.Mem.head _)))))))))))) rfl
set_option maxRecDepth 4000 in
theorem tw53 : (Jvm.Cond.code ({ cls := "OneBack", name := "fillRow", desc := "([II)V" } : Jvm.MethodName) prog_1_method_43_code (3 : Nat) (Option.none : Option Jvm.ClassFile.FieldType)) ∈ GT := GT_m (ck1 (m8 (m8 (m8 (m8 (m8 (m8 (List.Mem.tail _ (List.Mem.tail _ (List.Mem.tail _ (List.Mem.tail _ (List.Mem.tail _ (List.Mem.head _))))))))))))) rfl
set_option maxRecDepth 4000 in
theorem tw54 : (Jvm.Cond.fieldLink "OneBack$Town" (39 : Nat) "OneBack$Town" "houses" "I") ∈ GT := GT_m (ck1 (m8 (m8 (m8 (m8 (m8 (m8 (List.Mem.tail _ (List.Mem.tail _ (List.Mem.tail _ (List.Mem.tail _ (List.Mem.tail _ (List.Mem.tail _ (List.Mem.head _)))))))))))))) rfl
set_option maxRecDepth 4000 in
theorem tw55 : (Jvm.Cond.fieldLink "OneBack$Supply" (18 : Nat) "OneBack$Town" "houses" "I") ∈ GT := GT_m (ck1 (m8 (m8 (m8 (m8 (m8 (m8 (List.Mem.tail _ (List.Mem.tail _ (List.Mem.tail _ (List.Mem.tail _ (List.Mem.tail _ (List.Mem.tail _ (List.Mem.tail _ (List.Mem.head _))))))))))))))) rfl
set_option maxRecDepth 4000 in
theorem tw56 : (Jvm.Cond.fieldLink "OneBack$Reader" (96 : Nat) "OneBack$Town" "houses" "I") ∈ GT := GT_m (ck1 (m8 (m8 (m8 (m8 (m8 (m8 (m8 (List.Mem.head _))))))))) rfl
set_option maxRecDepth 4000 in
theorem tw57 : (Jvm.Cond.fieldLink "OneBack$Views" (59 : Nat) "OneBack$Town" "houses" "I") ∈ GT := GT_m (ck1 (m8 (m8 (m8 (m8 (m8 (m8 (m8 (List.Mem.tail _ (List.Mem.head _)))))))))) rfl
set_option maxRecDepth 4000 in
theorem tw58 : (Jvm.Cond.fieldLink "OneBack" (96 : Nat) "OneBack$Town" "houses" "I") ∈ GT := GT_m (ck1 (m8 (m8 (m8 (m8 (m8 (m8 (m8 (List.Mem.tail _ (List.Mem.tail _ (List.Mem.head _))))))))))) rfl
set_option maxRecDepth 4000 in
theorem tw59 : (Jvm.Cond.fieldLink "OneBack$Sight" (75 : Nat) "OneBack$Town" "houses" "I") ∈ GT := GT_m (ck1 (m8 (m8 (m8 (m8 (m8 (m8 (m8 (List.Mem.tail _ (List.Mem.tail _ (List.Mem.tail _ (List.Mem.head _)))))))))))) rfl
set_option maxRecDepth 4000 in
theorem tw60 : (Jvm.Cond.fieldLink "OneBack$Walk" (177 : Nat) "OneBack$Town" "houses" "I") ∈ GT := GT_m (ck1 (m8 (m8 (m8 (m8 (m8 (m8 (m8 (List.Mem.tail _ (List.Mem.tail _ (List.Mem.tail _ (List.Mem.tail _ (List.Mem.head _))))))))))))) rfl
set_option maxRecDepth 4000 in
theorem tw61 : (Jvm.Cond.fieldLink "OneBack$Town" (43 : Nat) "OneBack$Town" "thieves" "I") ∈ GT := GT_m (ck1 (m8 (m8 (m8 (m8 (m8 (m8 (m8 (List.Mem.tail _ (List.Mem.tail _ (List.Mem.tail _ (List.Mem.tail _ (List.Mem.tail _ (List.Mem.head _)))))))))))))) rfl
set_option maxRecDepth 4000 in
theorem tw62 : (Jvm.Cond.fieldLink "OneBack$Reader" (99 : Nat) "OneBack$Town" "thieves" "I") ∈ GT := GT_m (ck1 (m8 (m8 (m8 (m8 (m8 (m8 (m8 (List.Mem.tail _ (List.Mem.tail _ (List.Mem.tail _ (List.Mem.tail _ (List.Mem.tail _ (List.Mem.tail _ (List.Mem.head _))))))))))))))) rfl
set_option maxRecDepth 4000 in
theorem tw63 : (Jvm.Cond.fieldLink "OneBack$Views" (66 : Nat) "OneBack$Town" "thieves" "I") ∈ GT := GT_m (ck1 (m8 (m8 (m8 (m8 (m8 (m8 (m8 (List.Mem.tail _ (List.Mem.tail _ (List.Mem.tail _ (List.Mem.tail _ (List.Mem.tail _ (List.Mem.tail _ (List.Mem.tail _ (List.Mem.head _)))))))))))))))) rfl
set_option maxRecDepth 4000 in
theorem tw64 : (Jvm.Cond.fieldLink "OneBack" (101 : Nat) "OneBack$Town" "thieves" "I") ∈ GT := GT_m (ck1 (m8 (m8 (m8 (m8 (m8 (m8 (m8 (m8 (List.Mem.head _)))))))))) rfl
set_option maxRecDepth 4000 in
theorem tw65 : (Jvm.Cond.fieldLink "OneBack$Walk" (167 : Nat) "OneBack$Town" "thieves" "I") ∈ GT := GT_m (ck1 (m8 (m8 (m8 (m8 (m8 (m8 (m8 (m8 (List.Mem.tail _ (List.Mem.head _))))))))))) rfl
set_option maxRecDepth 4000 in
theorem tw66 : (Jvm.Cond.fieldLink "OneBack$Town" (9 : Nat) "OneBack$Town" "has" "[I") ∈ GT := GT_m (ck1 (m8 (m8 (m8 (m8 (m8 (m8 (m8 (m8 (List.Mem.tail _ (List.Mem.tail _ (List.Mem.head _)))))))))))) rfl
set_option maxRecDepth 4000 in
theorem tw67 : (Jvm.Cond.fieldLink "OneBack$Walk" (66 : Nat) "OneBack$Town" "has" "[I") ∈ GT := GT_m (ck1 (m8 (m8 (m8 (m8 (m8 (m8 (m8 (m8 (List.Mem.tail _ (List.Mem.tail _ (List.Mem.tail _ (List.Mem.head _))))))))))))) rfl
set_option maxRecDepth 4000 in
theorem tw68 : (Jvm.Cond.fieldLink "OneBack$Porter" (41 : Nat) "OneBack$Town" "has" "[I") ∈ GT := GT_m (ck1 (m8 (m8 (m8 (m8 (m8 (m8 (m8 (m8 (List.Mem.tail _ (List.Mem.tail _ (List.Mem.tail _ (List.Mem.tail _ (List.Mem.head _)))))))))))))) rfl
set_option maxRecDepth 4000 in
theorem tw69 : (Jvm.Cond.fieldLink "OneBack" (133 : Nat) "OneBack$Town" "has" "[I") ∈ GT := GT_m (ck1 (m8 (m8 (m8 (m8 (m8 (m8 (m8 (m8 (List.Mem.tail _ (List.Mem.tail _ (List.Mem.tail _ (List.Mem.tail _ (List.Mem.tail _ (List.Mem.head _))))))))))))))) rfl
set_option maxRecDepth 4000 in
theorem tw70 : (Jvm.Cond.fieldLink "OneBack$Sight" (80 : Nat) "OneBack$Town" "has" "[I") ∈ GT := GT_m (ck1 (m8 (m8 (m8 (m8 (m8 (m8 (m8 (m8 (List.Mem.tail _ (List.Mem.tail _ (List.Mem.tail _ (List.Mem.tail _ (List.Mem.tail _ (List.Mem.tail _ (List.Mem.head _)))))))))))))))) rfl
set_option maxRecDepth 4000 in
theorem tw71 : (Jvm.Cond.fieldLink "OneBack$Reader" (219 : Nat) "OneBack$Town" "has" "[I") ∈ GT := GT_m (ck1 (m8 (m8 (m8 (m8 (m8 (m8 (m8 (m8 (List.Mem.tail _ (List.Mem.tail _ (List.Mem.tail _ (List.Mem.tail _ (List.Mem.tail _ (List.Mem.tail _ (List.Mem.tail _ (List.Mem.head _))))))))))))))))) rfl
set_option maxRecDepth 4000 in
theorem tw72 : (Jvm.Cond.fieldLink "OneBack$Town" (15 : Nat) "OneBack$Town" "needs" "[I") ∈ GT := GT_m (ck1 (m8 (m8 (m8 (m8 (m8 (m8 (m8 (m8 (m8 (List.Mem.head _))))))))))) rfl
set_option maxRecDepth 4000 in
theorem tw73 : (Jvm.Cond.fieldLink "OneBack$Walk" (127 : Nat) "OneBack$Town" "needs" "[I") ∈ GT := GT_m (ck1 (m8 (m8 (m8 (m8 (m8 (m8 (m8 (m8 (m8 (List.Mem.tail _ (List.Mem.head _)))))))))))) rfl
set_option maxRecDepth 4000 in
theorem tw74 : (Jvm.Cond.fieldLink "OneBack" (139 : Nat) "OneBack$Town" "needs" "[I") ∈ GT := GT_m (ck1 (m8 (m8 (m8 (m8 (m8 (m8 (m8 (m8 (m8 (List.Mem.tail _ (List.Mem.tail _ (List.Mem.head _))))))))))))) rfl
set_option maxRecDepth 4000 in
theorem tw75 : (Jvm.Cond.fieldLink "OneBack$Reader" (221 : Nat) "OneBack$Town" "needs" "[I") ∈ GT := GT_m (ck1 (m8 (m8 (m8 (m8 (m8 (m8 (m8 (m8 (m8 (List.Mem.tail _ (List.Mem.tail _ (List.Mem.tail _ (List.Mem.head _)))))))))))))) rfl
set_option maxRecDepth 4000 in
theorem tw76 : (Jvm.Cond.fieldLink "OneBack$Town" (18 : Nat) "OneBack$Town" "watch" "[I") ∈ GT := GT_m (ck1 (m8 (m8 (m8 (m8 (m8 (m8 (m8 (m8 (m8 (List.Mem.tail _ (List.Mem.tail _ (List.Mem.tail _ (List.Mem.tail _ (List.Mem.head _))))))))))))))) rfl
set_option maxRecDepth 4000 in
theorem tw77 : (Jvm.Cond.fieldLink "OneBack$Supply" (35 : Nat) "OneBack$Town" "watch" "[I") ∈ GT := GT_m (ck1 (m8 (m8 (m8 (m8 (m8 (m8 (m8 (m8 (m8 (List.Mem.tail _ (List.Mem.tail _ (List.Mem.tail _ (List.Mem.tail _ (List.Mem.tail _ (List.Mem.head _)))))))))))))))) rfl
set_option maxRecDepth 4000 in
theorem tw78 : (Jvm.Cond.fieldLink "OneBack" (108 : Nat) "OneBack$Town" "watch" "[I") ∈ GT := GT_m (ck1 (m8 (m8 (m8 (m8 (m8 (m8 (m8 (m8 (m8 (List.Mem.tail _ (List.Mem.tail _ (List.Mem.tail _ (List.Mem.tail _ (List.Mem.tail _ (List.Mem.tail _ (List.Mem.head _))))))))))))))))) rfl
set_option maxRecDepth 4000 in
theorem tw79 : (Jvm.Cond.fieldLink "OneBack$Walk" (157 : Nat) "OneBack$Town" "watch" "[I") ∈ GT := GT_m (ck1 (m8 (m8 (m8 (m8 (m8 (m8 (m8 (m8 (m8 (List.Mem.tail _ (List.Mem.tail _ (List.Mem.tail _ (List.Mem.tail _ (List.Mem.tail _ (List.Mem.tail _ (List.Mem.tail _ (List.Mem.head _)))))))))))))))))) rfl
set_option maxRecDepth 4000 in
theorem tw80 : (Jvm.Cond.fieldLink "OneBack$Reader" (223 : Nat) "OneBack$Town" "watch" "[I") ∈ GT := GT_m (ck1 (m8 (m8 (m8 (m8 (m8 (m8 (m8 (m8 (m8 (m8 (List.Mem.head _)))))))))))) rfl
set_option maxRecDepth 4000 in
theorem tw81 : (Jvm.Cond.fieldLink "OneBack$Town" (21 : Nat) "OneBack$Town" "passes" "[I") ∈ GT := GT_m (ck1 (m8 (m8 (m8 (m8 (m8 (m8 (m8 (m8 (m8 (m8 (List.Mem.tail _ (List.Mem.head _))))))))))))) rfl
set_option maxRecDepth 4000 in
theorem tw82 : (Jvm.Cond.fieldLink "OneBack" (112 : Nat) "OneBack$Town" "passes" "[I") ∈ GT := GT_m (ck1 (m8 (m8 (m8 (m8 (m8 (m8 (m8 (m8 (m8 (m8 (List.Mem.tail _ (List.Mem.tail _ (List.Mem.head _)))))))))))))) rfl
set_option maxRecDepth 4000 in
theorem tw83 : (Jvm.Cond.fieldLink "OneBack$Reader" (225 : Nat) "OneBack$Town" "passes" "[I") ∈ GT := GT_m (ck1 (m8 (m8 (m8 (m8 (m8 (m8 (m8 (m8 (m8 (m8 (List.Mem.tail _ (List.Mem.tail _ (List.Mem.tail _ (List.Mem.head _))))))))))))))) rfl
set_option maxRecDepth 4000 in
theorem tw84 : (Jvm.Cond.fieldLink "OneBack$Town" (24 : Nat) "OneBack$Town" "weight" "[I") ∈ GT := GT_m (ck1 (m8 (m8 (m8 (m8 (m8 (m8 (m8 (m8 (m8 (m8 (List.Mem.tail _ (List.Mem.tail _ (List.Mem.tail _ (List.Mem.tail _ (List.Mem.head _)))))))))))))))) rfl
set_option maxRecDepth 4000 in
theorem tw85 : (Jvm.Cond.fieldLink "OneBack$Porter" (55 : Nat) "OneBack$Town" "weight" "[I") ∈ GT := GT_m (ck1 (m8 (m8 (m8 (m8 (m8 (m8 (m8 (m8 (m8 (m8 (List.Mem.tail _ (List.Mem.tail _ (List.Mem.tail _ (List.Mem.tail _ (List.Mem.tail _ (List.Mem.head _))))))))))))))))) rfl
set_option maxRecDepth 4000 in
theorem tw86 : (Jvm.Cond.fieldLink "OneBack" (118 : Nat) "OneBack$Town" "weight" "[I") ∈ GT := GT_m (ck1 (m8 (m8 (m8 (m8 (m8 (m8 (m8 (m8 (m8 (m8 (List.Mem.tail _ (List.Mem.tail _ (List.Mem.tail _ (List.Mem.tail _ (List.Mem.tail _ (List.Mem.tail _ (List.Mem.head _)))))))))))))))))) rfl
set_option maxRecDepth 4000 in
theorem tw87 : (Jvm.Cond.fieldLink "OneBack$Supply" (61 : Nat) "OneBack$Town" "weight" "[I") ∈ GT := GT_m (ck1 (m8 (m8 (m8 (m8 (m8 (m8 (m8 (m8 (m8 (m8 (List.Mem.tail _ (List.Mem.tail _ (List.Mem.tail _ (List.Mem.tail _ (List.Mem.tail _ (List.Mem.tail _ (List.Mem.tail _ (List.Mem.head _))))))))))))))))))) rfl
set_option maxRecDepth 4000 in
theorem tw88 : (Jvm.Cond.fieldLink "OneBack$Reader" (230 : Nat) "OneBack$Town" "weight" "[I") ∈ GT := GT_m (ck1 (m8 (m8 (m8 (m8 (m8 (m8 (m8 (m8 (m8 (m8 (m8 (List.Mem.head _))))))))))))) rfl
set_option maxRecDepth 4000 in
theorem tw89 : (Jvm.Cond.fieldLink "OneBack$Town" (27 : Nat) "OneBack$Town" "worth" "[I") ∈ GT := GT_m (ck1 (m8 (m8 (m8 (m8 (m8 (m8 (m8 (m8 (m8 (m8 (m8 (List.Mem.tail _ (List.Mem.head _)))))))))))))) rfl
set_option maxRecDepth 4000 in
theorem tw90 : (Jvm.Cond.fieldLink "OneBack$Porter" (58 : Nat) "OneBack$Town" "worth" "[I") ∈ GT := GT_m (ck1 (m8 (m8 (m8 (m8 (m8 (m8 (m8 (m8 (m8 (m8 (m8 (List.Mem.tail _ (List.Mem.tail _ (List.Mem.head _))))))))))))))) rfl
set_option maxRecDepth 4000 in
theorem tw91 : (Jvm.Cond.fieldLink "OneBack" (121 : Nat) "OneBack$Town" "worth" "[I") ∈ GT := GT_m (ck1 (m8 (m8 (m8 (m8 (m8 (m8 (m8 (m8 (m8 (m8 (m8 (List.Mem.tail _ (List.Mem.tail _ (List.Mem.tail _ (List.Mem.head _)))))))))))))))) rfl
set_option maxRecDepth 4000 in
theorem tw92 : (Jvm.Cond.fieldLink "OneBack$Reader" (232 : Nat) "OneBack$Town" "worth" "[I") ∈ GT := GT_m (ck1 (m8 (m8 (m8 (m8 (m8 (m8 (m8 (m8 (m8 (m8 (m8 (List.Mem.tail _ (List.Mem.tail _ (List.Mem.tail _ (List.Mem.tail _ (List.Mem.head _))))))))))))))))) rfl
set_option maxRecDepth 4000 in
theorem tw93 : (Jvm.Cond.fieldLink "OneBack$Town" (30 : Nat) "OneBack$Town" "limit" "[I") ∈ GT := GT_m (ck1 (m8 (m8 (m8 (m8 (m8 (m8 (m8 (m8 (m8 (m8 (m8 (List.Mem.tail _ (List.Mem.tail _ (List.Mem.tail _ (List.Mem.tail _ (List.Mem.tail _ (List.Mem.head _)))))))))))))))))) rfl
set_option maxRecDepth 4000 in
theorem tw94 : (Jvm.Cond.fieldLink "OneBack" (127 : Nat) "OneBack$Town" "limit" "[I") ∈ GT := GT_m (ck1 (m8 (m8 (m8 (m8 (m8 (m8 (m8 (m8 (m8 (m8 (m8 (List.Mem.tail _ (List.Mem.tail _ (List.Mem.tail _ (List.Mem.tail _ (List.Mem.tail _ (List.Mem.tail _ (List.Mem.head _))))))))))))))))))) rfl
set_option maxRecDepth 4000 in
theorem tw95 : (Jvm.Cond.fieldLink "OneBack$Walk" (148 : Nat) "OneBack$Town" "limit" "[I") ∈ GT := GT_m (ck1 (m8 (m8 (m8 (m8 (m8 (m8 (m8 (m8 (m8 (m8 (m8 (List.Mem.tail _ (List.Mem.tail _ (List.Mem.tail _ (List.Mem.tail _ (List.Mem.tail _ (List.Mem.tail _ (List.Mem.tail _ (List.Mem.head _)))))))))))))))))))) rfl
set_option maxRecDepth 4000 in
theorem tw96 : (Jvm.Cond.fieldLink "OneBack$Town" (33 : Nat) "OneBack$Town" "father" "[I") ∈ GT := GT_m (ck1 (m8 (m8 (m8 (m8 (m8 (m8 (m8 (m8 (m8 (m8 (m8 (m8 (List.Mem.head _)))))))))))))) rfl
set_option maxRecDepth 4000 in
theorem tw97 : (Jvm.Cond.fieldLink "OneBack" (130 : Nat) "OneBack$Town" "father" "[I") ∈ GT := GT_m (ck1 (m8 (m8 (m8 (m8 (m8 (m8 (m8 (m8 (m8 (m8 (m8 (m8 (List.Mem.tail _ (List.Mem.head _))))))))))))))) rfl
set_option maxRecDepth 4000 in
theorem tw98 : (Jvm.Cond.fieldLink "OneBack$Reader" (234 : Nat) "OneBack$Town" "father" "[I") ∈ GT := GT_m (ck1 (m8 (m8 (m8 (m8 (m8 (m8 (m8 (m8 (m8 (m8 (m8 (m8 (List.Mem.tail _ (List.Mem.tail _ (List.Mem.head _)))))))))))))))) rfl
set_option maxRecDepth 4000 in
theorem tw120 : (Jvm.Cond.arrayClass Jvm.ClassFile.FieldType.byte) ∈ GT := GT_m (ck1 (m8 (m8 (m8 (m8 (m8 (m8 (m8 (m8 (m8 (m8 (m8 (m8 (m8 (m8 (m8 (List.Mem.head _))))))))))))))))) rfl
set_option maxRecDepth 4000 in
theorem tw121 : (Jvm.Cond.arrayClass Jvm.ClassFile.FieldType.int) ∈ GT := GT_m (ck1 (m8 (m8 (m8 (m8 (m8 (m8 (m8 (m8 (m8 (m8 (m8 (m8 (m8 (m8 (m8 (List.Mem.tail _ (List.Mem.head _)))))))))))))))))) rfl
set_option maxRecDepth 4000 in
theorem tw122 : (Jvm.Cond.instantiable "OneBack$Law" (3 : Nat)) ∈ GT := GT_m (ck1 (m8 (m8 (m8 (m8 (m8 (m8 (m8 (m8 (m8 (m8 (m8 (m8 (m8 (m8 (m8 (List.Mem.tail _ (List.Mem.tail _ (List.Mem.head _))))))))))))))))))) rfl
set_option maxRecDepth 4000 in
theorem tw124 : (Jvm.Cond.instanceMethod ({ cls := "OneBack$Law", name := "<init>", desc := "()V" } : Jvm.MethodName)) ∈ GT := GT_m (ck1 (m8 (m8 (m8 (m8 (m8 (m8 (m8 (m8 (m8 (m8 (m8 (m8 (m8 (m8 (m8 (List.Mem.tail _ (List.Mem.tail _ (List.Mem.tail _ (List.Mem.tail _ (List.Mem.head _))))))))))))))))))))) rfl
set_option maxRecDepth 4000 in
theorem tw125 : (Jvm.Cond.code ({ cls := "OneBack$Law", name := "<init>", desc := "()V" } : Jvm.MethodName) prog_2_method_1_code (1 : Nat) (Option.none : Option Jvm.ClassFile.FieldType)) ∈ GT := GT_m (ck1 (m8 (m8 (m8 (m8 (m8 (m8 (m8 (m8 (m8 (m8 (m8 (m8 (m8 (m8 (m8 (List.Mem.tail _ (List.Mem.tail _ (List.Mem.tail _ (List.Mem.tail _ (List.Mem.tail _ (List.Mem.head _)))))))))))))))))))))) rfl
set_option maxRecDepth 4000 in
theorem tw126 : (Jvm.Cond.methodLink "OneBack$Law" (3 : Nat) ({ cls := "java/lang/Object", name := "<init>", desc := "()V" } : Jvm.MethodName)) ∈ GT := GT_m (ck1 (m8 (m8 (m8 (m8 (m8 (m8 (m8 (m8 (m8 (m8 (m8 (m8 (m8 (m8 (m8 (List.Mem.tail _ (List.Mem.tail _ (List.Mem.tail _ (List.Mem.tail _ (List.Mem.tail _ (List.Mem.tail _ (List.Mem.head _))))))))))))))))))))))) rfl
set_option maxRecDepth 4000 in
theorem tw127 : (Jvm.Cond.fieldLink "OneBack$Law" (9 : Nat) "OneBack$Law" "rate" "I") ∈ GT := GT_m (ck1 (m8 (m8 (m8 (m8 (m8 (m8 (m8 (m8 (m8 (m8 (m8 (m8 (m8 (m8 (m8 (List.Mem.tail _ (List.Mem.tail _ (List.Mem.tail _ (List.Mem.tail _ (List.Mem.tail _ (List.Mem.tail _ (List.Mem.tail _ (List.Mem.head _)))))))))))))))))))))))) rfl
set_option maxRecDepth 4000 in
theorem tw128 : (Jvm.Cond.fieldLink "OneBack" (152 : Nat) "OneBack$Law" "rate" "I") ∈ GT := GT_m (ck1 (m8 (m8 (m8 (m8 (m8 (m8 (m8 (m8 (m8 (m8 (m8 (m8 (m8 (m8 (m8 (m8 (List.Mem.head _)))))))))))))))))) rfl
set_option maxRecDepth 4000 in
theorem tw129 : (Jvm.Cond.fieldLink "OneBack$Reader" (240 : Nat) "OneBack$Law" "rate" "I") ∈ GT := GT_m (ck1 (m8 (m8 (m8 (m8 (m8 (m8 (m8 (m8 (m8 (m8 (m8 (m8 (m8 (m8 (m8 (m8 (List.Mem.tail _ (List.Mem.head _))))))))))))))))))) rfl
set_option maxRecDepth 4000 in
theorem tw130 : (Jvm.Cond.fieldLink "OneBack$Law" (15 : Nat) "OneBack$Law" "caughtAt" "I") ∈ GT := GT_m (ck1 (m8 (m8 (m8 (m8 (m8 (m8 (m8 (m8 (m8 (m8 (m8 (m8 (m8 (m8 (m8 (m8 (List.Mem.tail _ (List.Mem.tail _ (List.Mem.head _)))))))))))))))))))) rfl
set_option maxRecDepth 4000 in
theorem tw131 : (Jvm.Cond.fieldLink "OneBack" (157 : Nat) "OneBack$Law" "caughtAt" "I") ∈ GT := GT_m (ck1 (m8 (m8 (m8 (m8 (m8 (m8 (m8 (m8 (m8 (m8 (m8 (m8 (m8 (m8 (m8 (m8 (List.Mem.tail _ (List.Mem.tail _ (List.Mem.tail _ (List.Mem.head _))))))))))))))))))))) rfl
set_option maxRecDepth 4000 in
theorem tw132 : (Jvm.Cond.fieldLink "OneBack$Walk" (170 : Nat) "OneBack$Law" "caughtAt" "I") ∈ GT := GT_m (ck1 (m8 (m8 (m8 (m8 (m8 (m8 (m8 (m8 (m8 (m8 (m8 (m8 (m8 (m8 (m8 (m8 (List.Mem.tail _ (List.Mem.tail _ (List.Mem.tail _ (List.Mem.tail _ (List.Mem.head _)))))))))))))))))))))) rfl
set_option maxRecDepth 4000 in
theorem tw133 : (Jvm.Cond.fieldLink "OneBack$Reader" (242 : Nat) "OneBack$Law" "caughtAt" "I") ∈ GT := GT_m (ck1 (m8 (m8 (m8 (m8 (m8 (m8 (m8 (m8 (m8 (m8 (m8 (m8 (m8 (m8 (m8 (m8 (List.Mem.tail _ (List.Mem.tail _ (List.Mem.tail _ (List.Mem.tail _ (List.Mem.tail _ (List.Mem.head _))))))))))))))))))))))) rfl
set_option maxRecDepth 4000 in
theorem tw134 : (Jvm.Cond.fieldLink "OneBack$Law" (18 : Nat) "OneBack$Law" "doubles" "I") ∈ GT := GT_m (ck1 (m8 (m8 (m8 (m8 (m8 (m8 (m8 (m8 (m8 (m8 (m8 (m8 (m8 (m8 (m8 (m8 (List.Mem.tail _ (List.Mem.tail _ (List.Mem.tail _ (List.Mem.tail _ (List.Mem.tail _ (List.Mem.tail _ (List.Mem.head _)))))))))))))))))))))))) rfl
set_option maxRecDepth 4000 in
theorem tw135 : (Jvm.Cond.fieldLink "OneBack$Reader" (245 : Nat) "OneBack$Law" "doubles" "I") ∈ GT := GT_m (ck1 (m8 (m8 (m8 (m8 (m8 (m8 (m8 (m8 (m8 (m8 (m8 (m8 (m8 (m8 (m8 (m8 (List.Mem.tail _ (List.Mem.tail _ (List.Mem.tail _ (List.Mem.tail _ (List.Mem.tail _ (List.Mem.tail _ (List.Mem.tail _ (List.Mem.head _))))))))))))))))))))))))) rfl
set_option maxRecDepth 4000 in
theorem tw143 : (Jvm.Cond.instantiable "OneBack$Nights" (5 : Nat)) ∈ GT := GT_m (ck1 (m8 (m8 (m8 (m8 (m8 (m8 (m8 (m8 (m8 (m8 (m8 (m8 (m8 (m8 (m8 (m8 (m8 (List.Mem.tail _ (List.Mem.tail _ (List.Mem.tail _ (List.Mem.tail _ (List.Mem.tail _ (List.Mem.tail _ (List.Mem.tail _ (List.Mem.head _)))))))))))))))))))))))))) rfl
set_option maxRecDepth 4000 in
theorem tw145 : (Jvm.Cond.instanceMethod ({ cls := "OneBack$Nights", name := "<init>", desc := "()V" } : Jvm.MethodName)) ∈ GT := GT_m (ck1 (m8 (m8 (m8 (m8 (m8 (m8 (m8 (m8 (m8 (m8 (m8 (m8 (m8 (m8 (m8 (m8 (m8 (m8 (List.Mem.tail _ (List.Mem.head _))))))))))))))))))))) rfl
set_option maxRecDepth 4000 in
theorem tw146 : (Jvm.Cond.code ({ cls := "OneBack$Nights", name := "<init>", desc := "()V" } : Jvm.MethodName) prog_3_method_1_code (1 : Nat) (Option.none : Option Jvm.ClassFile.FieldType)) ∈ GT := GT_m (ck1 (m8 (m8 (m8 (m8 (m8 (m8 (m8 (m8 (m8 (m8 (m8 (m8 (m8 (m8 (m8 (m8 (m8 (m8 (List.Mem.tail _ (List.Mem.tail _ (List.Mem.head _)))))))))))))))))))))) rfl
set_option maxRecDepth 4000 in
theorem tw147 : (Jvm.Cond.methodLink "OneBack$Nights" (3 : Nat) ({ cls := "java/lang/Object", name := "<init>", desc := "()V" } : Jvm.MethodName)) ∈ GT := GT_m (ck1 (m8 (m8 (m8 (m8 (m8 (m8 (m8 (m8 (m8 (m8 (m8 (m8 (m8 (m8 (m8 (m8 (m8 (m8 (List.Mem.tail _ (List.Mem.tail _ (List.Mem.tail _ (List.Mem.head _))))))))))))))))))))))) rfl
set_option maxRecDepth 4000 in
theorem tw148 : (Jvm.Cond.fieldLink "OneBack$Nights" (9 : Nat) "OneBack$Nights" "size" "I") ∈ GT := GT_m (ck1 (m8 (m8 (m8 (m8 (m8 (m8 (m8 (m8 (m8 (m8 (m8 (m8 (m8 (m8 (m8 (m8 (m8 (m8 (List.Mem.tail _ (List.Mem.tail _ (List.Mem.tail _ (List.Mem.tail _ (List.Mem.head _)))))))))))))))))))))))) rfl
set_option maxRecDepth 4000 in
theorem tw149 : (Jvm.Cond.fieldLink "OneBack$Walk" (77 : Nat) "OneBack$Nights" "size" "I") ∈ GT := GT_m (ck1 (m8 (m8 (m8 (m8 (m8 (m8 (m8 (m8 (m8 (m8 (m8 (m8 (m8 (m8 (m8 (m8 (m8 (m8 (List.Mem.tail _ (List.Mem.tail _ (List.Mem.tail _ (List.Mem.tail _ (List.Mem.tail _ (List.Mem.head _))))))))))))))))))))))))) rfl
set_option maxRecDepth 4000 in
theorem tw150 : (Jvm.Cond.fieldLink "OneBack$Reader" (138 : Nat) "OneBack$Nights" "size" "I") ∈ GT := GT_m (ck1 (m8 (m8 (m8 (m8 (m8 (m8 (m8 (m8 (m8 (m8 (m8 (m8 (m8 (m8 (m8 (m8 (m8 (m8 (List.Mem.tail _ (List.Mem.tail _ (List.Mem.tail _ (List.Mem.tail _ (List.Mem.tail _ (List.Mem.tail _ (List.Mem.head _)))))))))))))))))))))))))) rfl
set_option maxRecDepth 4000 in
theorem tw151 : (Jvm.Cond.fieldLink "OneBack" (168 : Nat) "OneBack$Nights" "size" "I") ∈ GT := GT_m (ck1 (m8 (m8 (m8 (m8 (m8 (m8 (m8 (m8 (m8 (m8 (m8 (m8 (m8 (m8 (m8 (m8 (m8 (m8 (List.Mem.tail _ (List.Mem.tail _ (List.Mem.tail _ (List.Mem.tail _ (List.Mem.tail _ (List.Mem.tail _ (List.Mem.tail _ (List.Mem.head _))))))))))))))))))))))))))) rfl
set_option maxRecDepth 4000 in
theorem tw152 : (Jvm.Cond.fieldLink "OneBack$Nights" (15 : Nat) "OneBack$Nights" "kind" "[I") ∈ GT := GT_m (ck1 (m8 (m8 (m8 (m8 (m8 (m8 (m8 (m8 (m8 (m8 (m8 (m8 (m8 (m8 (m8 (m8 (m8 (m8 (m8 (List.Mem.head _))))))))))))))))))))) rfl
set_option maxRecDepth 4000 in
theorem tw153 : (Jvm.Cond.fieldLink "OneBack$Walk" (101 : Nat) "OneBack$Nights" "kind" "[I") ∈ GT := GT_m (ck1 (m8 (m8 (m8 (m8 (m8 (m8 (m8 (m8 (m8 (m8 (m8 (m8 (m8 (m8 (m8 (m8 (m8 (m8 (m8 (List.Mem.tail _ (List.Mem.head _)))))))))))))))))))))) rfl
set_option maxRecDepth 4000 in
theorem tw154 : (Jvm.Cond.fieldLink "OneBack" (173 : Nat) "OneBack$Nights" "kind" "[I") ∈ GT := GT_m (ck1 (m8 (m8 (m8 (m8 (m8 (m8 (m8 (m8 (m8 (m8 (m8 (m8 (m8 (m8 (m8 (m8 (m8 (m8 (m8 (List.Mem.tail _ (List.Mem.tail _ (List.Mem.head _))))))))))))))))))))))) rfl
set_option maxRecDepth 4000 in
theorem tw155 : (Jvm.Cond.fieldLink "OneBack$Nights" (19 : Nat) "OneBack$Nights" "first" "[I") ∈ GT := GT_m (ck1 (m8 (m8 (m8 (m8 (m8 (m8 (m8 (m8 (m8 (m8 (m8 (m8 (m8 (m8 (m8 (m8 (m8 (m8 (m8 (List.Mem.tail _ (List.Mem.tail _ (List.Mem.tail _ (List.Mem.head _)))))))))))))))))))))))) rfl
set_option maxRecDepth 4000 in
theorem tw156 : (Jvm.Cond.fieldLink "OneBack$Walk" (92 : Nat) "OneBack$Nights" "first" "[I") ∈ GT := GT_m (ck1 (m8 (m8 (m8 (m8 (m8 (m8 (m8 (m8 (m8 (m8 (m8 (m8 (m8 (m8 (m8 (m8 (m8 (m8 (m8 (List.Mem.tail _ (List.Mem.tail _ (List.Mem.tail _ (List.Mem.tail _ (List.Mem.head _))))))))))))))))))))))))) rfl
set_option maxRecDepth 4000 in
theorem tw157 : (Jvm.Cond.fieldLink "OneBack" (176 : Nat) "OneBack$Nights" "first" "[I") ∈ GT := GT_m (ck1 (m8 (m8 (m8 (m8 (m8 (m8 (m8 (m8 (m8 (m8 (m8 (m8 (m8 (m8 (m8 (m8 (m8 (m8 (m8 (List.Mem.tail _ (List.Mem.tail _ (List.Mem.tail _ (List.Mem.tail _ (List.Mem.tail _ (List.Mem.head _)))))))))))))))))))))))))) rfl
set_option maxRecDepth 4000 in
theorem tw158 : (Jvm.Cond.fieldLink "OneBack$Nights" (22 : Nat) "OneBack$Nights" "second" "[I") ∈ GT := GT_m (ck1 (m8 (m8 (m8 (m8 (m8 (m8 (m8 (m8 (m8 (m8 (m8 (m8 (m8 (m8 (m8 (m8 (m8 (m8 (m8 (List.Mem.tail _ (List.Mem.tail _ (List.Mem.tail _ (List.Mem.tail _ (List.Mem.tail _ (List.Mem.tail _ (List.Mem.head _))))))))))))))))))))))))))) rfl
set_option maxRecDepth 4000 in
theorem tw159 : (Jvm.Cond.fieldLink "OneBack$Walk" (95 : Nat) "OneBack$Nights" "second" "[I") ∈ GT := GT_m (ck1 (m8 (m8 (m8 (m8 (m8 (m8 (m8 (m8 (m8 (m8 (m8 (m8 (m8 (m8 (m8 (m8 (m8 (m8 (m8 (List.Mem.tail _ (List.Mem.tail _ (List.Mem.tail _ (List.Mem.tail _ (List.Mem.tail _ (List.Mem.tail _ (List.Mem.tail _ (List.Mem.head _)))))))))))))))))))))))))))) rfl
set_option maxRecDepth 4000 in
theorem tw160 : (Jvm.Cond.fieldLink "OneBack" (179 : Nat) "OneBack$Nights" "second" "[I") ∈ GT := GT_m (ck1 (m8 (m8 (m8 (m8 (m8 (m8 (m8 (m8 (m8 (m8 (m8 (m8 (m8 (m8 (m8 (m8 (m8 (m8 (m8 (m8 (List.Mem.head _)))))))))))))))))))))) rfl
set_option maxRecDepth 4000 in
theorem tw161 : (Jvm.Cond.fieldLink "OneBack$Nights" (25 : Nat) "OneBack$Nights" "third" "[I") ∈ GT := GT_m (ck1 (m8 (m8 (m8 (m8 (m8 (m8 (m8 (m8 (m8 (m8 (m8 (m8 (m8 (m8 (m8 (m8 (m8 (m8 (m8 (m8 (List.Mem.tail _ (List.Mem.head _))))))))))))))))))))))) rfl
set_option maxRecDepth 4000 in
theorem tw162 : (Jvm.Cond.fieldLink "OneBack$Walk" (98 : Nat) "OneBack$Nights" "third" "[I") ∈ GT := GT_m (ck1 (m8 (m8 (m8 (m8 (m8 (m8 (m8 (m8 (m8 (m8 (m8 (m8 (m8 (m8 (m8 (m8 (m8 (m8 (m8 (m8 (List.Mem.tail _ (List.Mem.tail _ (List.Mem.head _)))))))))))))))))))))))) rfl
set_option maxRecDepth 4000 in
theorem tw163 : (Jvm.Cond.fieldLink "OneBack" (182 : Nat) "OneBack$Nights" "third" "[I") ∈ GT := GT_m (ck1 (m8 (m8 (m8 (m8 (m8 (m8 (m8 (m8 (m8 (m8 (m8 (m8 (m8 (m8 (m8 (m8 (m8 (m8 (m8 (m8 (List.Mem.tail _ (List.Mem.tail _ (List.Mem.tail _ (List.Mem.head _))))))))))))))))))))))))) rfl
set_option maxRecDepth 4000 in
theorem tw175 : (Jvm.Cond.instantiable "OneBack$Sight" (4 : Nat)) ∈ GT := GT_m (ck1 (m8 (m8 (m8 (m8 (m8 (m8 (m8 (m8 (m8 (m8 (m8 (m8 (m8 (m8 (m8 (m8 (m8 (m8 (m8 (m8 (m8 (List.Mem.tail _ (List.Mem.tail _ (List.Mem.tail _ (List.Mem.tail _ (List.Mem.tail _ (List.Mem.tail _ (List.Mem.tail _ (List.Mem.head _)))))))))))))))))))))))))))))) rfl
set_option maxRecDepth 4000 in
theorem tw176 : (Jvm.Cond.methodLink "OneBack$Told" (56 : Nat) ({ cls := "OneBack$Sight", name := "<init>", desc := "()V" } : Jvm.MethodName)) ∈ GT := GT_m (ck1 (m8 (m8 (m8 (m8 (m8 (m8 (m8 (m8 (m8 (m8 (m8 (m8 (m8 (m8 (m8 (m8 (m8 (m8 (m8 (m8 (m8 (m8 (List.Mem.head _)))))))))))))))))))))))) rfl
set_option maxRecDepth 4000 in
theorem tw177 : (Jvm.Cond.instanceMethod ({ cls := "OneBack$Sight", name := "<init>", desc := "()V" } : Jvm.MethodName)) ∈ GT := GT_m (ck1 (m8 (m8 (m8 (m8 (m8 (m8 (m8 (m8 (m8 (m8 (m8 (m8 (m8 (m8 (m8 (m8 (m8 (m8 (m8 (m8 (m8 (m8 (List.Mem.tail _ (List.Mem.head _))))))))))))))))))))))))) rfl
set_option maxRecDepth 4000 in
theorem tw178 : (Jvm.Cond.code ({ cls := "OneBack$Sight", name := "<init>", desc := "()V" } : Jvm.MethodName) prog_6_method_1_code (1 : Nat) (Option.none : Option Jvm.ClassFile.FieldType)) ∈ GT := GT_m (ck1 (m8 (m8 (m8 (m8 (m8 (m8 (m8 (m8 (m8 (m8 (m8 (m8 (m8 (m8 (m8 (m8 (m8 (m8 (m8 (m8 (m8 (m8 (List.Mem.tail _ (List.Mem.tail _ (List.Mem.head _)))))))))))))))))))))))))) rfl
set_option maxRecDepth 4000 in
theorem tw179 : (Jvm.Cond.methodLink "OneBack$Sight" (3 : Nat) ({ cls := "java/lang/Object", name := "<init>", desc := "()V" } : Jvm.MethodName)) ∈ GT := GT_m (ck1 (m8 (m8 (m8 (m8 (m8 (m8 (m8 (m8 (m8 (m8 (m8 (m8 (m8 (m8 (m8 (m8 (m8 (m8 (m8 (m8 (m8 (m8 (List.Mem.tail _ (List.Mem.tail _ (List.Mem.tail _ (List.Mem.head _))))))))))))))))))))))))))) rfl
set_option maxRecDepth 4000 in
theorem tw180 : (Jvm.Cond.methodLink "OneBack$Sight" (25 : Nat) ({ cls := "OneBack$Sight", name := "clear", desc := "()V" } : Jvm.MethodName)) ∈ GT := GT_m (ck1 (m8 (m8 (m8 (m8 (m8 (m8 (m8 (m8 (m8 (m8 (m8 (m8 (m8 (m8 (m8 (m8 (m8 (m8 (m8 (m8 (m8 (m8 (List.Mem.tail _ (List.Mem.tail _ (List.Mem.tail _ (List.Mem.tail _ (List.Mem.head _)))))))))))))))))))))))))))) rfl
set_option maxRecDepth 4000 in
theorem tw181 : (Jvm.Cond.instanceMethod ({ cls := "OneBack$Sight", name := "clear", desc := "()V" } : Jvm.MethodName)) ∈ GT := GT_m (ck1 (m8 (m8 (m8 (m8 (m8 (m8 (m8 (m8 (m8 (m8 (m8 (m8 (m8 (m8 (m8 (m8 (m8 (m8 (m8 (m8 (m8 (m8 (List.Mem.tail _ (List.Mem.tail _ (List.Mem.tail _ (List.Mem.tail _ (List.Mem.tail _ (List.Mem.head _))))))))))))))))))))))))))))) rfl
set_option maxRecDepth 4000 in
theorem tw182 : (Jvm.Cond.selects "OneBack$Sight" ({ cls := "OneBack$Sight", name := "clear", desc := "()V" } : Jvm.MethodName) ({ cls := "OneBack$Sight", name := "clear", desc := "()V" } : Jvm.MethodName)) ∈ GT := GT_m (ck1 (m8 (m8 (m8 (m8 (m8 (m8 (m8 (m8 (m8 (m8 (m8 (m8 (m8 (m8 (m8 (m8 (m8 (m8 (m8 (m8 (m8 (m8 (List.Mem.tail _ (List.Mem.tail _ (List.Mem.tail _ (List.Mem.tail _ (List.Mem.tail _ (List.Mem.tail _ (List.Mem.head _)))))))))))))))))))))))))))))) rfl
set_option maxRecDepth 4000 in
theorem tw183 : (Jvm.Cond.code ({ cls := "OneBack$Sight", name := "clear", desc := "()V" } : Jvm.MethodName) prog_6_method_2_code (1 : Nat) (Option.none : Option Jvm.ClassFile.FieldType)) ∈ GT := GT_m (ck1 (m8 (m8 (m8 (m8 (m8 (m8 (m8 (m8 (m8 (m8 (m8 (m8 (m8 (m8 (m8 (m8 (m8 (m8 (m8 (m8 (m8 (m8 (List.Mem.tail _ (List.Mem.tail _ (List.Mem.tail _ (List.Mem.tail _ (List.Mem.tail _ (List.Mem.tail _ (List.Mem.tail _ (List.Mem.head _))))))))))))))))))))))))))))))) rfl
set_option maxRecDepth 4000 in
theorem tw185 : (Jvm.Cond.fieldLink "OneBack$Sight" (9 : Nat) "OneBack$Sight" "size" "I") ∈ GT := GT_m (ck1 (m8 (m8 (m8 (m8 (m8 (m8 (m8 (m8 (m8 (m8 (m8 (m8 (m8 (m8 (m8 (m8 (m8 (m8 (m8 (m8 (m8 (m8 (m8 (List.Mem.tail _ (List.Mem.head _)))))))))))))))))))))))))) rfl
set_option maxRecDepth 4000 in
theorem tw186 : (Jvm.Cond.fieldLink "OneBack$Reader" (141 : Nat) "OneBack$Sight" "size" "I") ∈ GT := GT_m (ck1 (m8 (m8 (m8 (m8 (m8 (m8 (m8 (m8 (m8 (m8 (m8 (m8 (m8 (m8 (m8 (m8 (m8 (m8 (m8 (m8 (m8 (m8 (m8 (List.Mem.tail _ (List.Mem.tail _ (List.Mem.head _))))))))))))))))))))))))))) rfl
set_option maxRecDepth 4000 in
theorem tw187 : (Jvm.Cond.fieldLink "OneBack" (251 : Nat) "OneBack$Sight" "size" "I") ∈ GT := GT_m (ck1 (m8 (m8 (m8 (m8 (m8 (m8 (m8 (m8 (m8 (m8 (m8 (m8 (m8 (m8 (m8 (m8 (m8 (m8 (m8 (m8 (m8 (m8 (m8 (List.Mem.tail _ (List.Mem.tail _ (List.Mem.tail _ (List.Mem.head _)))))))))))))))))))))))))))) rfl
set_option maxRecDepth 4000 in
theorem tw188 : (Jvm.Cond.fieldLink "OneBack$Sight" (15 : Nat) "OneBack$Sight" "house" "[I") ∈ GT := GT_m (ck1 (m8 (m8 (m8 (m8 (m8 (m8 (m8 (m8 (m8 (m8 (m8 (m8 (m8 (m8 (m8 (m8 (m8 (m8 (m8 (m8 (m8 (m8 (m8 (List.Mem.tail _ (List.Mem.tail _ (List.Mem.tail _ (List.Mem.tail _ (List.Mem.head _))))))))))))))))))))))))))))) rfl
set_option maxRecDepth 4000 in
theorem tw189 : (Jvm.Cond.fieldLink "OneBack" (254 : Nat) "OneBack$Sight" "house" "[I") ∈ GT := GT_m (ck1 (m8 (m8 (m8 (m8 (m8 (m8 (m8 (m8 (m8 (m8 (m8 (m8 (m8 (m8 (m8 (m8 (m8 (m8 (m8 (m8 (m8 (m8 (m8 (List.Mem.tail _ (List.Mem.tail _ (List.Mem.tail _ (List.Mem.tail _ (List.Mem.tail _ (List.Mem.head _)))))))))))))))))))))))))))))) rfl
set_option maxRecDepth 4000 in
theorem tw190 : (Jvm.Cond.fieldLink "OneBack$Sight" (19 : Nat) "OneBack$Sight" "good" "[I") ∈ GT := GT_m (ck1 (m8 (m8 (m8 (m8 (m8 (m8 (m8 (m8 (m8 (m8 (m8 (m8 (m8 (m8 (m8 (m8 (m8 (m8 (m8 (m8 (m8 (m8 (m8 (List.Mem.tail _ (List.Mem.tail _ (List.Mem.tail _ (List.Mem.tail _ (List.Mem.tail _ (List.Mem.tail _ (List.Mem.head _))))))))))))))))))))))))))))))) rfl
set_option maxRecDepth 4000 in
theorem tw191 : (Jvm.Cond.fieldLink "OneBack" (257 : Nat) "OneBack$Sight" "good" "[I") ∈ GT := GT_m (ck1 (m8 (m8 (m8 (m8 (m8 (m8 (m8 (m8 (m8 (m8 (m8 (m8 (m8 (m8 (m8 (m8 (m8 (m8 (m8 (m8 (m8 (m8 (m8 (List.Mem.tail _ (List.Mem.tail _ (List.Mem.tail _ (List.Mem.tail _ (List.Mem.tail _ (List.Mem.tail _ (List.Mem.tail _ (List.Mem.head _)))))))))))))))))))))))))))))))) rfl
set_option maxRecDepth 4000 in
theorem tw192 : (Jvm.Cond.fieldLink "OneBack$Sight" (22 : Nat) "OneBack$Sight" "left" "[I") ∈ GT := GT_m (ck1 (m8 (m8 (m8 (m8 (m8 (m8 (m8 (m8 (m8 (m8 (m8 (m8 (m8 (m8 (m8 (m8 (m8 (m8 (m8 (m8 (m8 (m8 (m8 (m8 (List.Mem.head _)))))))))))))))))))))))))) rfl
set_option maxRecDepth 4000 in
theorem tw193 : (Jvm.Cond.fieldLink "OneBack$Reader" (214 : Nat) "OneBack$Sight" "left" "[I") ∈ GT := GT_m (ck1 (m8 (m8 (m8 (m8 (m8 (m8 (m8 (m8 (m8 (m8 (m8 (m8 (m8 (m8 (m8 (m8 (m8 (m8 (m8 (m8 (m8 (m8 (m8 (m8 (List.Mem.tail _ (List.Mem.head _))))))))))))))))))))))))))) rfl
set_option maxRecDepth 4000 in
theorem tw194 : (Jvm.Cond.fieldLink "OneBack" (260 : Nat) "OneBack$Sight" "left" "[I") ∈ GT := GT_m (ck1 (m8 (m8 (m8 (m8 (m8 (m8 (m8 (m8 (m8 (m8 (m8 (m8 (m8 (m8 (m8 (m8 (m8 (m8 (m8 (m8 (m8 (m8 (m8 (m8 (List.Mem.tail _ (List.Mem.tail _ (List.Mem.head _)))))))))))))))))))))))))))) rfl
set_option maxRecDepth 4000 in
theorem tw204 : (Jvm.Cond.fieldLink "OneBack$Told" (9 : Nat) "OneBack$Told" "tape" "[B") ∈ GT := GT_m (ck1 (m8 (m8 (m8 (m8 (m8 (m8 (m8 (m8 (m8 (m8 (m8 (m8 (m8 (m8 (m8 (m8 (m8 (m8 (m8 (m8 (m8 (m8 (m8 (m8 (m8 (List.Mem.tail _ (List.Mem.tail _ (List.Mem.tail _ (List.Mem.tail _ (List.Mem.head _))))))))))))))))))))))))))))))) rfl
set_option maxRecDepth 4000 in
theorem tw205 : (Jvm.Cond.fieldLink "OneBack" (78 : Nat) "OneBack$Told" "tape" "[B") ∈ GT := GT_m (ck1 (m8 (m8 (m8 (m8 (m8 (m8 (m8 (m8 (m8 (m8 (m8 (m8 (m8 (m8 (m8 (m8 (m8 (m8 (m8 (m8 (m8 (m8 (m8 (m8 (m8 (List.Mem.tail _ (List.Mem.tail _ (List.Mem.tail _ (List.Mem.tail _ (List.Mem.tail _ (List.Mem.head _)))))))))))))))))))))))))))))))) rfl
set_option maxRecDepth 4000 in
theorem tw206 : (Jvm.Cond.fieldLink "OneBack$Told" (15 : Nat) "OneBack$Told" "length" "I") ∈ GT := GT_m (ck1 (m8 (m8 (m8 (m8 (m8 (m8 (m8 (m8 (m8 (m8 (m8 (m8 (m8 (m8 (m8 (m8 (m8 (m8 (m8 (m8 (m8 (m8 (m8 (m8 (m8 (List.Mem.tail _ (List.Mem.tail _ (List.Mem.tail _ (List.Mem.tail _ (List.Mem.tail _ (List.Mem.tail _ (List.Mem.head _))))))))))))))))))))))))))))))))) rfl
set_option maxRecDepth 4000 in
theorem tw207 : (Jvm.Cond.fieldLink "OneBack" (60 : Nat) "OneBack$Told" "length" "I") ∈ GT := GT_m (ck1 (m8 (m8 (m8 (m8 (m8 (m8 (m8 (m8 (m8 (m8 (m8 (m8 (m8 (m8 (m8 (m8 (m8 (m8 (m8 (m8 (m8 (m8 (m8 (m8 (m8 (List.Mem.tail _ (List.Mem.tail _ (List.Mem.tail _ (List.Mem.tail _ (List.Mem.tail _ (List.Mem.tail _ (List.Mem.tail _ (List.Mem.head _)))))))))))))))))))))))))))))))))) rfl
set_option maxRecDepth 4000 in
theorem tw208 : (Jvm.Cond.fieldLink "OneBack$Told" (19 : Nat) "OneBack$Told" "fault" "I") ∈ GT := GT_m (ck1 (m8 (m8 (m8 (m8 (m8 (m8 (m8 (m8 (m8 (m8 (m8 (m8 (m8 (m8 (m8 (m8 (m8 (m8 (m8 (m8 (m8 (m8 (m8 (m8 (m8 (m8 (List.Mem.head _)))))))))))))))))))))))))))) rfl
set_option maxRecDepth 4000 in
theorem tw209 : (Jvm.Cond.fieldLink "OneBack" (68 : Nat) "OneBack$Told" "fault" "I") ∈ GT := GT_m (ck1 (m8 (m8 (m8 (m8 (m8 (m8 (m8 (m8 (m8 (m8 (m8 (m8 (m8 (m8 (m8 (m8 (m8 (m8 (m8 (m8 (m8 (m8 (m8 (m8 (m8 (m8 (List.Mem.tail _ (List.Mem.head _))))))))))))))))))))))))))))) rfl
set_option maxRecDepth 4000 in
theorem tw210 : (Jvm.Cond.fieldLink "OneBack$Told" (22 : Nat) "OneBack$Told" "place" "I") ∈ GT := GT_m (ck1 (m8 (m8 (m8 (m8 (m8 (m8 (m8 (m8 (m8 (m8 (m8 (m8 (m8 (m8 (m8 (m8 (m8 (m8 (m8 (m8 (m8 (m8 (m8 (m8 (m8 (m8 (List.Mem.tail _ (List.Mem.tail _ (List.Mem.head _)))))))))))))))))))))))))))))) rfl
set_option maxRecDepth 4000 in
theorem tw211 : (Jvm.Cond.fieldLink "OneBack" (71 : Nat) "OneBack$Told" "place" "I") ∈ GT := GT_m (ck1 (m8 (m8 (m8 (m8 (m8 (m8 (m8 (m8 (m8 (m8 (m8 (m8 (m8 (m8 (m8 (m8 (m8 (m8 (m8 (m8 (m8 (m8 (m8 (m8 (m8 (m8 (List.Mem.tail _ (List.Mem.tail _ (List.Mem.tail _ (List.Mem.head _))))))))))))))))))))))))))))))) rfl
set_option maxRecDepth 4000 in
theorem tw212 : (Jvm.Cond.fieldLink "OneBack$Told" (25 : Nat) "OneBack$Told" "counts" "[I") ∈ GT := GT_m (ck1 (m8 (m8 (m8 (m8 (m8 (m8 (m8 (m8 (m8 (m8 (m8 (m8 (m8 (m8 (m8 (m8 (m8 (m8 (m8 (m8 (m8 (m8 (m8 (m8 (m8 (m8 (List.Mem.tail _ (List.Mem.tail _ (List.Mem.tail _ (List.Mem.tail _ (List.Mem.head _)))))))))))))))))))))))))))))))) rfl
set_option maxRecDepth 4000 in
theorem tw213 : (Jvm.Cond.fieldLink "OneBack" (332 : Nat) "OneBack$Told" "counts" "[I") ∈ GT := GT_m (ck1 (m8 (m8 (m8 (m8 (m8 (m8 (m8 (m8 (m8 (m8 (m8 (m8 (m8 (m8 (m8 (m8 (m8 (m8 (m8 (m8 (m8 (m8 (m8 (m8 (m8 (m8 (List.Mem.tail _ (List.Mem.tail _ (List.Mem.tail _ (List.Mem.tail _ (List.Mem.tail _ (List.Mem.head _))))))))))))))))))))))))))))))))) rfl
set_option maxRecDepth 4000 in
theorem tw214 : (Jvm.Cond.fieldLink "OneBack$Told" (31 : Nat) "OneBack$Told" "towns" "[LOneBack$Town;") ∈ GT := GT_m (ck1 (m8 (m8 (m8 (m8 (m8 (m8 (m8 (m8 (m8 (m8 (m8 (m8 (m8 (m8 (m8 (m8 (m8 (m8 (m8 (m8 (m8 (m8 (m8 (m8 (m8 (m8 (List.Mem.tail _ (List.Mem.tail _ (List.Mem.tail _ (List.Mem.tail _ (List.Mem.tail _ (List.Mem.tail _ (List.Mem.head _)))))))))))))))))))))))))))))))))) rfl
set_option maxRecDepth 4000 in
theorem tw215 : (Jvm.Cond.fieldLink "OneBack" (29 : Nat) "OneBack$Told" "towns" "[LOneBack$Town;") ∈ GT := GT_m (ck1 (m8 (m8 (m8 (m8 (m8 (m8 (m8 (m8 (m8 (m8 (m8 (m8 (m8 (m8 (m8 (m8 (m8 (m8 (m8 (m8 (m8 (m8 (m8 (m8 (m8 (m8 (List.Mem.tail _ (List.Mem.tail _ (List.Mem.tail _ (List.Mem.tail _ (List.Mem.tail _ (List.Mem.tail _ (List.Mem.tail _ (List.Mem.head _))))))))))))))))))))))))))))))))))) rfl
set_option maxRecDepth 4000 in
theorem tw216 : (Jvm.Cond.fieldLink "OneBack$Told" (37 : Nat) "OneBack$Told" "laws" "[LOneBack$Law;") ∈ GT := GT_m (ck1 (m8 (m8 (m8 (m8 (m8 (m8 (m8 (m8 (m8 (m8 (m8 (m8 (m8 (m8 (m8 (m8 (m8 (m8 (m8 (m8 (m8 (m8 (m8 (m8 (m8 (m8 (m8 (List.Mem.head _))))))))))))))))))))))))))))) rfl
set_option maxRecDepth 4000 in
theorem tw217 : (Jvm.Cond.fieldLink "OneBack" (33 : Nat) "OneBack$Told" "laws" "[LOneBack$Law;") ∈ GT := GT_m (ck1 (m8 (m8 (m8 (m8 (m8 (m8 (m8 (m8 (m8 (m8 (m8 (m8 (m8 (m8 (m8 (m8 (m8 (m8 (m8 (m8 (m8 (m8 (m8 (m8 (m8 (m8 (m8 (List.Mem.tail _ (List.Mem.head _)))))))))))))))))))))))))))))) rfl
set_option maxRecDepth 4000 in
theorem tw218 : (Jvm.Cond.fieldLink "OneBack$Told" (43 : Nat) "OneBack$Told" "nights" "[LOneBack$Nights;") ∈ GT := GT_m (ck1 (m8 (m8 (m8 (m8 (m8 (m8 (m8 (m8 (m8 (m8 (m8 (m8 (m8 (m8 (m8 (m8 (m8 (m8 (m8 (m8 (m8 (m8 (m8 (m8 (m8 (m8 (m8 (List.Mem.tail _ (List.Mem.tail _ (List.Mem.head _))))))))))))))))))))))))))))))) rfl
set_option maxRecDepth 4000 in
theorem tw219 : (Jvm.Cond.fieldLink "OneBack$Told" (49 : Nat) "OneBack$Told" "sights" "[LOneBack$Sight;") ∈ GT := GT_m (ck1 (m8 (m8 (m8 (m8 (m8 (m8 (m8 (m8 (m8 (m8 (m8 (m8 (m8 (m8 (m8 (m8 (m8 (m8 (m8 (m8 (m8 (m8 (m8 (m8 (m8 (m8 (m8 (List.Mem.tail _ (List.Mem.tail _ (List.Mem.tail _ (List.Mem.head _)))))))))))))))))))))))))))))))) rfl
set_option maxRecDepth 4000 in
theorem tw240 : (Jvm.Cond.classLink "OneBack" (20 : Nat) "OneBack$Reader") ∈ GT := GT_m (ck2 (List.Mem.head _)) rfl
set_option maxRecDepth 4000 in
theorem tw241 : (Jvm.Cond.instantiable "OneBack$Reader" (16 : Nat)) ∈ GT := GT_m (ck2 (List.Mem.tail _ (List.Mem.head _))) rfl
set_option maxRecDepth 4000 in
theorem tw243 : (Jvm.Cond.instanceMethod ({ cls := "OneBack$Reader", name := "<init>", desc := "()V" } : Jvm.MethodName)) ∈ GT := GT_m (ck2 (List.Mem.tail _ (List.Mem.tail _ (List.Mem.tail _ (List.Mem.head _))))) rfl
set_option maxRecDepth 4000 in
theorem tw244 : (Jvm.Cond.code ({ cls := "OneBack$Reader", name := "<init>", desc := "()V" } : Jvm.MethodName) prog_5_method_1_code (1 : Nat) (Option.none : Option Jvm.ClassFile.FieldType)) ∈ GT := GT_m (ck2 (List.Mem.tail _ (List.Mem.tail _ (List.Mem.tail _ (List.Mem.tail _ (List.Mem.head _)))))) rfl
set_option maxRecDepth 4000 in
theorem tw245 : (Jvm.Cond.methodLink "OneBack$Reader" (3 : Nat) ({ cls := "java/lang/Object", name := "<init>", desc := "()V" } : Jvm.MethodName)) ∈ GT := GT_m (ck2 (List.Mem.tail _ (List.Mem.tail _ (List.Mem.tail _ (List.Mem.tail _ (List.Mem.tail _ (List.Mem.head _))))))) rfl
set_option maxRecDepth 4000 in
theorem tw246 : (Jvm.Cond.classLink "OneBack$Reader" (18 : Nat) "OneBack$Town") ∈ GT := GT_m (ck2 (List.Mem.tail _ (List.Mem.tail _ (List.Mem.tail _ (List.Mem.tail _ (List.Mem.tail _ (List.Mem.tail _ (List.Mem.head _)))))))) rfl
set_option maxRecDepth 4000 in
theorem tw247 : (Jvm.Cond.methodLink "OneBack$Reader" (20 : Nat) ({ cls := "OneBack$Town", name := "<init>", desc := "()V" } : Jvm.MethodName)) ∈ GT := GT_m (ck2 (List.Mem.tail _ (List.Mem.tail _ (List.Mem.tail _ (List.Mem.tail _ (List.Mem.tail _ (List.Mem.tail _ (List.Mem.tail _ (List.Mem.head _))))))))) rfl
set_option maxRecDepth 4000 in
theorem tw248 : (Jvm.Cond.classLink "OneBack$Reader" (25 : Nat) "OneBack$Law") ∈ GT := GT_m (ck2 (m8 (List.Mem.head _))) rfl
set_option maxRecDepth 4000 in
theorem tw250 : (Jvm.Cond.classLink "OneBack$Reader" (32 : Nat) "OneBack$Nights") ∈ GT := GT_m (ck2 (m8 (List.Mem.tail _ (List.Mem.tail _ (List.Mem.head _))))) rfl
set_option maxRecDepth 4000 in
theorem tw252 : (Jvm.Cond.classLink "OneBack$Reader" (39 : Nat) "OneBack$Sight") ∈ GT := GT_m (ck2 (m8 (List.Mem.tail _ (List.Mem.tail _ (List.Mem.tail _ (List.Mem.tail _ (List.Mem.head _))))))) rfl
set_option maxRecDepth 4000 in
theorem tw253 : (Jvm.Cond.methodLink "OneBack$Reader" (41 : Nat) ({ cls := "OneBack$Sight", name := "<init>", desc := "()V" } : Jvm.MethodName)) ∈ GT := GT_m (ck2 (m8 (List.Mem.tail _ (List.Mem.tail _ (List.Mem.tail _ (List.Mem.tail _ (List.Mem.tail _ (List.Mem.head _)))))))) rfl
set_option maxRecDepth 4000 in
theorem tw254 : (Jvm.Cond.fieldLink "OneBack$Reader" (9 : Nat) "OneBack$Reader" "fault" "I") ∈ GT := GT_m (ck2 (m8 (List.Mem.tail _ (List.Mem.tail _ (List.Mem.tail _ (List.Mem.tail _ (List.Mem.tail _ (List.Mem.tail _ (List.Mem.head _))))))))) rfl
set_option maxRecDepth 4000 in
theorem tw255 : (Jvm.Cond.fieldLink "OneBack" (86 : Nat) "OneBack$Reader" "fault" "I") ∈ GT := GT_m (ck2 (m8 (List.Mem.tail _ (List.Mem.tail _ (List.Mem.tail _ (List.Mem.tail _ (List.Mem.tail _ (List.Mem.tail _ (List.Mem.tail _ (List.Mem.head _)))))))))) rfl
set_option maxRecDepth 4000 in
theorem tw256 : (Jvm.Cond.fieldLink "OneBack$Reader" (15 : Nat) "OneBack$Reader" "place" "I") ∈ GT := GT_m (ck2 (m8 (m8 (List.Mem.head _)))) rfl
set_option maxRecDepth 4000 in
theorem tw257 : (Jvm.Cond.fieldLink "OneBack" (87 : Nat) "OneBack$Reader" "place" "I") ∈ GT := GT_m (ck2 (m8 (m8 (List.Mem.tail _ (List.Mem.head _))))) rfl
set_option maxRecDepth 4000 in
theorem tw258 : (Jvm.Cond.fieldLink "OneBack$Reader" (21 : Nat) "OneBack$Reader" "town" "LOneBack$Town;") ∈ GT := GT_m (ck2 (m8 (m8 (List.Mem.tail _ (List.Mem.tail _ (List.Mem.head _)))))) rfl
set_option maxRecDepth 4000 in
theorem tw259 : (Jvm.Cond.fieldLink "OneBack$Told" (61 : Nat) "OneBack$Reader" "town" "LOneBack$Town;") ∈ GT := GT_m (ck2 (m8 (m8 (List.Mem.tail _ (List.Mem.tail _ (List.Mem.tail _ (List.Mem.head _))))))) rfl
set_option maxRecDepth 4000 in
theorem tw260 : (Jvm.Cond.fieldLink "OneBack$Reader" (28 : Nat) "OneBack$Reader" "law" "LOneBack$Law;") ∈ GT := GT_m (ck2 (m8 (m8 (List.Mem.tail _ (List.Mem.tail _ (List.Mem.tail _ (List.Mem.tail _ (List.Mem.head _)))))))) rfl
set_option maxRecDepth 4000 in
theorem tw261 : (Jvm.Cond.fieldLink "OneBack$Told" (71 : Nat) "OneBack$Reader" "law" "LOneBack$Law;") ∈ GT := GT_m (ck2 (m8 (m8 (List.Mem.tail _ (List.Mem.tail _ (List.Mem.tail _ (List.Mem.tail _ (List.Mem.tail _ (List.Mem.head _))))))))) rfl
set_option maxRecDepth 4000 in
theorem tw262 : (Jvm.Cond.fieldLink "OneBack$Reader" (35 : Nat) "OneBack$Reader" "nights" "LOneBack$Nights;") ∈ GT := GT_m (ck2 (m8 (m8 (List.Mem.tail _ (List.Mem.tail _ (List.Mem.tail _ (List.Mem.tail _ (List.Mem.tail _ (List.Mem.tail _ (List.Mem.head _)))))))))) rfl
set_option maxRecDepth 4000 in
theorem tw263 : (Jvm.Cond.fieldLink "OneBack$Told" (78 : Nat) "OneBack$Reader" "nights" "LOneBack$Nights;") ∈ GT := GT_m (ck2 (m8 (m8 (List.Mem.tail _ (List.Mem.tail _ (List.Mem.tail _ (List.Mem.tail _ (List.Mem.tail _ (List.Mem.tail _ (List.Mem.tail _ (List.Mem.head _))))))))))) rfl
set_option maxRecDepth 4000 in
theorem tw264 : (Jvm.Cond.fieldLink "OneBack$Reader" (42 : Nat) "OneBack$Reader" "sight" "LOneBack$Sight;") ∈ GT := GT_m (ck2 (m8 (m8 (m8 (List.Mem.head _))))) rfl
set_option maxRecDepth 4000 in
theorem tw265 : (Jvm.Cond.fieldLink "OneBack$Told" (84 : Nat) "OneBack$Reader" "sight" "LOneBack$Sight;") ∈ GT := GT_m (ck2 (m8 (m8 (m8 (List.Mem.tail _ (List.Mem.head _)))))) rfl
set_option maxRecDepth 4000 in
theorem tw266 : (Jvm.Cond.fieldLink "OneBack$Reader" (46 : Nat) "OneBack$Reader" "tape" "[B") ∈ GT := GT_m (ck2 (m8 (m8 (m8 (List.Mem.tail _ (List.Mem.tail _ (List.Mem.head _))))))) rfl
set_option maxRecDepth 4000 in
theorem tw267 : (Jvm.Cond.fieldLink "OneBack$Reader" (50 : Nat) "OneBack$Reader" "length" "I") ∈ GT := GT_m (ck2 (m8 (m8 (m8 (List.Mem.tail _ (List.Mem.tail _ (List.Mem.tail _ (List.Mem.head _)))))))) rfl
set_option maxRecDepth 4000 in
theorem tw268 : (Jvm.Cond.fieldLink "OneBack$Reader" (53 : Nat) "OneBack$Reader" "next" "I") ∈ GT := GT_m (ck2 (m8 (m8 (m8 (List.Mem.tail _ (List.Mem.tail _ (List.Mem.tail _ (List.Mem.tail _ (List.Mem.head _))))))))) rfl
set_option maxRecDepth 4000 in
theorem tw269 : (Jvm.Cond.fieldLink "OneBack$Reader" (56 : Nat) "OneBack$Reader" "token" "I") ∈ GT := GT_m (ck2 (m8 (m8 (m8 (List.Mem.tail _ (List.Mem.tail _ (List.Mem.tail _ (List.Mem.tail _ (List.Mem.tail _ (List.Mem.head _)))))))))) rfl
set_option maxRecDepth 4000 in
theorem tw270 : (Jvm.Cond.fieldLink "OneBack$Reader" (59 : Nat) "OneBack$Reader" "start" "I") ∈ GT := GT_m (ck2 (m8 (m8 (m8 (List.Mem.tail _ (List.Mem.tail _ (List.Mem.tail _ (List.Mem.tail _ (List.Mem.tail _ (List.Mem.tail _ (List.Mem.head _))))))))))) rfl
set_option maxRecDepth 4000 in
theorem tw271 : (Jvm.Cond.fieldLink "OneBack$Reader" (62 : Nat) "OneBack$Reader" "value" "I") ∈ GT := GT_m (ck2 (m8 (m8 (m8 (List.Mem.tail _ (List.Mem.tail _ (List.Mem.tail _ (List.Mem.tail _ (List.Mem.tail _ (List.Mem.tail _ (List.Mem.tail _ (List.Mem.head _)))))))))))) rfl
set_option maxRecDepth 4000 in
theorem tw272 : (Jvm.Cond.fieldLink "OneBack$Reader" (65 : Nat) "OneBack$Reader" "numbers" "[I") ∈ GT := GT_m (ck2 (m8 (m8 (m8 (m8 (List.Mem.head _)))))) rfl
set_option maxRecDepth 4000 in
theorem tw273 : (Jvm.Cond.fieldLink "OneBack$Reader" (69 : Nat) "OneBack$Reader" "broken" "Z") ∈ GT := GT_m (ck2 (m8 (m8 (m8 (m8 (List.Mem.tail _ (List.Mem.head _))))))) rfl
set_option maxRecDepth 4000 in
theorem tw274 : (Jvm.Cond.fieldLink "OneBack$Reader" (73 : Nat) "OneBack$Reader" "topHouse" "I") ∈ GT := GT_m (ck2 (m8 (m8 (m8 (m8 (List.Mem.tail _ (List.Mem.tail _ (List.Mem.head _)))))))) rfl
set_option maxRecDepth 4000 in
theorem tw275 : (Jvm.Cond.fieldLink "OneBack$Reader" (76 : Nat) "OneBack$Reader" "topThief" "I") ∈ GT := GT_m (ck2 (m8 (m8 (m8 (m8 (List.Mem.tail _ (List.Mem.tail _ (List.Mem.tail _ (List.Mem.head _))))))))) rfl
set_option maxRecDepth 4000 in
theorem tw309 : (Jvm.Cond.classLink "OneBack" (27 : Nat) "OneBack$Walk") ∈ GT := GT_m (ck2 (m8 (m8 (m8 (m8 (m8 (m8 (m8 (m8 (List.Mem.tail _ (List.Mem.tail _ (List.Mem.tail _ (List.Mem.tail _ (List.Mem.tail _ (List.Mem.head _))))))))))))))) rfl
set_option maxRecDepth 4000 in
theorem tw310 : (Jvm.Cond.instantiable "OneBack$Walk" (17 : Nat)) ∈ GT := GT_m (ck2 (m8 (m8 (m8 (m8 (m8 (m8 (m8 (m8 (List.Mem.tail _ (List.Mem.tail _ (List.Mem.tail _ (List.Mem.tail _ (List.Mem.tail _ (List.Mem.tail _ (List.Mem.head _)))))))))))))))) rfl
set_option maxRecDepth 4000 in
theorem tw311 : (Jvm.Cond.methodLink "OneBack" (37 : Nat) ({ cls := "OneBack$Walk", name := "<init>", desc := "(LOneBack$Town;LOneBack$Law;)V" } : Jvm.MethodName)) ∈ GT := GT_m (ck2 (m8 (m8 (m8 (m8 (m8 (m8 (m8 (m8 (List.Mem.tail _ (List.Mem.tail _ (List.Mem.tail _ (List.Mem.tail _ (List.Mem.tail _ (List.Mem.tail _ (List.Mem.tail _ (List.Mem.head _))))))))))))))))) rfl
set_option maxRecDepth 4000 in
theorem tw312 : (Jvm.Cond.instanceMethod ({ cls := "OneBack$Walk", name := "<init>", desc := "(LOneBack$Town;LOneBack$Law;)V" } : Jvm.MethodName)) ∈ GT := GT_m (ck2 (m8 (m8 (m8 (m8 (m8 (m8 (m8 (m8 (m8 (List.Mem.head _))))))))))) rfl
set_option maxRecDepth 4000 in
theorem tw313 : (Jvm.Cond.code ({ cls := "OneBack$Walk", name := "<init>", desc := "(LOneBack$Town;LOneBack$Law;)V" } : Jvm.MethodName) prog_11_method_1_code (3 : Nat) (Option.none : Option Jvm.ClassFile.FieldType)) ∈ GT := GT_m (ck2 (m8 (m8 (m8 (m8 (m8 (m8 (m8 (m8 (m8 (List.Mem.tail _ (List.Mem.head _)))))))))))) rfl
set_option maxRecDepth 4000 in
theorem tw314 : (Jvm.Cond.methodLink "OneBack$Walk" (3 : Nat) ({ cls := "java/lang/Object", name := "<init>", desc := "()V" } : Jvm.MethodName)) ∈ GT := GT_m (ck2 (m8 (m8 (m8 (m8 (m8 (m8 (m8 (m8 (m8 (List.Mem.tail _ (List.Mem.tail _ (List.Mem.head _))))))))))))) rfl
set_option maxRecDepth 4000 in
theorem tw315 : (Jvm.Cond.fieldLink "OneBack$Walk" (58 : Nat) "OneBack$Walk" "town" "LOneBack$Town;") ∈ GT := GT_m (ck2 (m8 (m8 (m8 (m8 (m8 (m8 (m8 (m8 (m8 (List.Mem.tail _ (List.Mem.tail _ (List.Mem.tail _ (List.Mem.head _)))))))))))))) rfl
set_option maxRecDepth 4000 in
theorem tw316 : (Jvm.Cond.fieldLink "OneBack$Views" (28 : Nat) "OneBack$Walk" "town" "LOneBack$Town;") ∈ GT := GT_m (ck2 (m8 (m8 (m8 (m8 (m8 (m8 (m8 (m8 (m8 (List.Mem.tail _ (List.Mem.tail _ (List.Mem.tail _ (List.Mem.tail _ (List.Mem.head _))))))))))))))) rfl
set_option maxRecDepth 4000 in
theorem tw317 : (Jvm.Cond.fieldLink "OneBack" (207 : Nat) "OneBack$Walk" "town" "LOneBack$Town;") ∈ GT := GT_m (ck2 (m8 (m8 (m8 (m8 (m8 (m8 (m8 (m8 (m8 (List.Mem.tail _ (List.Mem.tail _ (List.Mem.tail _ (List.Mem.tail _ (List.Mem.tail _ (List.Mem.head _)))))))))))))))) rfl
set_option maxRecDepth 4000 in
theorem tw318 : (Jvm.Cond.fieldLink "OneBack$Walk" (62 : Nat) "OneBack$Walk" "law" "LOneBack$Law;") ∈ GT := GT_m (ck2 (m8 (m8 (m8 (m8 (m8 (m8 (m8 (m8 (m8 (List.Mem.tail _ (List.Mem.tail _ (List.Mem.tail _ (List.Mem.tail _ (List.Mem.tail _ (List.Mem.tail _ (List.Mem.head _))))))))))))))))) rfl
set_option maxRecDepth 4000 in
theorem tw319 : (Jvm.Cond.fieldLink "OneBack$Views" (86 : Nat) "OneBack$Walk" "law" "LOneBack$Law;") ∈ GT := GT_m (ck2 (m8 (m8 (m8 (m8 (m8 (m8 (m8 (m8 (m8 (List.Mem.tail _ (List.Mem.tail _ (List.Mem.tail _ (List.Mem.tail _ (List.Mem.tail _ (List.Mem.tail _ (List.Mem.tail _ (List.Mem.head _)))))))))))))))))) rfl
set_option maxRecDepth 4000 in
theorem tw320 : (Jvm.Cond.fieldLink "OneBack$Walk" (9 : Nat) "OneBack$Walk" "has" "[I") ∈ GT := GT_m (ck2 (m8 (m8 (m8 (m8 (m8 (m8 (m8 (m8 (m8 (m8 (List.Mem.head _)))))))))))) rfl
set_option maxRecDepth 4000 in
theorem tw321 : (Jvm.Cond.fieldLink "OneBack" (211 : Nat) "OneBack$Walk" "has" "[I") ∈ GT := GT_m (ck2 (m8 (m8 (m8 (m8 (m8 (m8 (m8 (m8 (m8 (m8 (List.Mem.tail _ (List.Mem.head _))))))))))))) rfl
set_option maxRecDepth 4000 in
theorem tw322 : (Jvm.Cond.fieldLink "OneBack$Views" (149 : Nat) "OneBack$Walk" "has" "[I") ∈ GT := GT_m (ck2 (m8 (m8 (m8 (m8 (m8 (m8 (m8 (m8 (m8 (m8 (List.Mem.tail _ (List.Mem.tail _ (List.Mem.head _)))))))))))))) rfl
set_option maxRecDepth 4000 in
theorem tw323 : (Jvm.Cond.fieldLink "OneBack$Walk" (15 : Nat) "OneBack$Walk" "bag" "[I") ∈ GT := GT_m (ck2 (m8 (m8 (m8 (m8 (m8 (m8 (m8 (m8 (m8 (m8 (List.Mem.tail _ (List.Mem.tail _ (List.Mem.tail _ (List.Mem.head _))))))))))))))) rfl
set_option maxRecDepth 4000 in
theorem tw324 : (Jvm.Cond.fieldLink "OneBack" (212 : Nat) "OneBack$Walk" "bag" "[I") ∈ GT := GT_m (ck2 (m8 (m8 (m8 (m8 (m8 (m8 (m8 (m8 (m8 (m8 (List.Mem.tail _ (List.Mem.tail _ (List.Mem.tail _ (List.Mem.tail _ (List.Mem.head _)))))))))))))))) rfl
set_option maxRecDepth 4000 in
theorem tw325 : (Jvm.Cond.fieldLink "OneBack$Views" (146 : Nat) "OneBack$Walk" "bag" "[I") ∈ GT := GT_m (ck2 (m8 (m8 (m8 (m8 (m8 (m8 (m8 (m8 (m8 (m8 (List.Mem.tail _ (List.Mem.tail _ (List.Mem.tail _ (List.Mem.tail _ (List.Mem.tail _ (List.Mem.head _))))))))))))))))) rfl
set_option maxRecDepth 4000 in
theorem tw326 : (Jvm.Cond.fieldLink "OneBack$Walk" (18 : Nat) "OneBack$Walk" "took" "[I") ∈ GT := GT_m (ck2 (m8 (m8 (m8 (m8 (m8 (m8 (m8 (m8 (m8 (m8 (List.Mem.tail _ (List.Mem.tail _ (List.Mem.tail _ (List.Mem.tail _ (List.Mem.tail _ (List.Mem.tail _ (List.Mem.head _)))))))))))))))))) rfl
set_option maxRecDepth 4000 in
theorem tw327 : (Jvm.Cond.fieldLink "OneBack$Views" (72 : Nat) "OneBack$Walk" "took" "[I") ∈ GT := GT_m (ck2 (m8 (m8 (m8 (m8 (m8 (m8 (m8 (m8 (m8 (m8 (List.Mem.tail _ (List.Mem.tail _ (List.Mem.tail _ (List.Mem.tail _ (List.Mem.tail _ (List.Mem.tail _ (List.Mem.tail _ (List.Mem.head _))))))))))))))))))) rfl
set_option maxRecDepth 4000 in
theorem tw328 : (Jvm.Cond.fieldLink "OneBack" (215 : Nat) "OneBack$Walk" "took" "[I") ∈ GT := GT_m (ck2 (m8 (m8 (m8 (m8 (m8 (m8 (m8 (m8 (m8 (m8 (m8 (List.Mem.head _))))))))))))) rfl
set_option maxRecDepth 4000 in
theorem tw329 : (Jvm.Cond.fieldLink "OneBack$Walk" (21 : Nat) "OneBack$Walk" "gave" "[I") ∈ GT := GT_m (ck2 (m8 (m8 (m8 (m8 (m8 (m8 (m8 (m8 (m8 (m8 (m8 (List.Mem.tail _ (List.Mem.head _)))))))))))))) rfl
set_option maxRecDepth 4000 in
theorem tw330 : (Jvm.Cond.fieldLink "OneBack$Sight" (48 : Nat) "OneBack$Walk" "gave" "[I") ∈ GT := GT_m (ck2 (m8 (m8 (m8 (m8 (m8 (m8 (m8 (m8 (m8 (m8 (m8 (List.Mem.tail _ (List.Mem.tail _ (List.Mem.head _))))))))))))))) rfl
set_option maxRecDepth 4000 in
theorem tw331 : (Jvm.Cond.fieldLink "OneBack$Walk" (24 : Nat) "OneBack$Walk" "taken" "[I") ∈ GT := GT_m (ck2 (m8 (m8 (m8 (m8 (m8 (m8 (m8 (m8 (m8 (m8 (m8 (List.Mem.tail _ (List.Mem.tail _ (List.Mem.tail _ (List.Mem.head _)))))))))))))))) rfl
set_option maxRecDepth 4000 in
theorem tw332 : (Jvm.Cond.fieldLink "OneBack$Views" (45 : Nat) "OneBack$Walk" "taken" "[I") ∈ GT := GT_m (ck2 (m8 (m8 (m8 (m8 (m8 (m8 (m8 (m8 (m8 (m8 (m8 (List.Mem.tail _ (List.Mem.tail _ (List.Mem.tail _ (List.Mem.tail _ (List.Mem.head _))))))))))))))))) rfl
set_option maxRecDepth 4000 in
theorem tw333 : (Jvm.Cond.fieldLink "OneBack$Walk" (27 : Nat) "OneBack$Walk" "given" "[I") ∈ GT := GT_m (ck2 (m8 (m8 (m8 (m8 (m8 (m8 (m8 (m8 (m8 (m8 (m8 (List.Mem.tail _ (List.Mem.tail _ (List.Mem.tail _ (List.Mem.tail _ (List.Mem.tail _ (List.Mem.head _)))))))))))))))))) rfl
set_option maxRecDepth 4000 in
theorem tw334 : (Jvm.Cond.fieldLink "OneBack$Views" (49 : Nat) "OneBack$Walk" "given" "[I") ∈ GT := GT_m (ck2 (m8 (m8 (m8 (m8 (m8 (m8 (m8 (m8 (m8 (m8 (m8 (List.Mem.tail _ (List.Mem.tail _ (List.Mem.tail _ (List.Mem.tail _ (List.Mem.tail _ (List.Mem.tail _ (List.Mem.head _))))))))))))))))))) rfl
set_option maxRecDepth 4000 in
theorem tw335 : (Jvm.Cond.fieldLink "OneBack$Walk" (30 : Nat) "OneBack$Walk" "trace" "[I") ∈ GT := GT_m (ck2 (m8 (m8 (m8 (m8 (m8 (m8 (m8 (m8 (m8 (m8 (m8 (List.Mem.tail _ (List.Mem.tail _ (List.Mem.tail _ (List.Mem.tail _ (List.Mem.tail _ (List.Mem.tail _ (List.Mem.tail _ (List.Mem.head _)))))))))))))))))))) rfl
set_option maxRecDepth 4000 in
theorem tw336 : (Jvm.Cond.fieldLink "OneBack$Views" (56 : Nat) "OneBack$Walk" "trace" "[I") ∈ GT := GT_m (ck2 (m8 (m8 (m8 (m8 (m8 (m8 (m8 (m8 (m8 (m8 (m8 (m8 (List.Mem.head _)))))))))))))) rfl
set_option maxRecDepth 4000 in
theorem tw337 : (Jvm.Cond.fieldLink "OneBack$Walk" (33 : Nat) "OneBack$Walk" "takenTonight" "[I") ∈ GT := GT_m (ck2 (m8 (m8 (m8 (m8 (m8 (m8 (m8 (m8 (m8 (m8 (m8 (m8 (List.Mem.tail _ (List.Mem.head _))))))))))))))) rfl
set_option maxRecDepth 4000 in
theorem tw338 : (Jvm.Cond.fieldLink "OneBack$Walk" (36 : Nat) "OneBack$Walk" "seenTonight" "[I") ∈ GT := GT_m (ck2 (m8 (m8 (m8 (m8 (m8 (m8 (m8 (m8 (m8 (m8 (m8 (m8 (List.Mem.tail _ (List.Mem.tail _ (List.Mem.head _)))))))))))))))) rfl
set_option maxRecDepth 4000 in
theorem tw339 : (Jvm.Cond.fieldLink "OneBack$Walk" (39 : Nat) "OneBack$Walk" "lastTake" "[I") ∈ GT := GT_m (ck2 (m8 (m8 (m8 (m8 (m8 (m8 (m8 (m8 (m8 (m8 (m8 (m8 (List.Mem.tail _ (List.Mem.tail _ (List.Mem.tail _ (List.Mem.head _))))))))))))))))) rfl
set_option maxRecDepth 4000 in
theorem tw340 : (Jvm.Cond.fieldLink "OneBack$Views" (95 : Nat) "OneBack$Walk" "lastTake" "[I") ∈ GT := GT_m (ck2 (m8 (m8 (m8 (m8 (m8 (m8 (m8 (m8 (m8 (m8 (m8 (m8 (List.Mem.tail _ (List.Mem.tail _ (List.Mem.tail _ (List.Mem.tail _ (List.Mem.head _)))))))))))))))))) rfl
set_option maxRecDepth 4000 in
theorem tw341 : (Jvm.Cond.fieldLink "OneBack$Walk" (42 : Nat) "OneBack$Walk" "takes" "I") ∈ GT := GT_m (ck2 (m8 (m8 (m8 (m8 (m8 (m8 (m8 (m8 (m8 (m8 (m8 (m8 (List.Mem.tail _ (List.Mem.tail _ (List.Mem.tail _ (List.Mem.tail _ (List.Mem.tail _ (List.Mem.head _))))))))))))))))))) rfl
set_option maxRecDepth 4000 in
theorem tw342 : (Jvm.Cond.fieldLink "OneBack$Walk" (46 : Nat) "OneBack$Walk" "caught" "I") ∈ GT := GT_m (ck2 (m8 (m8 (m8 (m8 (m8 (m8 (m8 (m8 (m8 (m8 (m8 (m8 (List.Mem.tail _ (List.Mem.tail _ (List.Mem.tail _ (List.Mem.tail _ (List.Mem.tail _ (List.Mem.tail _ (List.Mem.head _)))))))))))))))))))) rfl
set_option maxRecDepth 4000 in
theorem tw343 : (Jvm.Cond.fieldLink "OneBack$Views" (15 : Nat) "OneBack$Walk" "caught" "I") ∈ GT := GT_m (ck2 (m8 (m8 (m8 (m8 (m8 (m8 (m8 (m8 (m8 (m8 (m8 (m8 (List.Mem.tail _ (List.Mem.tail _ (List.Mem.tail _ (List.Mem.tail _ (List.Mem.tail _ (List.Mem.tail _ (List.Mem.tail _ (List.Mem.head _))))))))))))))))))))) rfl
set_option maxRecDepth 4000 in
theorem tw344 : (Jvm.Cond.fieldLink "OneBack$Walk" (49 : Nat) "OneBack$Walk" "night" "I") ∈ GT := GT_m (ck2 (m8 (m8 (m8 (m8 (m8 (m8 (m8 (m8 (m8 (m8 (m8 (m8 (m8 (List.Mem.head _))))))))))))))) rfl
set_option maxRecDepth 4000 in
theorem tw345 : (Jvm.Cond.fieldLink "OneBack" (195 : Nat) "OneBack$Walk" "night" "I") ∈ GT := GT_m (ck2 (m8 (m8 (m8 (m8 (m8 (m8 (m8 (m8 (m8 (m8 (m8 (m8 (m8 (List.Mem.tail _ (List.Mem.head _)))))))))))))))) rfl
set_option maxRecDepth 4000 in
theorem tw346 : (Jvm.Cond.fieldLink "OneBack$Walk" (52 : Nat) "OneBack$Walk" "done" "I") ∈ GT := GT_m (ck2 (m8 (m8 (m8 (m8 (m8 (m8 (m8 (m8 (m8 (m8 (m8 (m8 (m8 (List.Mem.tail _ (List.Mem.tail _ (List.Mem.head _))))))))))))))))) rfl
set_option maxRecDepth 4000 in
theorem tw347 : (Jvm.Cond.fieldLink "OneBack" (189 : Nat) "OneBack$Walk" "done" "I") ∈ GT := GT_m (ck2 (m8 (m8 (m8 (m8 (m8 (m8 (m8 (m8 (m8 (m8 (m8 (m8 (m8 (List.Mem.tail _ (List.Mem.tail _ (List.Mem.tail _ (List.Mem.head _)))))))))))))))))) rfl
set_option maxRecDepth 4000 in
theorem tw348 : (Jvm.Cond.fieldLink "OneBack$Walk" (55 : Nat) "OneBack$Walk" "seed" "I") ∈ GT := GT_m (ck2 (m8 (m8 (m8 (m8 (m8 (m8 (m8 (m8 (m8 (m8 (m8 (m8 (m8 (List.Mem.tail _ (List.Mem.tail _ (List.Mem.tail _ (List.Mem.tail _ (List.Mem.head _))))))))))))))))))) rfl
set_option maxRecDepth 4000 in
theorem tw384 : (Jvm.Cond.classLink "OneBack" (44 : Nat) "OneBack$Supply") ∈ GT := GT_m (ck2 (m8 (m8 (m8 (m8 (m8 (m8 (m8 (m8 (m8 (m8 (m8 (m8 (m8 (m8 (m8 (m8 (m8 (m8 (List.Mem.head _)))))))))))))))))))) rfl
set_option maxRecDepth 4000 in
theorem tw385 : (Jvm.Cond.instantiable "OneBack$Supply" (2 : Nat)) ∈ GT := GT_m (ck2 (m8 (m8 (m8 (m8 (m8 (m8 (m8 (m8 (m8 (m8 (m8 (m8 (m8 (m8 (m8 (m8 (m8 (m8 (List.Mem.tail _ (List.Mem.head _))))))))))))))))))))) rfl
set_option maxRecDepth 4000 in
theorem tw387 : (Jvm.Cond.instanceMethod ({ cls := "OneBack$Supply", name := "<init>", desc := "()V" } : Jvm.MethodName)) ∈ GT := GT_m (ck2 (m8 (m8 (m8 (m8 (m8 (m8 (m8 (m8 (m8 (m8 (m8 (m8 (m8 (m8 (m8 (m8 (m8 (m8 (List.Mem.tail _ (List.Mem.tail _ (List.Mem.tail _ (List.Mem.head _))))))))))))))))))))))) rfl
set_option maxRecDepth 4000 in
theorem tw388 : (Jvm.Cond.code ({ cls := "OneBack$Supply", name := "<init>", desc := "()V" } : Jvm.MethodName) prog_7_method_1_code (1 : Nat) (Option.none : Option Jvm.ClassFile.FieldType)) ∈ GT := GT_m (ck2 (m8 (m8 (m8 (m8 (m8 (m8 (m8 (m8 (m8 (m8 (m8 (m8 (m8 (m8 (m8 (m8 (m8 (m8 (List.Mem.tail _ (List.Mem.tail _ (List.Mem.tail _ (List.Mem.tail _ (List.Mem.head _)))))))))))))))))))))))) rfl
set_option maxRecDepth 4000 in
theorem tw389 : (Jvm.Cond.methodLink "OneBack$Supply" (3 : Nat) ({ cls := "java/lang/Object", name := "<init>", desc := "()V" } : Jvm.MethodName)) ∈ GT := GT_m (ck2 (m8 (m8 (m8 (m8 (m8 (m8 (m8 (m8 (m8 (m8 (m8 (m8 (m8 (m8 (m8 (m8 (m8 (m8 (List.Mem.tail _ (List.Mem.tail _ (List.Mem.tail _ (List.Mem.tail _ (List.Mem.tail _ (List.Mem.head _))))))))))))))))))))))))) rfl
set_option maxRecDepth 4000 in
theorem tw390 : (Jvm.Cond.fieldLink "OneBack$Supply" (11 : Nat) "OneBack$Supply" "costs" "[I") ∈ GT := GT_m (ck2 (m8 (m8 (m8 (m8 (m8 (m8 (m8 (m8 (m8 (m8 (m8 (m8 (m8 (m8 (m8 (m8 (m8 (m8 (List.Mem.tail _ (List.Mem.tail _ (List.Mem.tail _ (List.Mem.tail _ (List.Mem.tail _ (List.Mem.tail _ (List.Mem.head _)))))))))))))))))))))))))) rfl
set_option maxRecDepth 4000 in
theorem tw391 : (Jvm.Cond.fieldLink "OneBack$Supply" (15 : Nat) "OneBack$Supply" "nextCosts" "[I") ∈ GT := GT_m (ck2 (m8 (m8 (m8 (m8 (m8 (m8 (m8 (m8 (m8 (m8 (m8 (m8 (m8 (m8 (m8 (m8 (m8 (m8 (List.Mem.tail _ (List.Mem.tail _ (List.Mem.tail _ (List.Mem.tail _ (List.Mem.tail _ (List.Mem.tail _ (List.Mem.tail _ (List.Mem.head _))))))))))))))))))))))))))) rfl
set_option maxRecDepth 4000 in
theorem tw397 : (Jvm.Cond.classLink "OneBack" (51 : Nat) "OneBack$Porter") ∈ GT := GT_m (ck2 (m8 (m8 (m8 (m8 (m8 (m8 (m8 (m8 (m8 (m8 (m8 (m8 (m8 (m8 (m8 (m8 (m8 (m8 (m8 (List.Mem.tail _ (List.Mem.tail _ (List.Mem.tail _ (List.Mem.tail _ (List.Mem.tail _ (List.Mem.head _)))))))))))))))))))))))))) rfl
set_option maxRecDepth 4000 in
theorem tw398 : (Jvm.Cond.instantiable "OneBack$Porter" (5 : Nat)) ∈ GT := GT_m (ck2 (m8 (m8 (m8 (m8 (m8 (m8 (m8 (m8 (m8 (m8 (m8 (m8 (m8 (m8 (m8 (m8 (m8 (m8 (m8 (List.Mem.tail _ (List.Mem.tail _ (List.Mem.tail _ (List.Mem.tail _ (List.Mem.tail _ (List.Mem.tail _ (List.Mem.head _))))))))))))))))))))))))))) rfl
set_option maxRecDepth 4000 in
theorem tw399 : (Jvm.Cond.methodLink "OneBack" (53 : Nat) ({ cls := "OneBack$Porter", name := "<init>", desc := "(LOneBack$Town;)V" } : Jvm.MethodName)) ∈ GT := GT_m (ck2 (m8 (m8 (m8 (m8 (m8 (m8 (m8 (m8 (m8 (m8 (m8 (m8 (m8 (m8 (m8 (m8 (m8 (m8 (m8 (List.Mem.tail _ (List.Mem.tail _ (List.Mem.tail _ (List.Mem.tail _ (List.Mem.tail _ (List.Mem.tail _ (List.Mem.tail _ (List.Mem.head _)))))))))))))))))))))))))))) rfl
set_option maxRecDepth 4000 in
theorem tw400 : (Jvm.Cond.instanceMethod ({ cls := "OneBack$Porter", name := "<init>", desc := "(LOneBack$Town;)V" } : Jvm.MethodName)) ∈ GT := GT_m (ck2 (m8 (m8 (m8 (m8 (m8 (m8 (m8 (m8 (m8 (m8 (m8 (m8 (m8 (m8 (m8 (m8 (m8 (m8 (m8 (m8 (List.Mem.head _)))))))))))))))))))))) rfl
set_option maxRecDepth 4000 in
theorem tw401 : (Jvm.Cond.code ({ cls := "OneBack$Porter", name := "<init>", desc := "(LOneBack$Town;)V" } : Jvm.MethodName) prog_4_method_1_code (2 : Nat) (Option.none : Option Jvm.ClassFile.FieldType)) ∈ GT := GT_m (ck2 (m8 (m8 (m8 (m8 (m8 (m8 (m8 (m8 (m8 (m8 (m8 (m8 (m8 (m8 (m8 (m8 (m8 (m8 (m8 (m8 (List.Mem.tail _ (List.Mem.head _))))))))))))))))))))))) rfl
set_option maxRecDepth 4000 in
theorem tw402 : (Jvm.Cond.methodLink "OneBack$Porter" (3 : Nat) ({ cls := "java/lang/Object", name := "<init>", desc := "()V" } : Jvm.MethodName)) ∈ GT := GT_m (ck2 (m8 (m8 (m8 (m8 (m8 (m8 (m8 (m8 (m8 (m8 (m8 (m8 (m8 (m8 (m8 (m8 (m8 (m8 (m8 (m8 (List.Mem.tail _ (List.Mem.tail _ (List.Mem.head _)))))))))))))))))))))))) rfl
set_option maxRecDepth 4000 in
theorem tw403 : (Jvm.Cond.fieldLink "OneBack$Porter" (9 : Nat) "OneBack$Porter" "best" "[I") ∈ GT := GT_m (ck2 (m8 (m8 (m8 (m8 (m8 (m8 (m8 (m8 (m8 (m8 (m8 (m8 (m8 (m8 (m8 (m8 (m8 (m8 (m8 (m8 (List.Mem.tail _ (List.Mem.tail _ (List.Mem.tail _ (List.Mem.head _))))))))))))))))))))))))) rfl
set_option maxRecDepth 4000 in
theorem tw404 : (Jvm.Cond.fieldLink "OneBack" (318 : Nat) "OneBack$Porter" "best" "[I") ∈ GT := GT_m (ck2 (m8 (m8 (m8 (m8 (m8 (m8 (m8 (m8 (m8 (m8 (m8 (m8 (m8 (m8 (m8 (m8 (m8 (m8 (m8 (m8 (List.Mem.tail _ (List.Mem.tail _ (List.Mem.tail _ (List.Mem.tail _ (List.Mem.head _)))))))))))))))))))))))))) rfl
set_option maxRecDepth 4000 in
theorem tw405 : (Jvm.Cond.fieldLink "OneBack$Porter" (15 : Nat) "OneBack$Porter" "bestWorth" "I") ∈ GT := GT_m (ck2 (m8 (m8 (m8 (m8 (m8 (m8 (m8 (m8 (m8 (m8 (m8 (m8 (m8 (m8 (m8 (m8 (m8 (m8 (m8 (m8 (List.Mem.tail _ (List.Mem.tail _ (List.Mem.tail _ (List.Mem.tail _ (List.Mem.tail _ (List.Mem.head _))))))))))))))))))))))))))) rfl
set_option maxRecDepth 4000 in
theorem tw406 : (Jvm.Cond.fieldLink "OneBack" (315 : Nat) "OneBack$Porter" "bestWorth" "I") ∈ GT := GT_m (ck2 (m8 (m8 (m8 (m8 (m8 (m8 (m8 (m8 (m8 (m8 (m8 (m8 (m8 (m8 (m8 (m8 (m8 (m8 (m8 (m8 (List.Mem.tail _ (List.Mem.tail _ (List.Mem.tail _ (List.Mem.tail _ (List.Mem.tail _ (List.Mem.tail _ (List.Mem.head _)))))))))))))))))))))))))))) rfl
set_option maxRecDepth 4000 in
theorem tw407 : (Jvm.Cond.fieldLink "OneBack$Porter" (19 : Nat) "OneBack$Porter" "picked" "[I") ∈ GT := GT_m (ck2 (m8 (m8 (m8 (m8 (m8 (m8 (m8 (m8 (m8 (m8 (m8 (m8 (m8 (m8 (m8 (m8 (m8 (m8 (m8 (m8 (List.Mem.tail _ (List.Mem.tail _ (List.Mem.tail _ (List.Mem.tail _ (List.Mem.tail _ (List.Mem.tail _ (List.Mem.tail _ (List.Mem.head _))))))))))))))))))))))))))))) rfl
set_option maxRecDepth 4000 in
theorem tw408 : (Jvm.Cond.fieldLink "OneBack$Porter" (25 : Nat) "OneBack$Porter" "town" "LOneBack$Town;") ∈ GT := GT_m (ck2 (m8 (m8 (m8 (m8 (m8 (m8 (m8 (m8 (m8 (m8 (m8 (m8 (m8 (m8 (m8 (m8 (m8 (m8 (m8 (m8 (m8 (List.Mem.head _))))))))))))))))))))))) rfl
set_option maxRecDepth 4000 in
theorem tw409 : (Jvm.Cond.fieldLink "OneBack$Porter" (22 : Nat) "OneBack$Porter" "house" "I") ∈ GT := GT_m (ck2 (m8 (m8 (m8 (m8 (m8 (m8 (m8 (m8 (m8 (m8 (m8 (m8 (m8 (m8 (m8 (m8 (m8 (m8 (m8 (m8 (m8 (List.Mem.tail _ (List.Mem.head _)))))))))))))))))))))))) rfl
set_option maxRecDepth 4000 in
theorem tw421 : (Jvm.Cond.fieldLink "OneBack" (12 : Nat) "OneBack" "told" "LOneBack$Told;") ∈ GT := GT_m (ck2 (m8 (m8 (m8 (m8 (m8 (m8 (m8 (m8 (m8 (m8 (m8 (m8 (m8 (m8 (m8 (m8 (m8 (m8 (m8 (m8 (m8 (m8 (List.Mem.tail _ (List.Mem.tail _ (List.Mem.tail _ (List.Mem.tail _ (List.Mem.tail _ (List.Mem.head _))))))))))))))))))))))))))))) rfl
set_option maxRecDepth 4000 in
theorem tw422 : (Jvm.Cond.fieldLink "OneBack" (16 : Nat) "OneBack" "images" "[LOneBack$Told;") ∈ GT := GT_m (ck2 (m8 (m8 (m8 (m8 (m8 (m8 (m8 (m8 (m8 (m8 (m8 (m8 (m8 (m8 (m8 (m8 (m8 (m8 (m8 (m8 (m8 (m8 (List.Mem.tail _ (List.Mem.tail _ (List.Mem.tail _ (List.Mem.tail _ (List.Mem.tail _ (List.Mem.tail _ (List.Mem.head _)))))))))))))))))))))))))))))) rfl
set_option maxRecDepth 4000 in
theorem tw423 : (Jvm.Cond.fieldLink "OneBack" (23 : Nat) "OneBack" "reader" "LOneBack$Reader;") ∈ GT := GT_m (ck2 (m8 (m8 (m8 (m8 (m8 (m8 (m8 (m8 (m8 (m8 (m8 (m8 (m8 (m8 (m8 (m8 (m8 (m8 (m8 (m8 (m8 (m8 (List.Mem.tail _ (List.Mem.tail _ (List.Mem.tail _ (List.Mem.tail _ (List.Mem.tail _ (List.Mem.tail _ (List.Mem.tail _ (List.Mem.head _))))))))))))))))))))))))))))))) rfl
set_option maxRecDepth 4000 in
theorem tw424 : (Jvm.Cond.fieldLink "OneBack" (40 : Nat) "OneBack" "walk" "LOneBack$Walk;") ∈ GT := GT_m (ck2 (m8 (m8 (m8 (m8 (m8 (m8 (m8 (m8 (m8 (m8 (m8 (m8 (m8 (m8 (m8 (m8 (m8 (m8 (m8 (m8 (m8 (m8 (m8 (List.Mem.head _))))))))))))))))))))))))) rfl
set_option maxRecDepth 4000 in
theorem tw425 : (Jvm.Cond.fieldLink "OneBack" (47 : Nat) "OneBack" "supply" "LOneBack$Supply;") ∈ GT := GT_m (ck2 (m8 (m8 (m8 (m8 (m8 (m8 (m8 (m8 (m8 (m8 (m8 (m8 (m8 (m8 (m8 (m8 (m8 (m8 (m8 (m8 (m8 (m8 (m8 (List.Mem.tail _ (List.Mem.head _)))))))))))))))))))))))))) rfl
set_option maxRecDepth 4000 in
theorem tw426 : (Jvm.Cond.fieldLink "OneBack" (56 : Nat) "OneBack" "porter" "LOneBack$Porter;") ∈ GT := GT_m (ck2 (m8 (m8 (m8 (m8 (m8 (m8 (m8 (m8 (m8 (m8 (m8 (m8 (m8 (m8 (m8 (m8 (m8 (m8 (m8 (m8 (m8 (m8 (m8 (List.Mem.tail _ (List.Mem.tail _ (List.Mem.head _))))))))))))))))))))))))))) rfl
set_option maxRecDepth 4000 in
theorem tw440 : (Jvm.Cond.methodLink "OneBackLaw" (13 : Nat) ({ cls := "OneBack", name := "feed", desc := "(IIIII)I" } : Jvm.MethodName)) ∈ GT := GT_m (ck2 (m8 (m8 (m8 (m8 (m8 (m8 (m8 (m8 (m8 (m8 (m8 (m8 (m8 (m8 (m8 (m8 (m8 (m8 (m8 (m8 (m8 (m8 (m8 (m8 (m8 (List.Mem.head _))))))))))))))))))))))))))) rfl
set_option maxRecDepth 4000 in
theorem tw441 : (Jvm.Cond.instanceMethod ({ cls := "OneBack", name := "feed", desc := "(IIIII)I" } : Jvm.MethodName)) ∈ GT := GT_m (ck2 (m8 (m8 (m8 (m8 (m8 (m8 (m8 (m8 (m8 (m8 (m8 (m8 (m8 (m8 (m8 (m8 (m8 (m8 (m8 (m8 (m8 (m8 (m8 (m8 (m8 (List.Mem.tail _ (List.Mem.head _)))))))))))))))))))))))))))) rfl
set_option maxRecDepth 4000 in
theorem tw442 : (Jvm.Cond.selects "OneBack" ({ cls := "OneBack", name := "feed", desc := "(IIIII)I" } : Jvm.MethodName) ({ cls := "OneBack", name := "feed", desc := "(IIIII)I" } : Jvm.MethodName)) ∈ GT := GT_m (ck2 (m8 (m8 (m8 (m8 (m8 (m8 (m8 (m8 (m8 (m8 (m8 (m8 (m8 (m8 (m8 (m8 (m8 (m8 (m8 (m8 (m8 (m8 (m8 (m8 (m8 (List.Mem.tail _ (List.Mem.tail _ (List.Mem.head _))))))))))))))))))))))))))))) rfl
set_option maxRecDepth 4000 in
theorem tw443 : (Jvm.Cond.code ({ cls := "OneBack", name := "feed", desc := "(IIIII)I" } : Jvm.MethodName) prog_1_method_2_code (6 : Nat) (Option.some Jvm.ClassFile.FieldType.int)) ∈ GT := GT_m (ck2 (m8 (m8 (m8 (m8 (m8 (m8 (m8 (m8 (m8 (m8 (m8 (m8 (m8 (m8 (m8 (m8 (m8 (m8 (m8 (m8 (m8 (m8 (m8 (m8 (m8 (List.Mem.tail _ (List.Mem.tail _ (List.Mem.tail _ (List.Mem.head _)))))))))))))))))))))))))))))) rfl
set_option maxRecDepth 4000 in
theorem tw444 : (Jvm.Cond.methodLink "OneBack" (64 : Nat) ({ cls := "OneBack$Told", name := "put", desc := "(I)V" } : Jvm.MethodName)) ∈ GT := GT_m (ck2 (m8 (m8 (m8 (m8 (m8 (m8 (m8 (m8 (m8 (m8 (m8 (m8 (m8 (m8 (m8 (m8 (m8 (m8 (m8 (m8 (m8 (m8 (m8 (m8 (m8 (List.Mem.tail _ (List.Mem.tail _ (List.Mem.tail _ (List.Mem.tail _ (List.Mem.head _))))))))))))))))))))))))))))))) rfl
set_option maxRecDepth 4000 in
theorem tw445 : (Jvm.Cond.instanceMethod ({ cls := "OneBack$Told", name := "put", desc := "(I)V" } : Jvm.MethodName)) ∈ GT := GT_m (ck2 (m8 (m8 (m8 (m8 (m8 (m8 (m8 (m8 (m8 (m8 (m8 (m8 (m8 (m8 (m8 (m8 (m8 (m8 (m8 (m8 (m8 (m8 (m8 (m8 (m8 (List.Mem.tail _ (List.Mem.tail _ (List.Mem.tail _ (List.Mem.tail _ (List.Mem.tail _ (List.Mem.head _)))))))))))))))))))))))))))))))) rfl
set_option maxRecDepth 4000 in
theorem tw446 : (Jvm.Cond.selects "OneBack$Told" ({ cls := "OneBack$Told", name := "put", desc := "(I)V" } : Jvm.MethodName) ({ cls := "OneBack$Told", name := "put", desc := "(I)V" } : Jvm.MethodName)) ∈ GT := GT_m (ck2 (m8 (m8 (m8 (m8 (m8 (m8 (m8 (m8 (m8 (m8 (m8 (m8 (m8 (m8 (m8 (m8 (m8 (m8 (m8 (m8 (m8 (m8 (m8 (m8 (m8 (List.Mem.tail _ (List.Mem.tail _ (List.Mem.tail _ (List.Mem.tail _ (List.Mem.tail _ (List.Mem.tail _ (List.Mem.head _))))))))))))))))))))))))))))))))) rfl
set_option maxRecDepth 4000 in
theorem tw447 : (Jvm.Cond.code ({ cls := "OneBack$Told", name := "put", desc := "(I)V" } : Jvm.MethodName) prog_8_method_2_code (3 : Nat) (Option.none : Option Jvm.ClassFile.FieldType)) ∈ GT := GT_m (ck2 (m8 (m8 (m8 (m8 (m8 (m8 (m8 (m8 (m8 (m8 (m8 (m8 (m8 (m8 (m8 (m8 (m8 (m8 (m8 (m8 (m8 (m8 (m8 (m8 (m8 (List.Mem.tail _ (List.Mem.tail _ (List.Mem.tail _ (List.Mem.tail _ (List.Mem.tail _ (List.Mem.tail _ (List.Mem.tail _ (List.Mem.head _)))))))))))))))))))))))))))))))))) rfl
set_option maxRecDepth 4000 in
theorem tw448 : (Jvm.Cond.methodLink "OneBackLaw" (18 : Nat) ({ cls := "OneBack", name := "end", desc := "(I)I" } : Jvm.MethodName)) ∈ GT := GT_m (ck2 (m8 (m8 (m8 (m8 (m8 (m8 (m8 (m8 (m8 (m8 (m8 (m8 (m8 (m8 (m8 (m8 (m8 (m8 (m8 (m8 (m8 (m8 (m8 (m8 (m8 (m8 (List.Mem.head _)))))))))))))))))))))))))))) rfl
set_option maxRecDepth 4000 in
theorem tw449 : (Jvm.Cond.instanceMethod ({ cls := "OneBack", name := "end", desc := "(I)I" } : Jvm.MethodName)) ∈ GT := GT_m (ck2 (m8 (m8 (m8 (m8 (m8 (m8 (m8 (m8 (m8 (m8 (m8 (m8 (m8 (m8 (m8 (m8 (m8 (m8 (m8 (m8 (m8 (m8 (m8 (m8 (m8 (m8 (List.Mem.tail _ (List.Mem.head _))))))))))))))))))))))))))))) rfl
set_option maxRecDepth 4000 in
theorem tw450 : (Jvm.Cond.selects "OneBack" ({ cls := "OneBack", name := "end", desc := "(I)I" } : Jvm.MethodName) ({ cls := "OneBack", name := "end", desc := "(I)I" } : Jvm.MethodName)) ∈ GT := GT_m (ck2 (m8 (m8 (m8 (m8 (m8 (m8 (m8 (m8 (m8 (m8 (m8 (m8 (m8 (m8 (m8 (m8 (m8 (m8 (m8 (m8 (m8 (m8 (m8 (m8 (m8 (m8 (List.Mem.tail _ (List.Mem.tail _ (List.Mem.head _)))))))))))))))))))))))))))))) rfl
set_option maxRecDepth 4000 in
theorem tw451 : (Jvm.Cond.code ({ cls := "OneBack", name := "end", desc := "(I)I" } : Jvm.MethodName) prog_1_method_3_code (2 : Nat) (Option.some Jvm.ClassFile.FieldType.int)) ∈ GT := GT_m (ck2 (m8 (m8 (m8 (m8 (m8 (m8 (m8 (m8 (m8 (m8 (m8 (m8 (m8 (m8 (m8 (m8 (m8 (m8 (m8 (m8 (m8 (m8 (m8 (m8 (m8 (m8 (List.Mem.tail _ (List.Mem.tail _ (List.Mem.tail _ (List.Mem.head _))))))))))))))))))))))))))))))) rfl
set_option maxRecDepth 4000 in
theorem tw452 : (Jvm.Cond.methodLink "OneBackLaw" (23 : Nat) ({ cls := "OneBack", name := "text", desc := "(II)I" } : Jvm.MethodName)) ∈ GT := GT_m (ck2 (m8 (m8 (m8 (m8 (m8 (m8 (m8 (m8 (m8 (m8 (m8 (m8 (m8 (m8 (m8 (m8 (m8 (m8 (m8 (m8 (m8 (m8 (m8 (m8 (m8 (m8 (List.Mem.tail _ (List.Mem.tail _ (List.Mem.tail _ (List.Mem.tail _ (List.Mem.head _)))))))))))))))))))))))))))))))) rfl
set_option maxRecDepth 4000 in
theorem tw453 : (Jvm.Cond.instanceMethod ({ cls := "OneBack", name := "text", desc := "(II)I" } : Jvm.MethodName)) ∈ GT := GT_m (ck2 (m8 (m8 (m8 (m8 (m8 (m8 (m8 (m8 (m8 (m8 (m8 (m8 (m8 (m8 (m8 (m8 (m8 (m8 (m8 (m8 (m8 (m8 (m8 (m8 (m8 (m8 (List.Mem.tail _ (List.Mem.tail _ (List.Mem.tail _ (List.Mem.tail _ (List.Mem.tail _ (List.Mem.head _))))))))))))))))))))))))))))))))) rfl
set_option maxRecDepth 4000 in
theorem tw454 : (Jvm.Cond.selects "OneBack" ({ cls := "OneBack", name := "text", desc := "(II)I" } : Jvm.MethodName) ({ cls := "OneBack", name := "text", desc := "(II)I" } : Jvm.MethodName)) ∈ GT := GT_m (ck2 (m8 (m8 (m8 (m8 (m8 (m8 (m8 (m8 (m8 (m8 (m8 (m8 (m8 (m8 (m8 (m8 (m8 (m8 (m8 (m8 (m8 (m8 (m8 (m8 (m8 (m8 (List.Mem.tail _ (List.Mem.tail _ (List.Mem.tail _ (List.Mem.tail _ (List.Mem.tail _ (List.Mem.tail _ (List.Mem.head _)))))))))))))))))))))))))))))))))) rfl
set_option maxRecDepth 4000 in
theorem tw455 : (Jvm.Cond.code ({ cls := "OneBack", name := "text", desc := "(II)I" } : Jvm.MethodName) prog_1_method_4_code (5 : Nat) (Option.some Jvm.ClassFile.FieldType.int)) ∈ GT := GT_m (ck2 (m8 (m8 (m8 (m8 (m8 (m8 (m8 (m8 (m8 (m8 (m8 (m8 (m8 (m8 (m8 (m8 (m8 (m8 (m8 (m8 (m8 (m8 (m8 (m8 (m8 (m8 (List.Mem.tail _ (List.Mem.tail _ (List.Mem.tail _ (List.Mem.tail _ (List.Mem.tail _ (List.Mem.tail _ (List.Mem.tail _ (List.Mem.head _))))))))))))))))))))))))))))))))))) rfl
set_option maxRecDepth 4000 in
theorem tw456 : (Jvm.Cond.methodLink "OneBack" (74 : Nat) ({ cls := "OneBack$Told", name := "slot", desc := "(II)I" } : Jvm.MethodName)) ∈ GT := GT_m (ck2 (m8 (m8 (m8 (m8 (m8 (m8 (m8 (m8 (m8 (m8 (m8 (m8 (m8 (m8 (m8 (m8 (m8 (m8 (m8 (m8 (m8 (m8 (m8 (m8 (m8 (m8 (m8 (List.Mem.head _))))))))))))))))))))))))))))) rfl
set_option maxRecDepth 4000 in
theorem tw457 : (Jvm.Cond.instanceMethod ({ cls := "OneBack$Told", name := "slot", desc := "(II)I" } : Jvm.MethodName)) ∈ GT := GT_m (ck2 (m8 (m8 (m8 (m8 (m8 (m8 (m8 (m8 (m8 (m8 (m8 (m8 (m8 (m8 (m8 (m8 (m8 (m8 (m8 (m8 (m8 (m8 (m8 (m8 (m8 (m8 (m8 (List.Mem.tail _ (List.Mem.head _)))))))))))))))))))))))))))))) rfl
set_option maxRecDepth 4000 in
theorem tw458 : (Jvm.Cond.selects "OneBack$Told" ({ cls := "OneBack$Told", name := "slot", desc := "(II)I" } : Jvm.MethodName) ({ cls := "OneBack$Told", name := "slot", desc := "(II)I" } : Jvm.MethodName)) ∈ GT := GT_m (ck2 (m8 (m8 (m8 (m8 (m8 (m8 (m8 (m8 (m8 (m8 (m8 (m8 (m8 (m8 (m8 (m8 (m8 (m8 (m8 (m8 (m8 (m8 (m8 (m8 (m8 (m8 (m8 (List.Mem.tail _ (List.Mem.tail _ (List.Mem.head _))))))))))))))))))))))))))))))) rfl
set_option maxRecDepth 4000 in
theorem tw459 : (Jvm.Cond.code ({ cls := "OneBack$Told", name := "slot", desc := "(II)I" } : Jvm.MethodName) prog_8_method_8_code (3 : Nat) (Option.some Jvm.ClassFile.FieldType.int)) ∈ GT := GT_m (ck2 (m8 (m8 (m8 (m8 (m8 (m8 (m8 (m8 (m8 (m8 (m8 (m8 (m8 (m8 (m8 (m8 (m8 (m8 (m8 (m8 (m8 (m8 (m8 (m8 (m8 (m8 (m8 (List.Mem.tail _ (List.Mem.tail _ (List.Mem.tail _ (List.Mem.head _)))))))))))))))))))))))))))))))) rfl
set_option maxRecDepth 4000 in
theorem tw460 : (Jvm.Cond.methodLink "OneBack$Told" (57 : Nat) ({ cls := "OneBack$Told", name := "isThere", desc := "(II)Z" } : Jvm.MethodName)) ∈ GT := GT_m (ck2 (m8 (m8 (m8 (m8 (m8 (m8 (m8 (m8 (m8 (m8 (m8 (m8 (m8 (m8 (m8 (m8 (m8 (m8 (m8 (m8 (m8 (m8 (m8 (m8 (m8 (m8 (m8 (List.Mem.tail _ (List.Mem.tail _ (List.Mem.tail _ (List.Mem.tail _ (List.Mem.head _))))))))))))))))))))))))))))))))) rfl
set_option maxRecDepth 4000 in
theorem tw461 : (Jvm.Cond.instanceMethod ({ cls := "OneBack$Told", name := "isThere", desc := "(II)Z" } : Jvm.MethodName)) ∈ GT := GT_m (ck2 (m8 (m8 (m8 (m8 (m8 (m8 (m8 (m8 (m8 (m8 (m8 (m8 (m8 (m8 (m8 (m8 (m8 (m8 (m8 (m8 (m8 (m8 (m8 (m8 (m8 (m8 (m8 (List.Mem.tail _ (List.Mem.tail _ (List.Mem.tail _ (List.Mem.tail _ (List.Mem.tail _ (List.Mem.head _)))))))))))))))))))))))))))))))))) rfl
set_option maxRecDepth 4000 in
theorem tw462 : (Jvm.Cond.selects "OneBack$Told" ({ cls := "OneBack$Told", name := "isThere", desc := "(II)Z" } : Jvm.MethodName) ({ cls := "OneBack$Told", name := "isThere", desc := "(II)Z" } : Jvm.MethodName)) ∈ GT := GT_m (ck2 (m8 (m8 (m8 (m8 (m8 (m8 (m8 (m8 (m8 (m8 (m8 (m8 (m8 (m8 (m8 (m8 (m8 (m8 (m8 (m8 (m8 (m8 (m8 (m8 (m8 (m8 (m8 (List.Mem.tail _ (List.Mem.tail _ (List.Mem.tail _ (List.Mem.tail _ (List.Mem.tail _ (List.Mem.tail _ (List.Mem.head _))))))))))))))))))))))))))))))))))) rfl
set_option maxRecDepth 4000 in
theorem tw463 : (Jvm.Cond.code ({ cls := "OneBack$Told", name := "isThere", desc := "(II)Z" } : Jvm.MethodName) prog_8_method_3_code (3 : Nat) (Option.some Jvm.ClassFile.FieldType.boolean)) ∈ GT := GT_m (ck2 (m8 (m8 (m8 (m8 (m8 (m8 (m8 (m8 (m8 (m8 (m8 (m8 (m8 (m8 (m8 (m8 (m8 (m8 (m8 (m8 (m8 (m8 (m8 (m8 (m8 (m8 (m8 (List.Mem.tail _ (List.Mem.tail _ (List.Mem.tail _ (List.Mem.tail _ (List.Mem.tail _ (List.Mem.tail _ (List.Mem.tail _ (List.Mem.head _)))))))))))))))))))))))))))))))))))) rfl
set_option maxRecDepth 4000 in
theorem tw464 : (Jvm.Cond.methodLink "OneBack" (82 : Nat) ({ cls := "OneBack$Reader", name := "read", desc := "([BII)V" } : Jvm.MethodName)) ∈ GT := GT_m (ck2 (m8 (m8 (m8 (m8 (m8 (m8 (m8 (m8 (m8 (m8 (m8 (m8 (m8 (m8 (m8 (m8 (m8 (m8 (m8 (m8 (m8 (m8 (m8 (m8 (m8 (m8 (m8 (m8 (List.Mem.head _)))))))))))))))))))))))))))))) rfl
set_option maxRecDepth 4000 in
theorem tw465 : (Jvm.Cond.instanceMethod ({ cls := "OneBack$Reader", name := "read", desc := "([BII)V" } : Jvm.MethodName)) ∈ GT := GT_m (ck2 (m8 (m8 (m8 (m8 (m8 (m8 (m8 (m8 (m8 (m8 (m8 (m8 (m8 (m8 (m8 (m8 (m8 (m8 (m8 (m8 (m8 (m8 (m8 (m8 (m8 (m8 (m8 (m8 (List.Mem.tail _ (List.Mem.head _))))))))))))))))))))))))))))))) rfl
set_option maxRecDepth 4000 in
theorem tw466 : (Jvm.Cond.selects "OneBack$Reader" ({ cls := "OneBack$Reader", name := "read", desc := "([BII)V" } : Jvm.MethodName) ({ cls := "OneBack$Reader", name := "read", desc := "([BII)V" } : Jvm.MethodName)) ∈ GT := GT_m (ck2 (m8 (m8 (m8 (m8 (m8 (m8 (m8 (m8 (m8 (m8 (m8 (m8 (m8 (m8 (m8 (m8 (m8 (m8 (m8 (m8 (m8 (m8 (m8 (m8 (m8 (m8 (m8 (m8 (List.Mem.tail _ (List.Mem.tail _ (List.Mem.head _)))))))))))))))))))))))))))))))) rfl
set_option maxRecDepth 4000 in
theorem tw467 : (Jvm.Cond.code ({ cls := "OneBack$Reader", name := "read", desc := "([BII)V" } : Jvm.MethodName) prog_5_method_2_code (5 : Nat) (Option.none : Option Jvm.ClassFile.FieldType)) ∈ GT := GT_m (ck2 (m8 (m8 (m8 (m8 (m8 (m8 (m8 (m8 (m8 (m8 (m8 (m8 (m8 (m8 (m8 (m8 (m8 (m8 (m8 (m8 (m8 (m8 (m8 (m8 (m8 (m8 (m8 (m8 (List.Mem.tail _ (List.Mem.tail _ (List.Mem.tail _ (List.Mem.head _))))))))))))))))))))))))))))))))) rfl
set_option maxRecDepth 4000 in
theorem tw468 : (Jvm.Cond.methodLink "OneBack$Reader" (79 : Nat) ({ cls := "java/lang/Math", name := "min", desc := "(II)I" } : Jvm.MethodName)) ∈ GT := GT_m (ck2 (m8 (m8 (m8 (m8 (m8 (m8 (m8 (m8 (m8 (m8 (m8 (m8 (m8 (m8 (m8 (m8 (m8 (m8 (m8 (m8 (m8 (m8 (m8 (m8 (m8 (m8 (m8 (m8 (List.Mem.tail _ (List.Mem.tail _ (List.Mem.tail _ (List.Mem.tail _ (List.Mem.head _)))))))))))))))))))))))))))))))))) rfl
set_option maxRecDepth 4000 in
theorem tw469 : (Jvm.Cond.static ({ cls := "java/lang/Math", name := "min", desc := "(II)I" } : Jvm.MethodName)) ∈ GT := GT_m (ck2 (m8 (m8 (m8 (m8 (m8 (m8 (m8 (m8 (m8 (m8 (m8 (m8 (m8 (m8 (m8 (m8 (m8 (m8 (m8 (m8 (m8 (m8 (m8 (m8 (m8 (m8 (m8 (m8 (List.Mem.tail _ (List.Mem.tail _ (List.Mem.tail _ (List.Mem.tail _ (List.Mem.tail _ (List.Mem.head _))))))))))))))))))))))))))))))))))) rfl
set_option maxRecDepth 4000 in
theorem tw470 : (Jvm.Cond.code ({ cls := "java/lang/Math", name := "min", desc := "(II)I" } : Jvm.MethodName) prog_15_method_69_code (2 : Nat) (Option.some Jvm.ClassFile.FieldType.int)) ∈ GT := GT_m (ck2 (m8 (m8 (m8 (m8 (m8 (m8 (m8 (m8 (m8 (m8 (m8 (m8 (m8 (m8 (m8 (m8 (m8 (m8 (m8 (m8 (m8 (m8 (m8 (m8 (m8 (m8 (m8 (m8 (List.Mem.tail _ (List.Mem.tail _ (List.Mem.tail _ (List.Mem.tail _ (List.Mem.tail _ (List.Mem.tail _ (List.Mem.head _)))))))))))))))))))))))))))))))))))) rfl
set_option maxRecDepth 4000 in
theorem tw471 : (Jvm.Cond.methodLink "OneBack$Reader" (85 : Nat) ({ cls := "OneBack$Reader", name := "begin", desc := "([BI)V" } : Jvm.MethodName)) ∈ GT := GT_m (ck2 (m8 (m8 (m8 (m8 (m8 (m8 (m8 (m8 (m8 (m8 (m8 (m8 (m8 (m8 (m8 (m8 (m8 (m8 (m8 (m8 (m8 (m8 (m8 (m8 (m8 (m8 (m8 (m8 (List.Mem.tail _ (List.Mem.tail _ (List.Mem.tail _ (List.Mem.tail _ (List.Mem.tail _ (List.Mem.tail _ (List.Mem.tail _ (List.Mem.head _))))))))))))))))))))))))))))))))))))) rfl
set_option maxRecDepth 4000 in
theorem tw473 : (Jvm.Cond.instanceMethod ({ cls := "OneBack$Reader", name := "begin", desc := "([BI)V" } : Jvm.MethodName)) ∈ GT := GT_m (ck2 (m8 (m8 (m8 (m8 (m8 (m8 (m8 (m8 (m8 (m8 (m8 (m8 (m8 (m8 (m8 (m8 (m8 (m8 (m8 (m8 (m8 (m8 (m8 (m8 (m8 (m8 (m8 (m8 (m8 (List.Mem.tail _ (List.Mem.head _)))))))))))))))))))))))))))))))) rfl
set_option maxRecDepth 4000 in
theorem tw474 : (Jvm.Cond.code ({ cls := "OneBack$Reader", name := "begin", desc := "([BI)V" } : Jvm.MethodName) prog_5_method_3_code (3 : Nat) (Option.none : Option Jvm.ClassFile.FieldType)) ∈ GT := GT_m (ck2 (m8 (m8 (m8 (m8 (m8 (m8 (m8 (m8 (m8 (m8 (m8 (m8 (m8 (m8 (m8 (m8 (m8 (m8 (m8 (m8 (m8 (m8 (m8 (m8 (m8 (m8 (m8 (m8 (m8 (List.Mem.tail _ (List.Mem.tail _ (List.Mem.head _))))))))))))))))))))))))))))))))) rfl
set_option maxRecDepth 4000 in
theorem tw475 : (Jvm.Cond.methodLink "OneBack$Reader" (106 : Nat) ({ cls := "OneBack$Town", name := "clear", desc := "()V" } : Jvm.MethodName)) ∈ GT := GT_m (ck2 (m8 (m8 (m8 (m8 (m8 (m8 (m8 (m8 (m8 (m8 (m8 (m8 (m8 (m8 (m8 (m8 (m8 (m8 (m8 (m8 (m8 (m8 (m8 (m8 (m8 (m8 (m8 (m8 (m8 (List.Mem.tail _ (List.Mem.tail _ (List.Mem.tail _ (List.Mem.head _)))))))))))))))))))))))))))))))))) rfl
set_option maxRecDepth 4000 in
theorem tw476 : (Jvm.Cond.methodLink "OneBack$Reader" (109 : Nat) ({ cls := "OneBack$Law", name := "clear", desc := "()V" } : Jvm.MethodName)) ∈ GT := GT_m (ck2 (m8 (m8 (m8 (m8 (m8 (m8 (m8 (m8 (m8 (m8 (m8 (m8 (m8 (m8 (m8 (m8 (m8 (m8 (m8 (m8 (m8 (m8 (m8 (m8 (m8 (m8 (m8 (m8 (m8 (List.Mem.tail _ (List.Mem.tail _ (List.Mem.tail _ (List.Mem.tail _ (List.Mem.head _))))))))))))))))))))))))))))))))))) rfl
set_option maxRecDepth 4000 in
theorem tw477 : (Jvm.Cond.instanceMethod ({ cls := "OneBack$Law", name := "clear", desc := "()V" } : Jvm.MethodName)) ∈ GT := GT_m (ck2 (m8 (m8 (m8 (m8 (m8 (m8 (m8 (m8 (m8 (m8 (m8 (m8 (m8 (m8 (m8 (m8 (m8 (m8 (m8 (m8 (m8 (m8 (m8 (m8 (m8 (m8 (m8 (m8 (m8 (List.Mem.tail _ (List.Mem.tail _ (List.Mem.tail _ (List.Mem.tail _ (List.Mem.tail _ (List.Mem.head _)))))))))))))))))))))))))))))))))))) rfl
set_option maxRecDepth 4000 in
theorem tw478 : (Jvm.Cond.selects "OneBack$Law" ({ cls := "OneBack$Law", name := "clear", desc := "()V" } : Jvm.MethodName) ({ cls := "OneBack$Law", name := "clear", desc := "()V" } : Jvm.MethodName)) ∈ GT := GT_m (ck2 (m8 (m8 (m8 (m8 (m8 (m8 (m8 (m8 (m8 (m8 (m8 (m8 (m8 (m8 (m8 (m8 (m8 (m8 (m8 (m8 (m8 (m8 (m8 (m8 (m8 (m8 (m8 (m8 (m8 (List.Mem.tail _ (List.Mem.tail _ (List.Mem.tail _ (List.Mem.tail _ (List.Mem.tail _ (List.Mem.tail _ (List.Mem.head _))))))))))))))))))))))))))))))))))))) rfl
set_option maxRecDepth 4000 in
theorem tw479 : (Jvm.Cond.code ({ cls := "OneBack$Law", name := "clear", desc := "()V" } : Jvm.MethodName) prog_2_method_2_code (1 : Nat) (Option.none : Option Jvm.ClassFile.FieldType)) ∈ GT := GT_m (ck2 (m8 (m8 (m8 (m8 (m8 (m8 (m8 (m8 (m8 (m8 (m8 (m8 (m8 (m8 (m8 (m8 (m8 (m8 (m8 (m8 (m8 (m8 (m8 (m8 (m8 (m8 (m8 (m8 (m8 (List.Mem.tail _ (List.Mem.tail _ (List.Mem.tail _ (List.Mem.tail _ (List.Mem.tail _ (List.Mem.tail _ (List.Mem.tail _ (List.Mem.head _)))))))))))))))))))))))))))))))))))))) rfl
set_option maxRecDepth 4000 in
theorem tw480 : (Jvm.Cond.methodLink "OneBack$Reader" (110 : Nat) ({ cls := "OneBack$Nights", name := "clear", desc := "()V" } : Jvm.MethodName)) ∈ GT := GT_m (ck3 (List.Mem.head _)) rfl
set_option maxRecDepth 4000 in
theorem tw481 : (Jvm.Cond.instanceMethod ({ cls := "OneBack$Nights", name := "clear", desc := "()V" } : Jvm.MethodName)) ∈ GT := GT_m (ck3 (List.Mem.tail _ (List.Mem.head _))) rfl
set_option maxRecDepth 4000 in
theorem tw482 : (Jvm.Cond.selects "OneBack$Nights" ({ cls := "OneBack$Nights", name := "clear", desc := "()V" } : Jvm.MethodName) ({ cls := "OneBack$Nights", name := "clear", desc := "()V" } : Jvm.MethodName)) ∈ GT := GT_m (ck3 (List.Mem.tail _ (List.Mem.tail _ (List.Mem.head _)))) rfl
set_option maxRecDepth 4000 in
theorem tw483 : (Jvm.Cond.code ({ cls := "OneBack$Nights", name := "clear", desc := "()V" } : Jvm.MethodName) prog_3_method_2_code (1 : Nat) (Option.none : Option Jvm.ClassFile.FieldType)) ∈ GT := GT_m (ck3 (List.Mem.tail _ (List.Mem.tail _ (List.Mem.tail _ (List.Mem.head _))))) rfl
set_option maxRecDepth 4000 in
theorem tw484 : (Jvm.Cond.methodLink "OneBack$Reader" (111 : Nat) ({ cls := "OneBack$Sight", name := "clear", desc := "()V" } : Jvm.MethodName)) ∈ GT := GT_m (ck3 (List.Mem.tail _ (List.Mem.tail _ (List.Mem.tail _ (List.Mem.tail _ (List.Mem.head _)))))) rfl
set_option maxRecDepth 4000 in
theorem tw485 : (Jvm.Cond.methodLink "OneBack$Reader" (89 : Nat) ({ cls := "OneBack$Reader", name := "step", desc := "()V" } : Jvm.MethodName)) ∈ GT := GT_m (ck3 (List.Mem.tail _ (List.Mem.tail _ (List.Mem.tail _ (List.Mem.tail _ (List.Mem.tail _ (List.Mem.head _))))))) rfl
set_option maxRecDepth 4000 in
theorem tw487 : (Jvm.Cond.instanceMethod ({ cls := "OneBack$Reader", name := "step", desc := "()V" } : Jvm.MethodName)) ∈ GT := GT_m (ck3 (List.Mem.tail _ (List.Mem.tail _ (List.Mem.tail _ (List.Mem.tail _ (List.Mem.tail _ (List.Mem.tail _ (List.Mem.tail _ (List.Mem.head _))))))))) rfl
set_option maxRecDepth 4000 in
theorem tw488 : (Jvm.Cond.code ({ cls := "OneBack$Reader", name := "step", desc := "()V" } : Jvm.MethodName) prog_5_method_15_code (2 : Nat) (Option.none : Option Jvm.ClassFile.FieldType)) ∈ GT := GT_m (ck3 (m8 (List.Mem.head _))) rfl
set_option maxRecDepth 4000 in
theorem tw489 : (Jvm.Cond.methodLink "OneBack$Reader" (195 : Nat) ({ cls := "OneBack$Reader", name := "byteAt", desc := "(I)I" } : Jvm.MethodName)) ∈ GT := GT_m (ck3 (m8 (List.Mem.tail _ (List.Mem.head _)))) rfl
set_option maxRecDepth 4000 in
theorem tw491 : (Jvm.Cond.instanceMethod ({ cls := "OneBack$Reader", name := "byteAt", desc := "(I)I" } : Jvm.MethodName)) ∈ GT := GT_m (ck3 (m8 (List.Mem.tail _ (List.Mem.tail _ (List.Mem.tail _ (List.Mem.head _)))))) rfl
set_option maxRecDepth 4000 in
theorem tw492 : (Jvm.Cond.code ({ cls := "OneBack$Reader", name := "byteAt", desc := "(I)I" } : Jvm.MethodName) prog_5_method_17_code (2 : Nat) (Option.some Jvm.ClassFile.FieldType.int)) ∈ GT := GT_m (ck3 (m8 (List.Mem.tail _ (List.Mem.tail _ (List.Mem.tail _ (List.Mem.tail _ (List.Mem.head _))))))) rfl
set_option maxRecDepth 4000 in
theorem tw493 : (Jvm.Cond.methodLink "OneBack$Reader" (248 : Nat) ({ cls := "OneBack$Reader", name := "isBlank", desc := "(I)Z" } : Jvm.MethodName)) ∈ GT := GT_m (ck3 (m8 (List.Mem.tail _ (List.Mem.tail _ (List.Mem.tail _ (List.Mem.tail _ (List.Mem.tail _ (List.Mem.head _)))))))) rfl
set_option maxRecDepth 4000 in
theorem tw494 : (Jvm.Cond.static ({ cls := "OneBack$Reader", name := "isBlank", desc := "(I)Z" } : Jvm.MethodName)) ∈ GT := GT_m (ck3 (m8 (List.Mem.tail _ (List.Mem.tail _ (List.Mem.tail _ (List.Mem.tail _ (List.Mem.tail _ (List.Mem.tail _ (List.Mem.head _))))))))) rfl
set_option maxRecDepth 4000 in
theorem tw495 : (Jvm.Cond.code ({ cls := "OneBack$Reader", name := "isBlank", desc := "(I)Z" } : Jvm.MethodName) prog_5_method_18_code (1 : Nat) (Option.some Jvm.ClassFile.FieldType.boolean)) ∈ GT := GT_m (ck3 (m8 (List.Mem.tail _ (List.Mem.tail _ (List.Mem.tail _ (List.Mem.tail _ (List.Mem.tail _ (List.Mem.tail _ (List.Mem.tail _ (List.Mem.head _)))))))))) rfl
set_option maxRecDepth 4000 in
theorem tw496 : (Jvm.Cond.methodLink "OneBack$Reader" (251 : Nat) ({ cls := "OneBack$Reader", name := "isLetter", desc := "(I)Z" } : Jvm.MethodName)) ∈ GT := GT_m (ck3 (m8 (m8 (List.Mem.head _)))) rfl
set_option maxRecDepth 4000 in
theorem tw497 : (Jvm.Cond.static ({ cls := "OneBack$Reader", name := "isLetter", desc := "(I)Z" } : Jvm.MethodName)) ∈ GT := GT_m (ck3 (m8 (m8 (List.Mem.tail _ (List.Mem.head _))))) rfl
set_option maxRecDepth 4000 in
theorem tw498 : (Jvm.Cond.code ({ cls := "OneBack$Reader", name := "isLetter", desc := "(I)Z" } : Jvm.MethodName) prog_5_method_19_code (1 : Nat) (Option.some Jvm.ClassFile.FieldType.boolean)) ∈ GT := GT_m (ck3 (m8 (m8 (List.Mem.tail _ (List.Mem.tail _ (List.Mem.head _)))))) rfl
set_option maxRecDepth 4000 in
theorem tw499 : (Jvm.Cond.methodLink "OneBack$Reader" (254 : Nat) ({ cls := "OneBack$Reader", name := "isDigit", desc := "(I)Z" } : Jvm.MethodName)) ∈ GT := GT_m (ck3 (m8 (m8 (List.Mem.tail _ (List.Mem.tail _ (List.Mem.tail _ (List.Mem.head _))))))) rfl
set_option maxRecDepth 4000 in
theorem tw500 : (Jvm.Cond.static ({ cls := "OneBack$Reader", name := "isDigit", desc := "(I)Z" } : Jvm.MethodName)) ∈ GT := GT_m (ck3 (m8 (m8 (List.Mem.tail _ (List.Mem.tail _ (List.Mem.tail _ (List.Mem.tail _ (List.Mem.head _)))))))) rfl
set_option maxRecDepth 4000 in
theorem tw501 : (Jvm.Cond.code ({ cls := "OneBack$Reader", name := "isDigit", desc := "(I)Z" } : Jvm.MethodName) prog_5_method_20_code (1 : Nat) (Option.some Jvm.ClassFile.FieldType.boolean)) ∈ GT := GT_m (ck3 (m8 (m8 (List.Mem.tail _ (List.Mem.tail _ (List.Mem.tail _ (List.Mem.tail _ (List.Mem.tail _ (List.Mem.head _))))))))) rfl
set_option maxRecDepth 4000 in
theorem tw502 : (Jvm.Cond.methodLink "OneBack$Reader" (257 : Nat) ({ cls := "OneBack$Reader", name := "stepNumber", desc := "()V" } : Jvm.MethodName)) ∈ GT := GT_m (ck3 (m8 (m8 (List.Mem.tail _ (List.Mem.tail _ (List.Mem.tail _ (List.Mem.tail _ (List.Mem.tail _ (List.Mem.tail _ (List.Mem.head _)))))))))) rfl
set_option maxRecDepth 4000 in
theorem tw504 : (Jvm.Cond.instanceMethod ({ cls := "OneBack$Reader", name := "stepNumber", desc := "()V" } : Jvm.MethodName)) ∈ GT := GT_m (ck3 (m8 (m8 (m8 (List.Mem.head _))))) rfl
set_option maxRecDepth 4000 in
theorem tw505 : (Jvm.Cond.code ({ cls := "OneBack$Reader", name := "stepNumber", desc := "()V" } : Jvm.MethodName) prog_5_method_16_code (1 : Nat) (Option.none : Option Jvm.ClassFile.FieldType)) ∈ GT := GT_m (ck3 (m8 (m8 (m8 (List.Mem.tail _ (List.Mem.head _)))))) rfl
set_option maxRecDepth 4000 in
theorem tw506 : (Jvm.Cond.methodLink "OneBack$Reader" (92 : Nat) ({ cls := "OneBack$Reader", name := "readLine", desc := "(I)V" } : Jvm.MethodName)) ∈ GT := GT_m (ck3 (m8 (m8 (m8 (List.Mem.tail _ (List.Mem.tail _ (List.Mem.head _))))))) rfl
set_option maxRecDepth 4000 in
theorem tw508 : (Jvm.Cond.instanceMethod ({ cls := "OneBack$Reader", name := "readLine", desc := "(I)V" } : Jvm.MethodName)) ∈ GT := GT_m (ck3 (m8 (m8 (m8 (List.Mem.tail _ (List.Mem.tail _ (List.Mem.tail _ (List.Mem.tail _ (List.Mem.head _))))))))) rfl
set_option maxRecDepth 4000 in
theorem tw509 : (Jvm.Cond.code ({ cls := "OneBack$Reader", name := "readLine", desc := "(I)V" } : Jvm.MethodName) prog_5_method_6_code (4 : Nat) (Option.none : Option Jvm.ClassFile.FieldType)) ∈ GT := GT_m (ck3 (m8 (m8 (m8 (List.Mem.tail _ (List.Mem.tail _ (List.Mem.tail _ (List.Mem.tail _ (List.Mem.tail _ (List.Mem.head _)))))))))) rfl
set_option maxRecDepth 4000 in
theorem tw510 : (Jvm.Cond.methodLink "OneBack$Reader" (112 : Nat) ({ cls := "OneBack$Reader", name := "lineOf", desc := "(I)I" } : Jvm.MethodName)) ∈ GT := GT_m (ck3 (m8 (m8 (m8 (List.Mem.tail _ (List.Mem.tail _ (List.Mem.tail _ (List.Mem.tail _ (List.Mem.tail _ (List.Mem.tail _ (List.Mem.head _))))))))))) rfl
set_option maxRecDepth 4000 in
theorem tw512 : (Jvm.Cond.instanceMethod ({ cls := "OneBack$Reader", name := "lineOf", desc := "(I)I" } : Jvm.MethodName)) ∈ GT := GT_m (ck3 (m8 (m8 (m8 (m8 (List.Mem.head _)))))) rfl
set_option maxRecDepth 4000 in
theorem tw513 : (Jvm.Cond.code ({ cls := "OneBack$Reader", name := "lineOf", desc := "(I)I" } : Jvm.MethodName) prog_5_method_9_code (3 : Nat) (Option.some Jvm.ClassFile.FieldType.int)) ∈ GT := GT_m (ck3 (m8 (m8 (m8 (m8 (List.Mem.tail _ (List.Mem.head _))))))) rfl
set_option maxRecDepth 4000 in
theorem tw514 : (Jvm.Cond.fieldLink "OneBack$Reader" (142 : Nat) "OneBack$Reader" "FIRST_LINE" "[I") ∈ GT := GT_m (ck3 (m8 (m8 (m8 (m8 (List.Mem.tail _ (List.Mem.tail _ (List.Mem.head _)))))))) rfl
set_option maxRecDepth 4000 in
theorem tw516 : (Jvm.Cond.methodLink "OneBack$Reader" (145 : Nat) ({ cls := "OneBack$Reader", name := "wordOf", desc := "(I)Ljava/lang/String;" } : Jvm.MethodName)) ∈ GT := GT_m (ck3 (m8 (m8 (m8 (m8 (List.Mem.tail _ (List.Mem.tail _ (List.Mem.tail _ (List.Mem.tail _ (List.Mem.head _)))))))))) rfl
set_option maxRecDepth 4000 in
theorem tw517 : (Jvm.Cond.static ({ cls := "OneBack$Reader", name := "wordOf", desc := "(I)Ljava/lang/String;" } : Jvm.MethodName)) ∈ GT := GT_m (ck3 (m8 (m8 (m8 (m8 (List.Mem.tail _ (List.Mem.tail _ (List.Mem.tail _ (List.Mem.tail _ (List.Mem.tail _ (List.Mem.head _))))))))))) rfl
set_option maxRecDepth 4000 in
theorem tw518 : (Jvm.Cond.code ({ cls := "OneBack$Reader", name := "wordOf", desc := "(I)Ljava/lang/String;" } : Jvm.MethodName) prog_5_method_10_code (1 : Nat) (Option.some (Jvm.ClassFile.FieldType.object "java/lang/String"))) ∈ GT := GT_m (ck3 (m8 (m8 (m8 (m8 (List.Mem.tail _ (List.Mem.tail _ (List.Mem.tail _ (List.Mem.tail _ (List.Mem.tail _ (List.Mem.tail _ (List.Mem.head _)))))))))))) rfl
set_option maxRecDepth 4000 in
theorem tw538 : (Jvm.Cond.methodLink "OneBack$Reader" (149 : Nat) ({ cls := "OneBack$Reader", name := "isWord", desc := "(Ljava/lang/String;)Z" } : Jvm.MethodName)) ∈ GT := GT_m (ck3 (m8 (m8 (m8 (m8 (m8 (m8 (m8 (List.Mem.tail _ (List.Mem.tail _ (List.Mem.head _))))))))))) rfl
set_option maxRecDepth 4000 in
theorem tw540 : (Jvm.Cond.instanceMethod ({ cls := "OneBack$Reader", name := "isWord", desc := "(Ljava/lang/String;)Z" } : Jvm.MethodName)) ∈ GT := GT_m (ck3 (m8 (m8 (m8 (m8 (m8 (m8 (m8 (List.Mem.tail _ (List.Mem.tail _ (List.Mem.tail _ (List.Mem.tail _ (List.Mem.head _))))))))))))) rfl
set_option maxRecDepth 4000 in
theorem tw541 : (Jvm.Cond.code ({ cls := "OneBack$Reader", name := "isWord", desc := "(Ljava/lang/String;)Z" } : Jvm.MethodName) prog_5_method_11_code (3 : Nat) (Option.some Jvm.ClassFile.FieldType.boolean)) ∈ GT := GT_m (ck3 (m8 (m8 (m8 (m8 (m8 (m8 (m8 (List.Mem.tail _ (List.Mem.tail _ (List.Mem.tail _ (List.Mem.tail _ (List.Mem.tail _ (List.Mem.head _)))))))))))))) rfl
set_option maxRecDepth 4000 in
theorem tw542 : (Jvm.Cond.methodLink "OneBack$Reader" (190 : Nat) ({ cls := "java/lang/String", name := "length", desc := "()I" } : Jvm.MethodName)) ∈ GT := GT_m (ck3 (m8 (m8 (m8 (m8 (m8 (m8 (m8 (List.Mem.tail _ (List.Mem.tail _ (List.Mem.tail _ (List.Mem.tail _ (List.Mem.tail _ (List.Mem.tail _ (List.Mem.head _))))))))))))))) rfl
set_option maxRecDepth 4000 in
theorem tw543 : (Jvm.Cond.instanceMethod ({ cls := "java/lang/String", name := "length", desc := "()I" } : Jvm.MethodName)) ∈ GT := GT_m (ck3 (m8 (m8 (m8 (m8 (m8 (m8 (m8 (List.Mem.tail _ (List.Mem.tail _ (List.Mem.tail _ (List.Mem.tail _ (List.Mem.tail _ (List.Mem.tail _ (List.Mem.tail _ (List.Mem.head _)))))))))))))))) rfl
set_option maxRecDepth 4000 in
theorem tw544 : (Jvm.Cond.selects "java/lang/String" ({ cls := "java/lang/String", name := "length", desc := "()I" } : Jvm.MethodName) ({ cls := "java/lang/String", name := "length", desc := "()I" } : Jvm.MethodName)) ∈ GT := GT_m (ck3 (m8 (m8 (m8 (m8 (m8 (m8 (m8 (m8 (List.Mem.head _)))))))))) rfl
set_option maxRecDepth 4000 in
theorem tw545 : (Jvm.Cond.code ({ cls := "java/lang/String", name := "length", desc := "()I" } : Jvm.MethodName) prog_16_method_54_code (1 : Nat) (Option.some Jvm.ClassFile.FieldType.int)) ∈ GT := GT_m (ck3 (m8 (m8 (m8 (m8 (m8 (m8 (m8 (m8 (List.Mem.tail _ (List.Mem.head _))))))))))) rfl
set_option maxRecDepth 4000 in
theorem tw546 : (Jvm.Cond.methodLink "java/lang/String" (335 : Nat) ({ cls := "java/lang/String", name := "coder", desc := "()B" } : Jvm.MethodName)) ∈ GT := GT_m (ck3 (m8 (m8 (m8 (m8 (m8 (m8 (m8 (m8 (List.Mem.tail _ (List.Mem.tail _ (List.Mem.head _)))))))))))) rfl
set_option maxRecDepth 4000 in
theorem tw547 : (Jvm.Cond.instanceMethod ({ cls := "java/lang/String", name := "coder", desc := "()B" } : Jvm.MethodName)) ∈ GT := GT_m (ck3 (m8 (m8 (m8 (m8 (m8 (m8 (m8 (m8 (List.Mem.tail _ (List.Mem.tail _ (List.Mem.tail _ (List.Mem.head _))))))))))))) rfl
set_option maxRecDepth 4000 in
theorem tw548 : (Jvm.Cond.selects "java/lang/String" ({ cls := "java/lang/String", name := "coder", desc := "()B" } : Jvm.MethodName) ({ cls := "java/lang/String", name := "coder", desc := "()B" } : Jvm.MethodName)) ∈ GT := GT_m (ck3 (m8 (m8 (m8 (m8 (m8 (m8 (m8 (m8 (List.Mem.tail _ (List.Mem.tail _ (List.Mem.tail _ (List.Mem.tail _ (List.Mem.head _)))))))))))))) rfl
set_option maxRecDepth 4000 in
theorem tw549 : (Jvm.Cond.code ({ cls := "java/lang/String", name := "coder", desc := "()B" } : Jvm.MethodName) prog_16_method_152_code (1 : Nat) (Option.some Jvm.ClassFile.FieldType.byte)) ∈ GT := GT_m (ck3 (m8 (m8 (m8 (m8 (m8 (m8 (m8 (m8 (List.Mem.tail _ (List.Mem.tail _ (List.Mem.tail _ (List.Mem.tail _ (List.Mem.tail _ (List.Mem.head _))))))))))))))) rfl
set_option maxRecDepth 4000 in
theorem tw550 : (Jvm.Cond.fieldLink "java/lang/String" (38 : Nat) "java/lang/String" "COMPACT_STRINGS" "Z") ∈ GT := GT_m (ck3 (m8 (m8 (m8 (m8 (m8 (m8 (m8 (m8 (List.Mem.tail _ (List.Mem.tail _ (List.Mem.tail _ (List.Mem.tail _ (List.Mem.tail _ (List.Mem.tail _ (List.Mem.head _)))))))))))))))) rfl
set_option maxRecDepth 4000 in
theorem tw552 : (Jvm.Cond.methodLink "OneBack$Reader" (198 : Nat) ({ cls := "java/lang/String", name := "charAt", desc := "(I)C" } : Jvm.MethodName)) ∈ GT := GT_m (ck3 (m8 (m8 (m8 (m8 (m8 (m8 (m8 (m8 (m8 (List.Mem.head _))))))))))) rfl
set_option maxRecDepth 4000 in
theorem tw553 : (Jvm.Cond.instanceMethod ({ cls := "java/lang/String", name := "charAt", desc := "(I)C" } : Jvm.MethodName)) ∈ GT := GT_m (ck3 (m8 (m8 (m8 (m8 (m8 (m8 (m8 (m8 (m8 (List.Mem.tail _ (List.Mem.head _)))))))))))) rfl
set_option maxRecDepth 4000 in
theorem tw554 : (Jvm.Cond.selects "java/lang/String" ({ cls := "java/lang/String", name := "charAt", desc := "(I)C" } : Jvm.MethodName) ({ cls := "java/lang/String", name := "charAt", desc := "(I)C" } : Jvm.MethodName)) ∈ GT := GT_m (ck3 (m8 (m8 (m8 (m8 (m8 (m8 (m8 (m8 (m8 (List.Mem.tail _ (List.Mem.tail _ (List.Mem.head _))))))))))))) rfl
set_option maxRecDepth 4000 in
theorem tw555 : (Jvm.Cond.code ({ cls := "java/lang/String", name := "charAt", desc := "(I)C" } : Jvm.MethodName) prog_16_method_56_code (2 : Nat) (Option.some Jvm.ClassFile.FieldType.char)) ∈ GT := GT_m (ck3 (m8 (m8 (m8 (m8 (m8 (m8 (m8 (m8 (m8 (List.Mem.tail _ (List.Mem.tail _ (List.Mem.tail _ (List.Mem.head _)))))))))))))) rfl
set_option maxRecDepth 4000 in
theorem tw556 : (Jvm.Cond.methodLink "java/lang/String" (492 : Nat) ({ cls := "java/lang/String", name := "isLatin1", desc := "()Z" } : Jvm.MethodName)) ∈ GT := GT_m (ck3 (m8 (m8 (m8 (m8 (m8 (m8 (m8 (m8 (m8 (List.Mem.tail _ (List.Mem.tail _ (List.Mem.tail _ (List.Mem.tail _ (List.Mem.head _))))))))))))))) rfl
set_option maxRecDepth 4000 in
theorem tw557 : (Jvm.Cond.instanceMethod ({ cls := "java/lang/String", name := "isLatin1", desc := "()Z" } : Jvm.MethodName)) ∈ GT := GT_m (ck3 (m8 (m8 (m8 (m8 (m8 (m8 (m8 (m8 (m8 (List.Mem.tail _ (List.Mem.tail _ (List.Mem.tail _ (List.Mem.tail _ (List.Mem.tail _ (List.Mem.head _)))))))))))))))) rfl
set_option maxRecDepth 4000 in
theorem tw558 : (Jvm.Cond.selects "java/lang/String" ({ cls := "java/lang/String", name := "isLatin1", desc := "()Z" } : Jvm.MethodName) ({ cls := "java/lang/String", name := "isLatin1", desc := "()Z" } : Jvm.MethodName)) ∈ GT := GT_m (ck3 (m8 (m8 (m8 (m8 (m8 (m8 (m8 (m8 (m8 (List.Mem.tail _ (List.Mem.tail _ (List.Mem.tail _ (List.Mem.tail _ (List.Mem.tail _ (List.Mem.tail _ (List.Mem.head _))))))))))))))))) rfl
set_option maxRecDepth 4000 in
theorem tw559 : (Jvm.Cond.code ({ cls := "java/lang/String", name := "isLatin1", desc := "()Z" } : Jvm.MethodName) prog_16_method_154_code (1 : Nat) (Option.some Jvm.ClassFile.FieldType.boolean)) ∈ GT := GT_m (ck3 (m8 (m8 (m8 (m8 (m8 (m8 (m8 (m8 (m8 (List.Mem.tail _ (List.Mem.tail _ (List.Mem.tail _ (List.Mem.tail _ (List.Mem.tail _ (List.Mem.tail _ (List.Mem.tail _ (List.Mem.head _)))))))))))))))))) rfl
set_option maxRecDepth 4000 in
theorem tw560 : (Jvm.Cond.methodLink "java/lang/String" (495 : Nat) ({ cls := "java/lang/StringLatin1", name := "charAt", desc := "([BI)C" } : Jvm.MethodName)) ∈ GT := GT_m (ck3 (m8 (m8 (m8 (m8 (m8 (m8 (m8 (m8 (m8 (m8 (List.Mem.head _)))))))))))) rfl
set_option maxRecDepth 4000 in
theorem tw561 : (Jvm.Cond.static ({ cls := "java/lang/StringLatin1", name := "charAt", desc := "([BI)C" } : Jvm.MethodName)) ∈ GT := GT_m (ck3 (m8 (m8 (m8 (m8 (m8 (m8 (m8 (m8 (m8 (m8 (List.Mem.tail _ (List.Mem.head _))))))))))))) rfl
set_option maxRecDepth 4000 in
theorem tw562 : (Jvm.Cond.code ({ cls := "java/lang/StringLatin1", name := "charAt", desc := "([BI)C" } : Jvm.MethodName) prog_17_method_2_code (2 : Nat) (Option.some Jvm.ClassFile.FieldType.char)) ∈ GT := GT_m (ck3 (m8 (m8 (m8 (m8 (m8 (m8 (m8 (m8 (m8 (m8 (List.Mem.tail _ (List.Mem.tail _ (List.Mem.head _)))))))))))))) rfl
set_option maxRecDepth 4000 in
theorem tw563 : (Jvm.Cond.methodLink "java/lang/StringLatin1" (9 : Nat) ({ cls := "java/lang/String", name := "checkIndex", desc := "(II)V" } : Jvm.MethodName)) ∈ GT := GT_m (ck3 (m8 (m8 (m8 (m8 (m8 (m8 (m8 (m8 (m8 (m8 (List.Mem.tail _ (List.Mem.tail _ (List.Mem.tail _ (List.Mem.head _))))))))))))))) rfl
set_option maxRecDepth 4000 in
theorem tw564 : (Jvm.Cond.static ({ cls := "java/lang/String", name := "checkIndex", desc := "(II)V" } : Jvm.MethodName)) ∈ GT := GT_m (ck3 (m8 (m8 (m8 (m8 (m8 (m8 (m8 (m8 (m8 (m8 (List.Mem.tail _ (List.Mem.tail _ (List.Mem.tail _ (List.Mem.tail _ (List.Mem.head _)))))))))))))))) rfl
set_option maxRecDepth 4000 in
theorem tw565 : (Jvm.Cond.code ({ cls := "java/lang/String", name := "checkIndex", desc := "(II)V" } : Jvm.MethodName) prog_16_method_155_code (2 : Nat) (Option.none : Option Jvm.ClassFile.FieldType)) ∈ GT := GT_m (ck3 (m8 (m8 (m8 (m8 (m8 (m8 (m8 (m8 (m8 (m8 (List.Mem.tail _ (List.Mem.tail _ (List.Mem.tail _ (List.Mem.tail _ (List.Mem.tail _ (List.Mem.head _))))))))))))))))) rfl
set_option maxRecDepth 4000 in
theorem tw566 : (Jvm.Cond.fieldLink "java/lang/String" (1053 : Nat) "jdk/internal/util/Preconditions" "SIOOBE_FORMATTER" "Ljava/util/function/BiFunction;") ∈ GT := GT_m (ck3 (m8 (m8 (m8 (m8 (m8 (m8 (m8 (m8 (m8 (m8 (List.Mem.tail _ (List.Mem.tail _ (List.Mem.tail _ (List.Mem.tail _ (List.Mem.tail _ (List.Mem.tail _ (List.Mem.head _)))))))))))))))))) rfl
set_option maxRecDepth 4000 in
theorem tw568 : (Jvm.Cond.methodLink "java/lang/String" (1059 : Nat) ({ cls := "jdk/internal/util/Preconditions", name := "checkIndex", desc := "(IILjava/util/function/BiFunction;)I" } : Jvm.MethodName)) ∈ GT := GT_m (ck3 (m8 (m8 (m8 (m8 (m8 (m8 (m8 (m8 (m8 (m8 (m8 (List.Mem.head _))))))))))))) rfl
set_option maxRecDepth 4000 in
theorem tw569 : (Jvm.Cond.static ({ cls := "jdk/internal/util/Preconditions", name := "checkIndex", desc := "(IILjava/util/function/BiFunction;)I" } : Jvm.MethodName)) ∈ GT := GT_m (ck3 (m8 (m8 (m8 (m8 (m8 (m8 (m8 (m8 (m8 (m8 (m8 (List.Mem.tail _ (List.Mem.head _)))))))))))))) rfl
set_option maxRecDepth 4000 in
theorem tw570 : (Jvm.Cond.code ({ cls := "jdk/internal/util/Preconditions", name := "checkIndex", desc := "(IILjava/util/function/BiFunction;)I" } : Jvm.MethodName) prog_20_method_11_code (3 : Nat) (Option.some Jvm.ClassFile.FieldType.int)) ∈ GT := GT_m (ck3 (m8 (m8 (m8 (m8 (m8 (m8 (m8 (m8 (m8 (m8 (m8 (List.Mem.tail _ (List.Mem.tail _ (List.Mem.head _))))))))))))))) rfl
set_option maxRecDepth 4000 in
theorem tw590 : (Jvm.Cond.methodLink "OneBack$Reader" (116 : Nat) ({ cls := "OneBack$Reader", name := "breakOff", desc := "()V" } : Jvm.MethodName)) ∈ GT := GT_m (ck3 (m8 (m8 (m8 (m8 (m8 (m8 (m8 (m8 (m8 (m8 (m8 (m8 (m8 (List.Mem.tail _ (List.Mem.tail _ (List.Mem.tail _ (List.Mem.tail _ (List.Mem.tail _ (List.Mem.tail _ (List.Mem.head _))))))))))))))))))))) rfl
set_option maxRecDepth 4000 in
theorem tw592 : (Jvm.Cond.instanceMethod ({ cls := "OneBack$Reader", name := "breakOff", desc := "()V" } : Jvm.MethodName)) ∈ GT := GT_m (ck3 (m8 (m8 (m8 (m8 (m8 (m8 (m8 (m8 (m8 (m8 (m8 (m8 (m8 (m8 (List.Mem.head _)))))))))))))))) rfl
set_option maxRecDepth 4000 in
theorem tw593 : (Jvm.Cond.code ({ cls := "OneBack$Reader", name := "breakOff", desc := "()V" } : Jvm.MethodName) prog_5_method_5_code (1 : Nat) (Option.none : Option Jvm.ClassFile.FieldType)) ∈ GT := GT_m (ck3 (m8 (m8 (m8 (m8 (m8 (m8 (m8 (m8 (m8 (m8 (m8 (m8 (m8 (m8 (List.Mem.tail _ (List.Mem.head _))))))))))))))))) rfl
set_option maxRecDepth 4000 in
theorem tw594 : (Jvm.Cond.methodLink "OneBack$Reader" (119 : Nat) ({ cls := "OneBack$Reader", name := "isFull", desc := "(I)Z" } : Jvm.MethodName)) ∈ GT := GT_m (ck3 (m8 (m8 (m8 (m8 (m8 (m8 (m8 (m8 (m8 (m8 (m8 (m8 (m8 (m8 (List.Mem.tail _ (List.Mem.tail _ (List.Mem.head _)))))))))))))))))) rfl
set_option maxRecDepth 4000 in
theorem tw596 : (Jvm.Cond.instanceMethod ({ cls := "OneBack$Reader", name := "isFull", desc := "(I)Z" } : Jvm.MethodName)) ∈ GT := GT_m (ck3 (m8 (m8 (m8 (m8 (m8 (m8 (m8 (m8 (m8 (m8 (m8 (m8 (m8 (m8 (List.Mem.tail _ (List.Mem.tail _ (List.Mem.tail _ (List.Mem.tail _ (List.Mem.head _)))))))))))))))))))) rfl
set_option maxRecDepth 4000 in
theorem tw597 : (Jvm.Cond.code ({ cls := "OneBack$Reader", name := "isFull", desc := "(I)Z" } : Jvm.MethodName) prog_5_method_8_code (2 : Nat) (Option.some Jvm.ClassFile.FieldType.boolean)) ∈ GT := GT_m (ck3 (m8 (m8 (m8 (m8 (m8 (m8 (m8 (m8 (m8 (m8 (m8 (m8 (m8 (m8 (List.Mem.tail _ (List.Mem.tail _ (List.Mem.tail _ (List.Mem.tail _ (List.Mem.tail _ (List.Mem.head _))))))))))))))))))))) rfl
set_option maxRecDepth 4000 in
theorem tw598 : (Jvm.Cond.methodLink "OneBack$Reader" (102 : Nat) ({ cls := "OneBack$Reader", name := "note", desc := "(II)V" } : Jvm.MethodName)) ∈ GT := GT_m (ck3 (m8 (m8 (m8 (m8 (m8 (m8 (m8 (m8 (m8 (m8 (m8 (m8 (m8 (m8 (List.Mem.tail _ (List.Mem.tail _ (List.Mem.tail _ (List.Mem.tail _ (List.Mem.tail _ (List.Mem.tail _ (List.Mem.head _)))))))))))))))))))))) rfl
set_option maxRecDepth 4000 in
theorem tw600 : (Jvm.Cond.instanceMethod ({ cls := "OneBack$Reader", name := "note", desc := "(II)V" } : Jvm.MethodName)) ∈ GT := GT_m (ck3 (m8 (m8 (m8 (m8 (m8 (m8 (m8 (m8 (m8 (m8 (m8 (m8 (m8 (m8 (m8 (List.Mem.head _))))))))))))))))) rfl
set_option maxRecDepth 4000 in
theorem tw601 : (Jvm.Cond.code ({ cls := "OneBack$Reader", name := "note", desc := "(II)V" } : Jvm.MethodName) prog_5_method_4_code (3 : Nat) (Option.none : Option Jvm.ClassFile.FieldType)) ∈ GT := GT_m (ck3 (m8 (m8 (m8 (m8 (m8 (m8 (m8 (m8 (m8 (m8 (m8 (m8 (m8 (m8 (m8 (List.Mem.tail _ (List.Mem.head _)))))))))))))))))) rfl
set_option maxRecDepth 4000 in
theorem tw602 : (Jvm.Cond.fieldLink "OneBack$Reader" (123 : Nat) "OneBack$Reader" "NUMBERS" "[I") ∈ GT := GT_m (ck3 (m8 (m8 (m8 (m8 (m8 (m8 (m8 (m8 (m8 (m8 (m8 (m8 (m8 (m8 (m8 (List.Mem.tail _ (List.Mem.tail _ (List.Mem.head _))))))))))))))))))) rfl
set_option maxRecDepth 4000 in
theorem tw604 : (Jvm.Cond.methodLink "OneBack$Reader" (126 : Nat) ({ cls := "OneBack$Reader", name := "readNumber", desc := "(II)V" } : Jvm.MethodName)) ∈ GT := GT_m (ck3 (m8 (m8 (m8 (m8 (m8 (m8 (m8 (m8 (m8 (m8 (m8 (m8 (m8 (m8 (m8 (List.Mem.tail _ (List.Mem.tail _ (List.Mem.tail _ (List.Mem.tail _ (List.Mem.head _))))))))))))))))))))) rfl
set_option maxRecDepth 4000 in
theorem tw606 : (Jvm.Cond.instanceMethod ({ cls := "OneBack$Reader", name := "readNumber", desc := "(II)V" } : Jvm.MethodName)) ∈ GT := GT_m (ck3 (m8 (m8 (m8 (m8 (m8 (m8 (m8 (m8 (m8 (m8 (m8 (m8 (m8 (m8 (m8 (List.Mem.tail _ (List.Mem.tail _ (List.Mem.tail _ (List.Mem.tail _ (List.Mem.tail _ (List.Mem.tail _ (List.Mem.head _))))))))))))))))))))))) rfl
set_option maxRecDepth 4000 in
theorem tw607 : (Jvm.Cond.code ({ cls := "OneBack$Reader", name := "readNumber", desc := "(II)V" } : Jvm.MethodName) prog_5_method_7_code (5 : Nat) (Option.none : Option Jvm.ClassFile.FieldType)) ∈ GT := GT_m (ck3 (m8 (m8 (m8 (m8 (m8 (m8 (m8 (m8 (m8 (m8 (m8 (m8 (m8 (m8 (m8 (List.Mem.tail _ (List.Mem.tail _ (List.Mem.tail _ (List.Mem.tail _ (List.Mem.tail _ (List.Mem.tail _ (List.Mem.tail _ (List.Mem.head _)))))))))))))))))))))))) rfl
set_option maxRecDepth 4000 in
theorem tw608 : (Jvm.Cond.fieldLink "OneBack$Reader" (132 : Nat) "OneBack$Reader" "LEAST" "[I") ∈ GT := GT_m (ck3 (m8 (m8 (m8 (m8 (m8 (m8 (m8 (m8 (m8 (m8 (m8 (m8 (m8 (m8 (m8 (m8 (List.Mem.head _)))))))))))))))))) rfl
set_option maxRecDepth 4000 in
theorem tw610 : (Jvm.Cond.fieldLink "OneBack$Reader" (135 : Nat) "OneBack$Reader" "MOST" "[I") ∈ GT := GT_m (ck3 (m8 (m8 (m8 (m8 (m8 (m8 (m8 (m8 (m8 (m8 (m8 (m8 (m8 (m8 (m8 (m8 (List.Mem.tail _ (List.Mem.tail _ (List.Mem.head _)))))))))))))))))))) rfl
set_option maxRecDepth 4000 in
theorem tw612 : (Jvm.Cond.methodLink "OneBack$Reader" (129 : Nat) ({ cls := "OneBack$Reader", name := "keepLine", desc := "(I)V" } : Jvm.MethodName)) ∈ GT := GT_m (ck3 (m8 (m8 (m8 (m8 (m8 (m8 (m8 (m8 (m8 (m8 (m8 (m8 (m8 (m8 (m8 (m8 (List.Mem.tail _ (List.Mem.tail _ (List.Mem.tail _ (List.Mem.tail _ (List.Mem.head _)))))))))))))))))))))) rfl
set_option maxRecDepth 4000 in
theorem tw614 : (Jvm.Cond.instanceMethod ({ cls := "OneBack$Reader", name := "keepLine", desc := "(I)V" } : Jvm.MethodName)) ∈ GT := GT_m (ck3 (m8 (m8 (m8 (m8 (m8 (m8 (m8 (m8 (m8 (m8 (m8 (m8 (m8 (m8 (m8 (m8 (List.Mem.tail _ (List.Mem.tail _ (List.Mem.tail _ (List.Mem.tail _ (List.Mem.tail _ (List.Mem.tail _ (List.Mem.head _)))))))))))))))))))))))) rfl
set_option maxRecDepth 4000 in
theorem tw615 : (Jvm.Cond.code ({ cls := "OneBack$Reader", name := "keepLine", desc := "(I)V" } : Jvm.MethodName) prog_5_method_12_code (2 : Nat) (Option.none : Option Jvm.ClassFile.FieldType)) ∈ GT := GT_m (ck3 (m8 (m8 (m8 (m8 (m8 (m8 (m8 (m8 (m8 (m8 (m8 (m8 (m8 (m8 (m8 (m8 (List.Mem.tail _ (List.Mem.tail _ (List.Mem.tail _ (List.Mem.tail _ (List.Mem.tail _ (List.Mem.tail _ (List.Mem.tail _ (List.Mem.head _))))))))))))))))))))))))) rfl
set_option maxRecDepth 4000 in
theorem tw616 : (Jvm.Cond.methodLink "OneBack$Reader" (202 : Nat) ({ cls := "OneBack$Reader", name := "keepTown", desc := "(I)V" } : Jvm.MethodName)) ∈ GT := GT_m (ck3 (m8 (m8 (m8 (m8 (m8 (m8 (m8 (m8 (m8 (m8 (m8 (m8 (m8 (m8 (m8 (m8 (m8 (List.Mem.head _))))))))))))))))))) rfl
set_option maxRecDepth 4000 in
theorem tw618 : (Jvm.Cond.instanceMethod ({ cls := "OneBack$Reader", name := "keepTown", desc := "(I)V" } : Jvm.MethodName)) ∈ GT := GT_m (ck3 (m8 (m8 (m8 (m8 (m8 (m8 (m8 (m8 (m8 (m8 (m8 (m8 (m8 (m8 (m8 (m8 (m8 (List.Mem.tail _ (List.Mem.tail _ (List.Mem.head _))))))))))))))))))))) rfl
set_option maxRecDepth 4000 in
theorem tw619 : (Jvm.Cond.code ({ cls := "OneBack$Reader", name := "keepTown", desc := "(I)V" } : Jvm.MethodName) prog_5_method_13_code (4 : Nat) (Option.none : Option Jvm.ClassFile.FieldType)) ∈ GT := GT_m (ck3 (m8 (m8 (m8 (m8 (m8 (m8 (m8 (m8 (m8 (m8 (m8 (m8 (m8 (m8 (m8 (m8 (m8 (List.Mem.tail _ (List.Mem.tail _ (List.Mem.tail _ (List.Mem.head _)))))))))))))))))))))) rfl
set_option maxRecDepth 4000 in
theorem tw621 : (Jvm.Cond.static ({ cls := "OneBack", name := "cell", desc := "(II)I" } : Jvm.MethodName)) ∈ GT := GT_m (ck3 (m8 (m8 (m8 (m8 (m8 (m8 (m8 (m8 (m8 (m8 (m8 (m8 (m8 (m8 (m8 (m8 (m8 (List.Mem.tail _ (List.Mem.tail _ (List.Mem.tail _ (List.Mem.tail _ (List.Mem.tail _ (List.Mem.head _)))))))))))))))))))))))) rfl
set_option maxRecDepth 4000 in
theorem tw622 : (Jvm.Cond.code ({ cls := "OneBack", name := "cell", desc := "(II)I" } : Jvm.MethodName) prog_1_method_37_code (2 : Nat) (Option.some Jvm.ClassFile.FieldType.int)) ∈ GT := GT_m (ck3 (m8 (m8 (m8 (m8 (m8 (m8 (m8 (m8 (m8 (m8 (m8 (m8 (m8 (m8 (m8 (m8 (m8 (List.Mem.tail _ (List.Mem.tail _ (List.Mem.tail _ (List.Mem.tail _ (List.Mem.tail _ (List.Mem.tail _ (List.Mem.head _))))))))))))))))))))))))) rfl
set_option maxRecDepth 4000 in
theorem tw623 : (Jvm.Cond.methodLink "OneBack$Reader" (227 : Nat) ({ cls := "java/lang/Math", name := "max", desc := "(II)I" } : Jvm.MethodName)) ∈ GT := GT_m (ck3 (m8 (m8 (m8 (m8 (m8 (m8 (m8 (m8 (m8 (m8 (m8 (m8 (m8 (m8 (m8 (m8 (m8 (List.Mem.tail _ (List.Mem.tail _ (List.Mem.tail _ (List.Mem.tail _ (List.Mem.tail _ (List.Mem.tail _ (List.Mem.tail _ (List.Mem.head _)))))))))))))))))))))))))) rfl
set_option maxRecDepth 4000 in
theorem tw624 : (Jvm.Cond.static ({ cls := "java/lang/Math", name := "max", desc := "(II)I" } : Jvm.MethodName)) ∈ GT := GT_m (ck3 (m8 (m8 (m8 (m8 (m8 (m8 (m8 (m8 (m8 (m8 (m8 (m8 (m8 (m8 (m8 (m8 (m8 (m8 (List.Mem.head _)))))))))))))))))))) rfl
set_option maxRecDepth 4000 in
theorem tw625 : (Jvm.Cond.code ({ cls := "java/lang/Math", name := "max", desc := "(II)I" } : Jvm.MethodName) prog_15_method_65_code (2 : Nat) (Option.some Jvm.ClassFile.FieldType.int)) ∈ GT := GT_m (ck3 (m8 (m8 (m8 (m8 (m8 (m8 (m8 (m8 (m8 (m8 (m8 (m8 (m8 (m8 (m8 (m8 (m8 (m8 (List.Mem.tail _ (List.Mem.head _))))))))))))))))))))) rfl
set_option maxRecDepth 4000 in
theorem tw626 : (Jvm.Cond.methodLink "OneBack$Reader" (237 : Nat) ({ cls := "OneBack$Town", name := "addThief", desc := "(I)V" } : Jvm.MethodName)) ∈ GT := GT_m (ck3 (m8 (m8 (m8 (m8 (m8 (m8 (m8 (m8 (m8 (m8 (m8 (m8 (m8 (m8 (m8 (m8 (m8 (m8 (List.Mem.tail _ (List.Mem.tail _ (List.Mem.head _)))))))))))))))))))))) rfl
set_option maxRecDepth 4000 in
theorem tw627 : (Jvm.Cond.instanceMethod ({ cls := "OneBack$Town", name := "addThief", desc := "(I)V" } : Jvm.MethodName)) ∈ GT := GT_m (ck3 (m8 (m8 (m8 (m8 (m8 (m8 (m8 (m8 (m8 (m8 (m8 (m8 (m8 (m8 (m8 (m8 (m8 (m8 (List.Mem.tail _ (List.Mem.tail _ (List.Mem.tail _ (List.Mem.head _))))))))))))))))))))))) rfl
set_option maxRecDepth 4000 in
theorem tw628 : (Jvm.Cond.selects "OneBack$Town" ({ cls := "OneBack$Town", name := "addThief", desc := "(I)V" } : Jvm.MethodName) ({ cls := "OneBack$Town", name := "addThief", desc := "(I)V" } : Jvm.MethodName)) ∈ GT := GT_m (ck3 (m8 (m8 (m8 (m8 (m8 (m8 (m8 (m8 (m8 (m8 (m8 (m8 (m8 (m8 (m8 (m8 (m8 (m8 (List.Mem.tail _ (List.Mem.tail _ (List.Mem.tail _ (List.Mem.tail _ (List.Mem.head _)))))))))))))))))))))))) rfl
set_option maxRecDepth 4000 in
theorem tw629 : (Jvm.Cond.code ({ cls := "OneBack$Town", name := "addThief", desc := "(I)V" } : Jvm.MethodName) prog_9_method_6_code (2 : Nat) (Option.none : Option Jvm.ClassFile.FieldType)) ∈ GT := GT_m (ck3 (m8 (m8 (m8 (m8 (m8 (m8 (m8 (m8 (m8 (m8 (m8 (m8 (m8 (m8 (m8 (m8 (m8 (m8 (List.Mem.tail _ (List.Mem.tail _ (List.Mem.tail _ (List.Mem.tail _ (List.Mem.tail _ (List.Mem.head _))))))))))))))))))))))))) rfl
set_option maxRecDepth 4000 in
theorem tw630 : (Jvm.Cond.methodLink "OneBack$Reader" (205 : Nat) ({ cls := "OneBack$Reader", name := "keepLaw", desc := "(I)V" } : Jvm.MethodName)) ∈ GT := GT_m (ck3 (m8 (m8 (m8 (m8 (m8 (m8 (m8 (m8 (m8 (m8 (m8 (m8 (m8 (m8 (m8 (m8 (m8 (m8 (List.Mem.tail _ (List.Mem.tail _ (List.Mem.tail _ (List.Mem.tail _ (List.Mem.tail _ (List.Mem.tail _ (List.Mem.head _)))))))))))))))))))))))))) rfl
set_option maxRecDepth 4000 in
theorem tw632 : (Jvm.Cond.instanceMethod ({ cls := "OneBack$Reader", name := "keepLaw", desc := "(I)V" } : Jvm.MethodName)) ∈ GT := GT_m (ck3 (m8 (m8 (m8 (m8 (m8 (m8 (m8 (m8 (m8 (m8 (m8 (m8 (m8 (m8 (m8 (m8 (m8 (m8 (m8 (List.Mem.head _))))))))))))))))))))) rfl
set_option maxRecDepth 4000 in
theorem tw633 : (Jvm.Cond.code ({ cls := "OneBack$Reader", name := "keepLaw", desc := "(I)V" } : Jvm.MethodName) prog_5_method_14_code (2 : Nat) (Option.none : Option Jvm.ClassFile.FieldType)) ∈ GT := GT_m (ck3 (m8 (m8 (m8 (m8 (m8 (m8 (m8 (m8 (m8 (m8 (m8 (m8 (m8 (m8 (m8 (m8 (m8 (m8 (m8 (List.Mem.tail _ (List.Mem.head _)))))))))))))))))))))) rfl
set_option maxRecDepth 4000 in
theorem tw634 : (Jvm.Cond.methodLink "OneBack$Reader" (208 : Nat) ({ cls := "OneBack$Nights", name := "add", desc := "(IIII)V" } : Jvm.MethodName)) ∈ GT := GT_m (ck3 (m8 (m8 (m8 (m8 (m8 (m8 (m8 (m8 (m8 (m8 (m8 (m8 (m8 (m8 (m8 (m8 (m8 (m8 (m8 (List.Mem.tail _ (List.Mem.tail _ (List.Mem.head _))))))))))))))))))))))) rfl
set_option maxRecDepth 4000 in
theorem tw635 : (Jvm.Cond.instanceMethod ({ cls := "OneBack$Nights", name := "add", desc := "(IIII)V" } : Jvm.MethodName)) ∈ GT := GT_m (ck3 (m8 (m8 (m8 (m8 (m8 (m8 (m8 (m8 (m8 (m8 (m8 (m8 (m8 (m8 (m8 (m8 (m8 (m8 (m8 (List.Mem.tail _ (List.Mem.tail _ (List.Mem.tail _ (List.Mem.head _)))))))))))))))))))))))) rfl
set_option maxRecDepth 4000 in
theorem tw636 : (Jvm.Cond.selects "OneBack$Nights" ({ cls := "OneBack$Nights", name := "add", desc := "(IIII)V" } : Jvm.MethodName) ({ cls := "OneBack$Nights", name := "add", desc := "(IIII)V" } : Jvm.MethodName)) ∈ GT := GT_m (ck3 (m8 (m8 (m8 (m8 (m8 (m8 (m8 (m8 (m8 (m8 (m8 (m8 (m8 (m8 (m8 (m8 (m8 (m8 (m8 (List.Mem.tail _ (List.Mem.tail _ (List.Mem.tail _ (List.Mem.tail _ (List.Mem.head _))))))))))))))))))))))))) rfl
set_option maxRecDepth 4000 in
theorem tw637 : (Jvm.Cond.code ({ cls := "OneBack$Nights", name := "add", desc := "(IIII)V" } : Jvm.MethodName) prog_3_method_3_code (5 : Nat) (Option.none : Option Jvm.ClassFile.FieldType)) ∈ GT := GT_m (ck3 (m8 (m8 (m8 (m8 (m8 (m8 (m8 (m8 (m8 (m8 (m8 (m8 (m8 (m8 (m8 (m8 (m8 (m8 (m8 (List.Mem.tail _ (List.Mem.tail _ (List.Mem.tail _ (List.Mem.tail _ (List.Mem.tail _ (List.Mem.head _)))))))))))))))))))))))))) rfl
set_option maxRecDepth 4000 in
theorem tw638 : (Jvm.Cond.methodLink "OneBack$Reader" (212 : Nat) ({ cls := "OneBack$Sight", name := "add", desc := "(II)V" } : Jvm.MethodName)) ∈ GT := GT_m (ck3 (m8 (m8 (m8 (m8 (m8 (m8 (m8 (m8 (m8 (m8 (m8 (m8 (m8 (m8 (m8 (m8 (m8 (m8 (m8 (List.Mem.tail _ (List.Mem.tail _ (List.Mem.tail _ (List.Mem.tail _ (List.Mem.tail _ (List.Mem.tail _ (List.Mem.head _))))))))))))))))))))))))))) rfl
set_option maxRecDepth 4000 in
theorem tw639 : (Jvm.Cond.instanceMethod ({ cls := "OneBack$Sight", name := "add", desc := "(II)V" } : Jvm.MethodName)) ∈ GT := GT_m (ck3 (m8 (m8 (m8 (m8 (m8 (m8 (m8 (m8 (m8 (m8 (m8 (m8 (m8 (m8 (m8 (m8 (m8 (m8 (m8 (List.Mem.tail _ (List.Mem.tail _ (List.Mem.tail _ (List.Mem.tail _ (List.Mem.tail _ (List.Mem.tail _ (List.Mem.tail _ (List.Mem.head _)))))))))))))))))))))))))))) rfl
set_option maxRecDepth 4000 in
theorem tw640 : (Jvm.Cond.selects "OneBack$Sight" ({ cls := "OneBack$Sight", name := "add", desc := "(II)V" } : Jvm.MethodName) ({ cls := "OneBack$Sight", name := "add", desc := "(II)V" } : Jvm.MethodName)) ∈ GT := GT_m (ck3 (m8 (m8 (m8 (m8 (m8 (m8 (m8 (m8 (m8 (m8 (m8 (m8 (m8 (m8 (m8 (m8 (m8 (m8 (m8 (m8 (List.Mem.head _)))))))))))))))))))))) rfl
set_option maxRecDepth 4000 in
theorem tw641 : (Jvm.Cond.code ({ cls := "OneBack$Sight", name := "add", desc := "(II)V" } : Jvm.MethodName) prog_6_method_3_code (3 : Nat) (Option.none : Option Jvm.ClassFile.FieldType)) ∈ GT := GT_m (ck3 (m8 (m8 (m8 (m8 (m8 (m8 (m8 (m8 (m8 (m8 (m8 (m8 (m8 (m8 (m8 (m8 (m8 (m8 (m8 (m8 (List.Mem.tail _ (List.Mem.head _))))))))))))))))))))))) rfl
set_option maxRecDepth 4000 in
theorem tw642 : (Jvm.Cond.methodLink "OneBack" (88 : Nat) ({ cls := "OneBack$Told", name := "keep", desc := "(LOneBack$Reader;II)V" } : Jvm.MethodName)) ∈ GT := GT_m (ck3 (m8 (m8 (m8 (m8 (m8 (m8 (m8 (m8 (m8 (m8 (m8 (m8 (m8 (m8 (m8 (m8 (m8 (m8 (m8 (m8 (List.Mem.tail _ (List.Mem.tail _ (List.Mem.head _)))))))))))))))))))))))) rfl
set_option maxRecDepth 4000 in
theorem tw643 : (Jvm.Cond.instanceMethod ({ cls := "OneBack$Told", name := "keep", desc := "(LOneBack$Reader;II)V" } : Jvm.MethodName)) ∈ GT := GT_m (ck3 (m8 (m8 (m8 (m8 (m8 (m8 (m8 (m8 (m8 (m8 (m8 (m8 (m8 (m8 (m8 (m8 (m8 (m8 (m8 (m8 (List.Mem.tail _ (List.Mem.tail _ (List.Mem.tail _ (List.Mem.head _))))))))))))))))))))))))) rfl
set_option maxRecDepth 4000 in
theorem tw644 : (Jvm.Cond.selects "OneBack$Told" ({ cls := "OneBack$Told", name := "keep", desc := "(LOneBack$Reader;II)V" } : Jvm.MethodName) ({ cls := "OneBack$Told", name := "keep", desc := "(LOneBack$Reader;II)V" } : Jvm.MethodName)) ∈ GT := GT_m (ck3 (m8 (m8 (m8 (m8 (m8 (m8 (m8 (m8 (m8 (m8 (m8 (m8 (m8 (m8 (m8 (m8 (m8 (m8 (m8 (m8 (List.Mem.tail _ (List.Mem.tail _ (List.Mem.tail _ (List.Mem.tail _ (List.Mem.head _)))))))))))))))))))))))))) rfl
set_option maxRecDepth 4000 in
theorem tw645 : (Jvm.Cond.code ({ cls := "OneBack$Told", name := "keep", desc := "(LOneBack$Reader;II)V" } : Jvm.MethodName) prog_8_method_9_code (4 : Nat) (Option.none : Option Jvm.ClassFile.FieldType)) ∈ GT := GT_m (ck3 (m8 (m8 (m8 (m8 (m8 (m8 (m8 (m8 (m8 (m8 (m8 (m8 (m8 (m8 (m8 (m8 (m8 (m8 (m8 (m8 (List.Mem.tail _ (List.Mem.tail _ (List.Mem.tail _ (List.Mem.tail _ (List.Mem.tail _ (List.Mem.head _))))))))))))))))))))))))))) rfl
set_option maxRecDepth 4000 in
theorem tw646 : (Jvm.Cond.methodLink "OneBack$Told" (67 : Nat) ({ cls := "OneBack$Town", name := "copy", desc := "(LOneBack$Town;)V" } : Jvm.MethodName)) ∈ GT := GT_m (ck3 (m8 (m8 (m8 (m8 (m8 (m8 (m8 (m8 (m8 (m8 (m8 (m8 (m8 (m8 (m8 (m8 (m8 (m8 (m8 (m8 (List.Mem.tail _ (List.Mem.tail _ (List.Mem.tail _ (List.Mem.tail _ (List.Mem.tail _ (List.Mem.tail _ (List.Mem.head _)))))))))))))))))))))))))))) rfl
set_option maxRecDepth 4000 in
theorem tw647 : (Jvm.Cond.instanceMethod ({ cls := "OneBack$Town", name := "copy", desc := "(LOneBack$Town;)V" } : Jvm.MethodName)) ∈ GT := GT_m (ck3 (m8 (m8 (m8 (m8 (m8 (m8 (m8 (m8 (m8 (m8 (m8 (m8 (m8 (m8 (m8 (m8 (m8 (m8 (m8 (m8 (List.Mem.tail _ (List.Mem.tail _ (List.Mem.tail _ (List.Mem.tail _ (List.Mem.tail _ (List.Mem.tail _ (List.Mem.tail _ (List.Mem.head _))))))))))))))))))))))))))))) rfl
set_option maxRecDepth 4000 in
theorem tw648 : (Jvm.Cond.selects "OneBack$Town" ({ cls := "OneBack$Town", name := "copy", desc := "(LOneBack$Town;)V" } : Jvm.MethodName) ({ cls := "OneBack$Town", name := "copy", desc := "(LOneBack$Town;)V" } : Jvm.MethodName)) ∈ GT := GT_m (ck3 (m8 (m8 (m8 (m8 (m8 (m8 (m8 (m8 (m8 (m8 (m8 (m8 (m8 (m8 (m8 (m8 (m8 (m8 (m8 (m8 (m8 (List.Mem.head _))))))))))))))))))))))) rfl
set_option maxRecDepth 4000 in
theorem tw649 : (Jvm.Cond.code ({ cls := "OneBack$Town", name := "copy", desc := "(LOneBack$Town;)V" } : Jvm.MethodName) prog_9_method_3_code (2 : Nat) (Option.none : Option Jvm.ClassFile.FieldType)) ∈ GT := GT_m (ck3 (m8 (m8 (m8 (m8 (m8 (m8 (m8 (m8 (m8 (m8 (m8 (m8 (m8 (m8 (m8 (m8 (m8 (m8 (m8 (m8 (m8 (List.Mem.tail _ (List.Mem.head _)))))))))))))))))))))))) rfl
set_option maxRecDepth 4000 in
theorem tw651 : (Jvm.Cond.static ({ cls := "OneBack", name := "copyRow", desc := "([I[I)V" } : Jvm.MethodName)) ∈ GT := GT_m (ck3 (m8 (m8 (m8 (m8 (m8 (m8 (m8 (m8 (m8 (m8 (m8 (m8 (m8 (m8 (m8 (m8 (m8 (m8 (m8 (m8 (m8 (List.Mem.tail _ (List.Mem.tail _ (List.Mem.tail _ (List.Mem.head _)))))))))))))))))))))))))) rfl
set_option maxRecDepth 4000 in
theorem tw652 : (Jvm.Cond.code ({ cls := "OneBack", name := "copyRow", desc := "([I[I)V" } : Jvm.MethodName) prog_1_method_42_code (2 : Nat) (Option.none : Option Jvm.ClassFile.FieldType)) ∈ GT := GT_m (ck3 (m8 (m8 (m8 (m8 (m8 (m8 (m8 (m8 (m8 (m8 (m8 (m8 (m8 (m8 (m8 (m8 (m8 (m8 (m8 (m8 (m8 (List.Mem.tail _ (List.Mem.tail _ (List.Mem.tail _ (List.Mem.tail _ (List.Mem.head _))))))))))))))))))))))))))) rfl
set_option maxRecDepth 4000 in
theorem tw653 : (Jvm.Cond.methodLink "OneBack" (345 : Nat) ({ cls := "java/lang/Math", name := "min", desc := "(II)I" } : Jvm.MethodName)) ∈ GT := GT_m (ck3 (m8 (m8 (m8 (m8 (m8 (m8 (m8 (m8 (m8 (m8 (m8 (m8 (m8 (m8 (m8 (m8 (m8 (m8 (m8 (m8 (m8 (List.Mem.tail _ (List.Mem.tail _ (List.Mem.tail _ (List.Mem.tail _ (List.Mem.tail _ (List.Mem.head _)))))))))))))))))))))))))))) rfl
set_option maxRecDepth 4000 in
theorem tw654 : (Jvm.Cond.methodLink "OneBack" (350 : Nat) ({ cls := "java/lang/System", name := "arraycopy", desc := "(Ljava/lang/Object;ILjava/lang/Object;II)V" } : Jvm.MethodName)) ∈ GT := GT_m (ck3 (m8 (m8 (m8 (m8 (m8 (m8 (m8 (m8 (m8 (m8 (m8 (m8 (m8 (m8 (m8 (m8 (m8 (m8 (m8 (m8 (m8 (List.Mem.tail _ (List.Mem.tail _ (List.Mem.tail _ (List.Mem.tail _ (List.Mem.tail _ (List.Mem.tail _ (List.Mem.head _))))))))))))))))))))))))))))) rfl
set_option maxRecDepth 4000 in
theorem tw655 : (Jvm.Cond.static ({ cls := "java/lang/System", name := "arraycopy", desc := "(Ljava/lang/Object;ILjava/lang/Object;II)V" } : Jvm.MethodName)) ∈ GT := GT_m (ck3 (m8 (m8 (m8 (m8 (m8 (m8 (m8 (m8 (m8 (m8 (m8 (m8 (m8 (m8 (m8 (m8 (m8 (m8 (m8 (m8 (m8 (List.Mem.tail _ (List.Mem.tail _ (List.Mem.tail _ (List.Mem.tail _ (List.Mem.tail _ (List.Mem.tail _ (List.Mem.tail _ (List.Mem.head _)))))))))))))))))))))))))))))) rfl
set_option maxRecDepth 4000 in
theorem tw656 : (Jvm.Cond.native ({ cls := "java/lang/System", name := "arraycopy", desc := "(Ljava/lang/Object;ILjava/lang/Object;II)V" } : Jvm.MethodName)) ∈ GT := GT_m (ck3 (m8 (m8 (m8 (m8 (m8 (m8 (m8 (m8 (m8 (m8 (m8 (m8 (m8 (m8 (m8 (m8 (m8 (m8 (m8 (m8 (m8 (m8 (List.Mem.head _)))))))))))))))))))))))) rfl
set_option maxRecDepth 4000 in
theorem tw657 : (Jvm.Cond.methodLink "OneBack$Told" (75 : Nat) ({ cls := "OneBack$Law", name := "copy", desc := "(LOneBack$Law;)V" } : Jvm.MethodName)) ∈ GT := GT_m (ck3 (m8 (m8 (m8 (m8 (m8 (m8 (m8 (m8 (m8 (m8 (m8 (m8 (m8 (m8 (m8 (m8 (m8 (m8 (m8 (m8 (m8 (m8 (List.Mem.tail _ (List.Mem.head _))))))))))))))))))))))))) rfl
set_option maxRecDepth 4000 in
theorem tw658 : (Jvm.Cond.instanceMethod ({ cls := "OneBack$Law", name := "copy", desc := "(LOneBack$Law;)V" } : Jvm.MethodName)) ∈ GT := GT_m (ck3 (m8 (m8 (m8 (m8 (m8 (m8 (m8 (m8 (m8 (m8 (m8 (m8 (m8 (m8 (m8 (m8 (m8 (m8 (m8 (m8 (m8 (m8 (List.Mem.tail _ (List.Mem.tail _ (List.Mem.head _)))))))))))))))))))))))))) rfl
set_option maxRecDepth 4000 in
theorem tw659 : (Jvm.Cond.selects "OneBack$Law" ({ cls := "OneBack$Law", name := "copy", desc := "(LOneBack$Law;)V" } : Jvm.MethodName) ({ cls := "OneBack$Law", name := "copy", desc := "(LOneBack$Law;)V" } : Jvm.MethodName)) ∈ GT := GT_m (ck3 (m8 (m8 (m8 (m8 (m8 (m8 (m8 (m8 (m8 (m8 (m8 (m8 (m8 (m8 (m8 (m8 (m8 (m8 (m8 (m8 (m8 (m8 (List.Mem.tail _ (List.Mem.tail _ (List.Mem.tail _ (List.Mem.head _))))))))))))))))))))))))))) rfl
set_option maxRecDepth 4000 in
theorem tw660 : (Jvm.Cond.code ({ cls := "OneBack$Law", name := "copy", desc := "(LOneBack$Law;)V" } : Jvm.MethodName) prog_2_method_3_code (2 : Nat) (Option.none : Option Jvm.ClassFile.FieldType)) ∈ GT := GT_m (ck3 (m8 (m8 (m8 (m8 (m8 (m8 (m8 (m8 (m8 (m8 (m8 (m8 (m8 (m8 (m8 (m8 (m8 (m8 (m8 (m8 (m8 (m8 (List.Mem.tail _ (List.Mem.tail _ (List.Mem.tail _ (List.Mem.tail _ (List.Mem.head _)))))))))))))))))))))))))))) rfl
set_option maxRecDepth 4000 in
theorem tw661 : (Jvm.Cond.methodLink "OneBack$Told" (81 : Nat) ({ cls := "OneBack$Nights", name := "copy", desc := "(LOneBack$Nights;)V" } : Jvm.MethodName)) ∈ GT := GT_m (ck3 (m8 (m8 (m8 (m8 (m8 (m8 (m8 (m8 (m8 (m8 (m8 (m8 (m8 (m8 (m8 (m8 (m8 (m8 (m8 (m8 (m8 (m8 (List.Mem.tail _ (List.Mem.tail _ (List.Mem.tail _ (List.Mem.tail _ (List.Mem.tail _ (List.Mem.head _))))))))))))))))))))))))))))) rfl
set_option maxRecDepth 4000 in
theorem tw662 : (Jvm.Cond.instanceMethod ({ cls := "OneBack$Nights", name := "copy", desc := "(LOneBack$Nights;)V" } : Jvm.MethodName)) ∈ GT := GT_m (ck3 (m8 (m8 (m8 (m8 (m8 (m8 (m8 (m8 (m8 (m8 (m8 (m8 (m8 (m8 (m8 (m8 (m8 (m8 (m8 (m8 (m8 (m8 (List.Mem.tail _ (List.Mem.tail _ (List.Mem.tail _ (List.Mem.tail _ (List.Mem.tail _ (List.Mem.tail _ (List.Mem.head _)))))))))))))))))))))))))))))) rfl
set_option maxRecDepth 4000 in
theorem tw663 : (Jvm.Cond.selects "OneBack$Nights" ({ cls := "OneBack$Nights", name := "copy", desc := "(LOneBack$Nights;)V" } : Jvm.MethodName) ({ cls := "OneBack$Nights", name := "copy", desc := "(LOneBack$Nights;)V" } : Jvm.MethodName)) ∈ GT := GT_m (ck3 (m8 (m8 (m8 (m8 (m8 (m8 (m8 (m8 (m8 (m8 (m8 (m8 (m8 (m8 (m8 (m8 (m8 (m8 (m8 (m8 (m8 (m8 (List.Mem.tail _ (List.Mem.tail _ (List.Mem.tail _ (List.Mem.tail _ (List.Mem.tail _ (List.Mem.tail _ (List.Mem.tail _ (List.Mem.head _))))))))))))))))))))))))))))))) rfl
set_option maxRecDepth 4000 in
theorem tw664 : (Jvm.Cond.code ({ cls := "OneBack$Nights", name := "copy", desc := "(LOneBack$Nights;)V" } : Jvm.MethodName) prog_3_method_4_code (2 : Nat) (Option.none : Option Jvm.ClassFile.FieldType)) ∈ GT := GT_m (ck3 (m8 (m8 (m8 (m8 (m8 (m8 (m8 (m8 (m8 (m8 (m8 (m8 (m8 (m8 (m8 (m8 (m8 (m8 (m8 (m8 (m8 (m8 (m8 (List.Mem.head _))))))))))))))))))))))))) rfl
set_option maxRecDepth 4000 in
theorem tw666 : (Jvm.Cond.methodLink "OneBack$Told" (88 : Nat) ({ cls := "OneBack$Sight", name := "copy", desc := "(LOneBack$Sight;)V" } : Jvm.MethodName)) ∈ GT := GT_m (ck3 (m8 (m8 (m8 (m8 (m8 (m8 (m8 (m8 (m8 (m8 (m8 (m8 (m8 (m8 (m8 (m8 (m8 (m8 (m8 (m8 (m8 (m8 (m8 (List.Mem.tail _ (List.Mem.tail _ (List.Mem.head _))))))))))))))))))))))))))) rfl
set_option maxRecDepth 4000 in
theorem tw667 : (Jvm.Cond.instanceMethod ({ cls := "OneBack$Sight", name := "copy", desc := "(LOneBack$Sight;)V" } : Jvm.MethodName)) ∈ GT := GT_m (ck3 (m8 (m8 (m8 (m8 (m8 (m8 (m8 (m8 (m8 (m8 (m8 (m8 (m8 (m8 (m8 (m8 (m8 (m8 (m8 (m8 (m8 (m8 (m8 (List.Mem.tail _ (List.Mem.tail _ (List.Mem.tail _ (List.Mem.head _)))))))))))))))))))))))))))) rfl
set_option maxRecDepth 4000 in
theorem tw668 : (Jvm.Cond.selects "OneBack$Sight" ({ cls := "OneBack$Sight", name := "copy", desc := "(LOneBack$Sight;)V" } : Jvm.MethodName) ({ cls := "OneBack$Sight", name := "copy", desc := "(LOneBack$Sight;)V" } : Jvm.MethodName)) ∈ GT := GT_m (ck3 (m8 (m8 (m8 (m8 (m8 (m8 (m8 (m8 (m8 (m8 (m8 (m8 (m8 (m8 (m8 (m8 (m8 (m8 (m8 (m8 (m8 (m8 (m8 (List.Mem.tail _ (List.Mem.tail _ (List.Mem.tail _ (List.Mem.tail _ (List.Mem.head _))))))))))))))))))))))))))))) rfl
set_option maxRecDepth 4000 in
theorem tw669 : (Jvm.Cond.code ({ cls := "OneBack$Sight", name := "copy", desc := "(LOneBack$Sight;)V" } : Jvm.MethodName) prog_6_method_4_code (2 : Nat) (Option.none : Option Jvm.ClassFile.FieldType)) ∈ GT := GT_m (ck3 (m8 (m8 (m8 (m8 (m8 (m8 (m8 (m8 (m8 (m8 (m8 (m8 (m8 (m8 (m8 (m8 (m8 (m8 (m8 (m8 (m8 (m8 (m8 (List.Mem.tail _ (List.Mem.tail _ (List.Mem.tail _ (List.Mem.tail _ (List.Mem.tail _ (List.Mem.head _)))))))))))))))))))))))))))))) rfl
set_option maxRecDepth 4000 in
theorem tw671 : (Jvm.Cond.methodLink "OneBack$Told" (91 : Nat) ({ cls := "java/lang/Math", name := "max", desc := "(II)I" } : Jvm.MethodName)) ∈ GT := GT_m (ck3 (m8 (m8 (m8 (m8 (m8 (m8 (m8 (m8 (m8 (m8 (m8 (m8 (m8 (m8 (m8 (m8 (m8 (m8 (m8 (m8 (m8 (m8 (m8 (List.Mem.tail _ (List.Mem.tail _ (List.Mem.tail _ (List.Mem.tail _ (List.Mem.tail _ (List.Mem.tail _ (List.Mem.tail _ (List.Mem.head _)))))))))))))))))))))))))))))))) rfl
set_option maxRecDepth 4000 in
theorem tw672 : (Jvm.Cond.methodLink "OneBackLaw" (28 : Nat) ({ cls := "OneBack", name := "fault", desc := "(I)I" } : Jvm.MethodName)) ∈ GT := GT_m (ck3 (m8 (m8 (m8 (m8 (m8 (m8 (m8 (m8 (m8 (m8 (m8 (m8 (m8 (m8 (m8 (m8 (m8 (m8 (m8 (m8 (m8 (m8 (m8 (m8 (List.Mem.head _)))))))))))))))))))))))))) rfl
set_option maxRecDepth 4000 in
theorem tw673 : (Jvm.Cond.instanceMethod ({ cls := "OneBack", name := "fault", desc := "(I)I" } : Jvm.MethodName)) ∈ GT := GT_m (ck3 (m8 (m8 (m8 (m8 (m8 (m8 (m8 (m8 (m8 (m8 (m8 (m8 (m8 (m8 (m8 (m8 (m8 (m8 (m8 (m8 (m8 (m8 (m8 (m8 (List.Mem.tail _ (List.Mem.head _))))))))))))))))))))))))))) rfl
set_option maxRecDepth 4000 in
theorem tw674 : (Jvm.Cond.selects "OneBack" ({ cls := "OneBack", name := "fault", desc := "(I)I" } : Jvm.MethodName) ({ cls := "OneBack", name := "fault", desc := "(I)I" } : Jvm.MethodName)) ∈ GT := GT_m (ck3 (m8 (m8 (m8 (m8 (m8 (m8 (m8 (m8 (m8 (m8 (m8 (m8 (m8 (m8 (m8 (m8 (m8 (m8 (m8 (m8 (m8 (m8 (m8 (m8 (List.Mem.tail _ (List.Mem.tail _ (List.Mem.head _)))))))))))))))))))))))))))) rfl
set_option maxRecDepth 4000 in
theorem tw675 : (Jvm.Cond.code ({ cls := "OneBack", name := "fault", desc := "(I)I" } : Jvm.MethodName) prog_1_method_5_code (2 : Nat) (Option.some Jvm.ClassFile.FieldType.int)) ∈ GT := GT_m (ck3 (m8 (m8 (m8 (m8 (m8 (m8 (m8 (m8 (m8 (m8 (m8 (m8 (m8 (m8 (m8 (m8 (m8 (m8 (m8 (m8 (m8 (m8 (m8 (m8 (List.Mem.tail _ (List.Mem.tail _ (List.Mem.tail _ (List.Mem.head _))))))))))))))))))))))))))))) rfl
set_option maxRecDepth 4000 in
theorem tw676 : (Jvm.Cond.methodLink "OneBackLaw" (32 : Nat) ({ cls := "OneBack", name := "town", desc := "(II)I" } : Jvm.MethodName)) ∈ GT := GT_m (ck3 (m8 (m8 (m8 (m8 (m8 (m8 (m8 (m8 (m8 (m8 (m8 (m8 (m8 (m8 (m8 (m8 (m8 (m8 (m8 (m8 (m8 (m8 (m8 (m8 (List.Mem.tail _ (List.Mem.tail _ (List.Mem.tail _ (List.Mem.tail _ (List.Mem.head _)))))))))))))))))))))))))))))) rfl
set_option maxRecDepth 4000 in
theorem tw677 : (Jvm.Cond.instanceMethod ({ cls := "OneBack", name := "town", desc := "(II)I" } : Jvm.MethodName)) ∈ GT := GT_m (ck3 (m8 (m8 (m8 (m8 (m8 (m8 (m8 (m8 (m8 (m8 (m8 (m8 (m8 (m8 (m8 (m8 (m8 (m8 (m8 (m8 (m8 (m8 (m8 (m8 (List.Mem.tail _ (List.Mem.tail _ (List.Mem.tail _ (List.Mem.tail _ (List.Mem.tail _ (List.Mem.head _))))))))))))))))))))))))))))))) rfl
set_option maxRecDepth 4000 in
theorem tw678 : (Jvm.Cond.selects "OneBack" ({ cls := "OneBack", name := "town", desc := "(II)I" } : Jvm.MethodName) ({ cls := "OneBack", name := "town", desc := "(II)I" } : Jvm.MethodName)) ∈ GT := GT_m (ck3 (m8 (m8 (m8 (m8 (m8 (m8 (m8 (m8 (m8 (m8 (m8 (m8 (m8 (m8 (m8 (m8 (m8 (m8 (m8 (m8 (m8 (m8 (m8 (m8 (List.Mem.tail _ (List.Mem.tail _ (List.Mem.tail _ (List.Mem.tail _ (List.Mem.tail _ (List.Mem.tail _ (List.Mem.head _)))))))))))))))))))))))))))))))) rfl
set_option maxRecDepth 4000 in
theorem tw679 : (Jvm.Cond.code ({ cls := "OneBack", name := "town", desc := "(II)I" } : Jvm.MethodName) prog_1_method_6_code (5 : Nat) (Option.some Jvm.ClassFile.FieldType.int)) ∈ GT := GT_m (ck3 (m8 (m8 (m8 (m8 (m8 (m8 (m8 (m8 (m8 (m8 (m8 (m8 (m8 (m8 (m8 (m8 (m8 (m8 (m8 (m8 (m8 (m8 (m8 (m8 (List.Mem.tail _ (List.Mem.tail _ (List.Mem.tail _ (List.Mem.tail _ (List.Mem.tail _ (List.Mem.tail _ (List.Mem.tail _ (List.Mem.head _))))))))))))))))))))))))))))))))) rfl
set_option maxRecDepth 4000 in
theorem tw680 : (Jvm.Cond.methodLink "OneBack" (92 : Nat) ({ cls := "OneBack$Told", name := "townAt", desc := "(I)LOneBack$Town;" } : Jvm.MethodName)) ∈ GT := GT_m (ck3 (m8 (m8 (m8 (m8 (m8 (m8 (m8 (m8 (m8 (m8 (m8 (m8 (m8 (m8 (m8 (m8 (m8 (m8 (m8 (m8 (m8 (m8 (m8 (m8 (m8 (List.Mem.head _))))))))))))))))))))))))))) rfl
set_option maxRecDepth 4000 in
theorem tw681 : (Jvm.Cond.instanceMethod ({ cls := "OneBack$Told", name := "townAt", desc := "(I)LOneBack$Town;" } : Jvm.MethodName)) ∈ GT := GT_m (ck3 (m8 (m8 (m8 (m8 (m8 (m8 (m8 (m8 (m8 (m8 (m8 (m8 (m8 (m8 (m8 (m8 (m8 (m8 (m8 (m8 (m8 (m8 (m8 (m8 (m8 (List.Mem.tail _ (List.Mem.head _)))))))))))))))))))))))))))) rfl
set_option maxRecDepth 4000 in
theorem tw682 : (Jvm.Cond.selects "OneBack$Told" ({ cls := "OneBack$Told", name := "townAt", desc := "(I)LOneBack$Town;" } : Jvm.MethodName) ({ cls := "OneBack$Told", name := "townAt", desc := "(I)LOneBack$Town;" } : Jvm.MethodName)) ∈ GT := GT_m (ck3 (m8 (m8 (m8 (m8 (m8 (m8 (m8 (m8 (m8 (m8 (m8 (m8 (m8 (m8 (m8 (m8 (m8 (m8 (m8 (m8 (m8 (m8 (m8 (m8 (m8 (List.Mem.tail _ (List.Mem.tail _ (List.Mem.head _))))))))))))))))))))))))))))) rfl
set_option maxRecDepth 4000 in
theorem tw683 : (Jvm.Cond.code ({ cls := "OneBack$Told", name := "townAt", desc := "(I)LOneBack$Town;" } : Jvm.MethodName) prog_8_method_4_code (2 : Nat) (Option.some (Jvm.ClassFile.FieldType.object "OneBack$Town"))) ∈ GT := GT_m (ck3 (m8 (m8 (m8 (m8 (m8 (m8 (m8 (m8 (m8 (m8 (m8 (m8 (m8 (m8 (m8 (m8 (m8 (m8 (m8 (m8 (m8 (m8 (m8 (m8 (m8 (List.Mem.tail _ (List.Mem.tail _ (List.Mem.tail _ (List.Mem.head _)))))))))))))))))))))))))))))) rfl
set_option maxRecDepth 4000 in
theorem tw684 : (Jvm.Cond.methodLink "OneBack" (104 : Nat) ({ cls := "OneBack$Town", name := "isHouse", desc := "(I)Z" } : Jvm.MethodName)) ∈ GT := GT_m (ck3 (m8 (m8 (m8 (m8 (m8 (m8 (m8 (m8 (m8 (m8 (m8 (m8 (m8 (m8 (m8 (m8 (m8 (m8 (m8 (m8 (m8 (m8 (m8 (m8 (m8 (List.Mem.tail _ (List.Mem.tail _ (List.Mem.tail _ (List.Mem.tail _ (List.Mem.head _))))))))))))))))))))))))))))))) rfl
set_option maxRecDepth 4000 in
theorem tw685 : (Jvm.Cond.instanceMethod ({ cls := "OneBack$Town", name := "isHouse", desc := "(I)Z" } : Jvm.MethodName)) ∈ GT := GT_m (ck3 (m8 (m8 (m8 (m8 (m8 (m8 (m8 (m8 (m8 (m8 (m8 (m8 (m8 (m8 (m8 (m8 (m8 (m8 (m8 (m8 (m8 (m8 (m8 (m8 (m8 (List.Mem.tail _ (List.Mem.tail _ (List.Mem.tail _ (List.Mem.tail _ (List.Mem.tail _ (List.Mem.head _)))))))))))))))))))))))))))))))) rfl
set_option maxRecDepth 4000 in
theorem tw686 : (Jvm.Cond.selects "OneBack$Town" ({ cls := "OneBack$Town", name := "isHouse", desc := "(I)Z" } : Jvm.MethodName) ({ cls := "OneBack$Town", name := "isHouse", desc := "(I)Z" } : Jvm.MethodName)) ∈ GT := GT_m (ck3 (m8 (m8 (m8 (m8 (m8 (m8 (m8 (m8 (m8 (m8 (m8 (m8 (m8 (m8 (m8 (m8 (m8 (m8 (m8 (m8 (m8 (m8 (m8 (m8 (m8 (List.Mem.tail _ (List.Mem.tail _ (List.Mem.tail _ (List.Mem.tail _ (List.Mem.tail _ (List.Mem.tail _ (List.Mem.head _))))))))))))))))))))))))))))))))) rfl
set_option maxRecDepth 4000 in
theorem tw687 : (Jvm.Cond.code ({ cls := "OneBack$Town", name := "isHouse", desc := "(I)Z" } : Jvm.MethodName) prog_9_method_4_code (2 : Nat) (Option.some Jvm.ClassFile.FieldType.boolean)) ∈ GT := GT_m (ck3 (m8 (m8 (m8 (m8 (m8 (m8 (m8 (m8 (m8 (m8 (m8 (m8 (m8 (m8 (m8 (m8 (m8 (m8 (m8 (m8 (m8 (m8 (m8 (m8 (m8 (List.Mem.tail _ (List.Mem.tail _ (List.Mem.tail _ (List.Mem.tail _ (List.Mem.tail _ (List.Mem.tail _ (List.Mem.tail _ (List.Mem.head _)))))))))))))))))))))))))))))))))) rfl
set_option maxRecDepth 4000 in
theorem tw688 : (Jvm.Cond.methodLink "OneBack" (115 : Nat) ({ cls := "OneBack", name := "isGood", desc := "(I)Z" } : Jvm.MethodName)) ∈ GT := GT_m (ck3 (m8 (m8 (m8 (m8 (m8 (m8 (m8 (m8 (m8 (m8 (m8 (m8 (m8 (m8 (m8 (m8 (m8 (m8 (m8 (m8 (m8 (m8 (m8 (m8 (m8 (m8 (List.Mem.head _)))))))))))))))))))))))))))) rfl
set_option maxRecDepth 4000 in
theorem tw689 : (Jvm.Cond.static ({ cls := "OneBack", name := "isGood", desc := "(I)Z" } : Jvm.MethodName)) ∈ GT := GT_m (ck3 (m8 (m8 (m8 (m8 (m8 (m8 (m8 (m8 (m8 (m8 (m8 (m8 (m8 (m8 (m8 (m8 (m8 (m8 (m8 (m8 (m8 (m8 (m8 (m8 (m8 (m8 (List.Mem.tail _ (List.Mem.head _))))))))))))))))))))))))))))) rfl
set_option maxRecDepth 4000 in
theorem tw690 : (Jvm.Cond.code ({ cls := "OneBack", name := "isGood", desc := "(I)Z" } : Jvm.MethodName) prog_1_method_36_code (1 : Nat) (Option.some Jvm.ClassFile.FieldType.boolean)) ∈ GT := GT_m (ck3 (m8 (m8 (m8 (m8 (m8 (m8 (m8 (m8 (m8 (m8 (m8 (m8 (m8 (m8 (m8 (m8 (m8 (m8 (m8 (m8 (m8 (m8 (m8 (m8 (m8 (m8 (List.Mem.tail _ (List.Mem.tail _ (List.Mem.head _)))))))))))))))))))))))))))))) rfl
set_option maxRecDepth 4000 in
theorem tw691 : (Jvm.Cond.methodLink "OneBack" (124 : Nat) ({ cls := "OneBack$Town", name := "isThief", desc := "(I)Z" } : Jvm.MethodName)) ∈ GT := GT_m (ck3 (m8 (m8 (m8 (m8 (m8 (m8 (m8 (m8 (m8 (m8 (m8 (m8 (m8 (m8 (m8 (m8 (m8 (m8 (m8 (m8 (m8 (m8 (m8 (m8 (m8 (m8 (List.Mem.tail _ (List.Mem.tail _ (List.Mem.tail _ (List.Mem.head _))))))))))))))))))))))))))))))) rfl
set_option maxRecDepth 4000 in
theorem tw692 : (Jvm.Cond.instanceMethod ({ cls := "OneBack$Town", name := "isThief", desc := "(I)Z" } : Jvm.MethodName)) ∈ GT := GT_m (ck3 (m8 (m8 (m8 (m8 (m8 (m8 (m8 (m8 (m8 (m8 (m8 (m8 (m8 (m8 (m8 (m8 (m8 (m8 (m8 (m8 (m8 (m8 (m8 (m8 (m8 (m8 (List.Mem.tail _ (List.Mem.tail _ (List.Mem.tail _ (List.Mem.tail _ (List.Mem.head _)))))))))))))))))))))))))))))))) rfl
set_option maxRecDepth 4000 in
theorem tw693 : (Jvm.Cond.selects "OneBack$Town" ({ cls := "OneBack$Town", name := "isThief", desc := "(I)Z" } : Jvm.MethodName) ({ cls := "OneBack$Town", name := "isThief", desc := "(I)Z" } : Jvm.MethodName)) ∈ GT := GT_m (ck3 (m8 (m8 (m8 (m8 (m8 (m8 (m8 (m8 (m8 (m8 (m8 (m8 (m8 (m8 (m8 (m8 (m8 (m8 (m8 (m8 (m8 (m8 (m8 (m8 (m8 (m8 (List.Mem.tail _ (List.Mem.tail _ (List.Mem.tail _ (List.Mem.tail _ (List.Mem.tail _ (List.Mem.head _))))))))))))))))))))))))))))))))) rfl
set_option maxRecDepth 4000 in
theorem tw694 : (Jvm.Cond.code ({ cls := "OneBack$Town", name := "isThief", desc := "(I)Z" } : Jvm.MethodName) prog_9_method_5_code (2 : Nat) (Option.some Jvm.ClassFile.FieldType.boolean)) ∈ GT := GT_m (ck3 (m8 (m8 (m8 (m8 (m8 (m8 (m8 (m8 (m8 (m8 (m8 (m8 (m8 (m8 (m8 (m8 (m8 (m8 (m8 (m8 (m8 (m8 (m8 (m8 (m8 (m8 (List.Mem.tail _ (List.Mem.tail _ (List.Mem.tail _ (List.Mem.tail _ (List.Mem.tail _ (List.Mem.tail _ (List.Mem.head _)))))))))))))))))))))))))))))))))) rfl
set_option maxRecDepth 4000 in
theorem tw695 : (Jvm.Cond.methodLink "OneBackLaw" (36 : Nat) ({ cls := "OneBack", name := "house", desc := "(IIII)I" } : Jvm.MethodName)) ∈ GT := GT_m (ck3 (m8 (m8 (m8 (m8 (m8 (m8 (m8 (m8 (m8 (m8 (m8 (m8 (m8 (m8 (m8 (m8 (m8 (m8 (m8 (m8 (m8 (m8 (m8 (m8 (m8 (m8 (List.Mem.tail _ (List.Mem.tail _ (List.Mem.tail _ (List.Mem.tail _ (List.Mem.tail _ (List.Mem.tail _ (List.Mem.tail _ (List.Mem.head _))))))))))))))))))))))))))))))))))) rfl
set_option maxRecDepth 4000 in
theorem tw696 : (Jvm.Cond.instanceMethod ({ cls := "OneBack", name := "house", desc := "(IIII)I" } : Jvm.MethodName)) ∈ GT := GT_m (ck3 (m8 (m8 (m8 (m8 (m8 (m8 (m8 (m8 (m8 (m8 (m8 (m8 (m8 (m8 (m8 (m8 (m8 (m8 (m8 (m8 (m8 (m8 (m8 (m8 (m8 (m8 (m8 (List.Mem.head _))))))))))))))))))))))))))))) rfl
set_option maxRecDepth 4000 in
theorem tw697 : (Jvm.Cond.selects "OneBack" ({ cls := "OneBack", name := "house", desc := "(IIII)I" } : Jvm.MethodName) ({ cls := "OneBack", name := "house", desc := "(IIII)I" } : Jvm.MethodName)) ∈ GT := GT_m (ck3 (m8 (m8 (m8 (m8 (m8 (m8 (m8 (m8 (m8 (m8 (m8 (m8 (m8 (m8 (m8 (m8 (m8 (m8 (m8 (m8 (m8 (m8 (m8 (m8 (m8 (m8 (m8 (List.Mem.tail _ (List.Mem.head _)))))))))))))))))))))))))))))) rfl
set_option maxRecDepth 4000 in
theorem tw698 : (Jvm.Cond.code ({ cls := "OneBack", name := "house", desc := "(IIII)I" } : Jvm.MethodName) prog_1_method_7_code (6 : Nat) (Option.some Jvm.ClassFile.FieldType.int)) ∈ GT := GT_m (ck3 (m8 (m8 (m8 (m8 (m8 (m8 (m8 (m8 (m8 (m8 (m8 (m8 (m8 (m8 (m8 (m8 (m8 (m8 (m8 (m8 (m8 (m8 (m8 (m8 (m8 (m8 (m8 (List.Mem.tail _ (List.Mem.tail _ (List.Mem.head _))))))))))))))))))))))))))))))) rfl
set_option maxRecDepth 4000 in
theorem tw699 : (Jvm.Cond.methodLink "OneBack" (136 : Nat) ({ cls := "OneBack", name := "cell", desc := "(II)I" } : Jvm.MethodName)) ∈ GT := GT_m (ck3 (m8 (m8 (m8 (m8 (m8 (m8 (m8 (m8 (m8 (m8 (m8 (m8 (m8 (m8 (m8 (m8 (m8 (m8 (m8 (m8 (m8 (m8 (m8 (m8 (m8 (m8 (m8 (List.Mem.tail _ (List.Mem.tail _ (List.Mem.tail _ (List.Mem.head _)))))))))))))))))))))))))))))))) rfl
set_option maxRecDepth 4000 in
theorem tw700 : (Jvm.Cond.methodLink "OneBack" (142 : Nat) ({ cls := "OneBack$Town", name := "spareOf", desc := "(II)I" } : Jvm.MethodName)) ∈ GT := GT_m (ck3 (m8 (m8 (m8 (m8 (m8 (m8 (m8 (m8 (m8 (m8 (m8 (m8 (m8 (m8 (m8 (m8 (m8 (m8 (m8 (m8 (m8 (m8 (m8 (m8 (m8 (m8 (m8 (List.Mem.tail _ (List.Mem.tail _ (List.Mem.tail _ (List.Mem.tail _ (List.Mem.head _))))))))))))))))))))))))))))))))) rfl
set_option maxRecDepth 4000 in
theorem tw701 : (Jvm.Cond.instanceMethod ({ cls := "OneBack$Town", name := "spareOf", desc := "(II)I" } : Jvm.MethodName)) ∈ GT := GT_m (ck3 (m8 (m8 (m8 (m8 (m8 (m8 (m8 (m8 (m8 (m8 (m8 (m8 (m8 (m8 (m8 (m8 (m8 (m8 (m8 (m8 (m8 (m8 (m8 (m8 (m8 (m8 (m8 (List.Mem.tail _ (List.Mem.tail _ (List.Mem.tail _ (List.Mem.tail _ (List.Mem.tail _ (List.Mem.head _)))))))))))))))))))))))))))))))))) rfl
set_option maxRecDepth 4000 in
theorem tw702 : (Jvm.Cond.selects "OneBack$Town" ({ cls := "OneBack$Town", name := "spareOf", desc := "(II)I" } : Jvm.MethodName) ({ cls := "OneBack$Town", name := "spareOf", desc := "(II)I" } : Jvm.MethodName)) ∈ GT := GT_m (ck3 (m8 (m8 (m8 (m8 (m8 (m8 (m8 (m8 (m8 (m8 (m8 (m8 (m8 (m8 (m8 (m8 (m8 (m8 (m8 (m8 (m8 (m8 (m8 (m8 (m8 (m8 (m8 (List.Mem.tail _ (List.Mem.tail _ (List.Mem.tail _ (List.Mem.tail _ (List.Mem.tail _ (List.Mem.tail _ (List.Mem.head _))))))))))))))))))))))))))))))))))) rfl
set_option maxRecDepth 4000 in
theorem tw703 : (Jvm.Cond.code ({ cls := "OneBack$Town", name := "spareOf", desc := "(II)I" } : Jvm.MethodName) prog_9_method_8_code (3 : Nat) (Option.some Jvm.ClassFile.FieldType.int)) ∈ GT := GT_m (ck3 (m8 (m8 (m8 (m8 (m8 (m8 (m8 (m8 (m8 (m8 (m8 (m8 (m8 (m8 (m8 (m8 (m8 (m8 (m8 (m8 (m8 (m8 (m8 (m8 (m8 (m8 (m8 (List.Mem.tail _ (List.Mem.tail _ (List.Mem.tail _ (List.Mem.tail _ (List.Mem.tail _ (List.Mem.tail _ (List.Mem.tail _ (List.Mem.head _)))))))))))))))))))))))))))))))))))) rfl
set_option maxRecDepth 4000 in
theorem tw705 : (Jvm.Cond.methodLink "OneBack$Town" (58 : Nat) ({ cls := "java/lang/Math", name := "max", desc := "(II)I" } : Jvm.MethodName)) ∈ GT := GT_m (ck3 (m8 (m8 (m8 (m8 (m8 (m8 (m8 (m8 (m8 (m8 (m8 (m8 (m8 (m8 (m8 (m8 (m8 (m8 (m8 (m8 (m8 (m8 (m8 (m8 (m8 (m8 (m8 (m8 (List.Mem.tail _ (List.Mem.head _))))))))))))))))))))))))))))))) rfl
set_option maxRecDepth 4000 in
theorem tw706 : (Jvm.Cond.methodLink "OneBack" (145 : Nat) ({ cls := "OneBack$Town", name := "lackOf", desc := "(II)I" } : Jvm.MethodName)) ∈ GT := GT_m (ck3 (m8 (m8 (m8 (m8 (m8 (m8 (m8 (m8 (m8 (m8 (m8 (m8 (m8 (m8 (m8 (m8 (m8 (m8 (m8 (m8 (m8 (m8 (m8 (m8 (m8 (m8 (m8 (m8 (List.Mem.tail _ (List.Mem.tail _ (List.Mem.head _)))))))))))))))))))))))))))))))) rfl
set_option maxRecDepth 4000 in
theorem tw707 : (Jvm.Cond.instanceMethod ({ cls := "OneBack$Town", name := "lackOf", desc := "(II)I" } : Jvm.MethodName)) ∈ GT := GT_m (ck3 (m8 (m8 (m8 (m8 (m8 (m8 (m8 (m8 (m8 (m8 (m8 (m8 (m8 (m8 (m8 (m8 (m8 (m8 (m8 (m8 (m8 (m8 (m8 (m8 (m8 (m8 (m8 (m8 (List.Mem.tail _ (List.Mem.tail _ (List.Mem.tail _ (List.Mem.head _))))))))))))))))))))))))))))))))) rfl
set_option maxRecDepth 4000 in
theorem tw708 : (Jvm.Cond.selects "OneBack$Town" ({ cls := "OneBack$Town", name := "lackOf", desc := "(II)I" } : Jvm.MethodName) ({ cls := "OneBack$Town", name := "lackOf", desc := "(II)I" } : Jvm.MethodName)) ∈ GT := GT_m (ck3 (m8 (m8 (m8 (m8 (m8 (m8 (m8 (m8 (m8 (m8 (m8 (m8 (m8 (m8 (m8 (m8 (m8 (m8 (m8 (m8 (m8 (m8 (m8 (m8 (m8 (m8 (m8 (m8 (List.Mem.tail _ (List.Mem.tail _ (List.Mem.tail _ (List.Mem.tail _ (List.Mem.head _)))))))))))))))))))))))))))))))))) rfl
set_option maxRecDepth 4000 in
theorem tw709 : (Jvm.Cond.code ({ cls := "OneBack$Town", name := "lackOf", desc := "(II)I" } : Jvm.MethodName) prog_9_method_9_code (3 : Nat) (Option.some Jvm.ClassFile.FieldType.int)) ∈ GT := GT_m (ck3 (m8 (m8 (m8 (m8 (m8 (m8 (m8 (m8 (m8 (m8 (m8 (m8 (m8 (m8 (m8 (m8 (m8 (m8 (m8 (m8 (m8 (m8 (m8 (m8 (m8 (m8 (m8 (m8 (List.Mem.tail _ (List.Mem.tail _ (List.Mem.tail _ (List.Mem.tail _ (List.Mem.tail _ (List.Mem.head _))))))))))))))))))))))))))))))))))) rfl
set_option maxRecDepth 4000 in
theorem tw710 : (Jvm.Cond.methodLink "OneBackLaw" (41 : Nat) ({ cls := "OneBack", name := "law", desc := "(II)I" } : Jvm.MethodName)) ∈ GT := GT_m (ck3 (m8 (m8 (m8 (m8 (m8 (m8 (m8 (m8 (m8 (m8 (m8 (m8 (m8 (m8 (m8 (m8 (m8 (m8 (m8 (m8 (m8 (m8 (m8 (m8 (m8 (m8 (m8 (m8 (List.Mem.tail _ (List.Mem.tail _ (List.Mem.tail _ (List.Mem.tail _ (List.Mem.tail _ (List.Mem.tail _ (List.Mem.head _)))))))))))))))))))))))))))))))))))) rfl
set_option maxRecDepth 4000 in
theorem tw711 : (Jvm.Cond.instanceMethod ({ cls := "OneBack", name := "law", desc := "(II)I" } : Jvm.MethodName)) ∈ GT := GT_m (ck3 (m8 (m8 (m8 (m8 (m8 (m8 (m8 (m8 (m8 (m8 (m8 (m8 (m8 (m8 (m8 (m8 (m8 (m8 (m8 (m8 (m8 (m8 (m8 (m8 (m8 (m8 (m8 (m8 (List.Mem.tail _ (List.Mem.tail _ (List.Mem.tail _ (List.Mem.tail _ (List.Mem.tail _ (List.Mem.tail _ (List.Mem.tail _ (List.Mem.head _))))))))))))))))))))))))))))))))))))) rfl
set_option maxRecDepth 4000 in
theorem tw712 : (Jvm.Cond.selects "OneBack" ({ cls := "OneBack", name := "law", desc := "(II)I" } : Jvm.MethodName) ({ cls := "OneBack", name := "law", desc := "(II)I" } : Jvm.MethodName)) ∈ GT := GT_m (ck3 (m8 (m8 (m8 (m8 (m8 (m8 (m8 (m8 (m8 (m8 (m8 (m8 (m8 (m8 (m8 (m8 (m8 (m8 (m8 (m8 (m8 (m8 (m8 (m8 (m8 (m8 (m8 (m8 (m8 (List.Mem.head _))))))))))))))))))))))))))))))) rfl
set_option maxRecDepth 4000 in
theorem tw713 : (Jvm.Cond.code ({ cls := "OneBack", name := "law", desc := "(II)I" } : Jvm.MethodName) prog_1_method_8_code (4 : Nat) (Option.some Jvm.ClassFile.FieldType.int)) ∈ GT := GT_m (ck3 (m8 (m8 (m8 (m8 (m8 (m8 (m8 (m8 (m8 (m8 (m8 (m8 (m8 (m8 (m8 (m8 (m8 (m8 (m8 (m8 (m8 (m8 (m8 (m8 (m8 (m8 (m8 (m8 (m8 (List.Mem.tail _ (List.Mem.head _)))))))))))))))))))))))))))))))) rfl
set_option maxRecDepth 4000 in
theorem tw714 : (Jvm.Cond.methodLink "OneBack" (148 : Nat) ({ cls := "OneBack$Told", name := "lawAt", desc := "(I)LOneBack$Law;" } : Jvm.MethodName)) ∈ GT := GT_m (ck3 (m8 (m8 (m8 (m8 (m8 (m8 (m8 (m8 (m8 (m8 (m8 (m8 (m8 (m8 (m8 (m8 (m8 (m8 (m8 (m8 (m8 (m8 (m8 (m8 (m8 (m8 (m8 (m8 (m8 (List.Mem.tail _ (List.Mem.tail _ (List.Mem.head _))))))))))))))))))))))))))))))))) rfl
set_option maxRecDepth 4000 in
theorem tw715 : (Jvm.Cond.instanceMethod ({ cls := "OneBack$Told", name := "lawAt", desc := "(I)LOneBack$Law;" } : Jvm.MethodName)) ∈ GT := GT_m (ck3 (m8 (m8 (m8 (m8 (m8 (m8 (m8 (m8 (m8 (m8 (m8 (m8 (m8 (m8 (m8 (m8 (m8 (m8 (m8 (m8 (m8 (m8 (m8 (m8 (m8 (m8 (m8 (m8 (m8 (List.Mem.tail _ (List.Mem.tail _ (List.Mem.tail _ (List.Mem.head _)))))))))))))))))))))))))))))))))) rfl
set_option maxRecDepth 4000 in
theorem tw716 : (Jvm.Cond.selects "OneBack$Told" ({ cls := "OneBack$Told", name := "lawAt", desc := "(I)LOneBack$Law;" } : Jvm.MethodName) ({ cls := "OneBack$Told", name := "lawAt", desc := "(I)LOneBack$Law;" } : Jvm.MethodName)) ∈ GT := GT_m (ck3 (m8 (m8 (m8 (m8 (m8 (m8 (m8 (m8 (m8 (m8 (m8 (m8 (m8 (m8 (m8 (m8 (m8 (m8 (m8 (m8 (m8 (m8 (m8 (m8 (m8 (m8 (m8 (m8 (m8 (List.Mem.tail _ (List.Mem.tail _ (List.Mem.tail _ (List.Mem.tail _ (List.Mem.head _))))))))))))))))))))))))))))))))))) rfl
set_option maxRecDepth 4000 in
theorem tw717 : (Jvm.Cond.code ({ cls := "OneBack$Told", name := "lawAt", desc := "(I)LOneBack$Law;" } : Jvm.MethodName) prog_8_method_5_code (2 : Nat) (Option.some (Jvm.ClassFile.FieldType.object "OneBack$Law"))) ∈ GT := GT_m (ck3 (m8 (m8 (m8 (m8 (m8 (m8 (m8 (m8 (m8 (m8 (m8 (m8 (m8 (m8 (m8 (m8 (m8 (m8 (m8 (m8 (m8 (m8 (m8 (m8 (m8 (m8 (m8 (m8 (m8 (List.Mem.tail _ (List.Mem.tail _ (List.Mem.tail _ (List.Mem.tail _ (List.Mem.tail _ (List.Mem.head _)))))))))))))))))))))))))))))))))))) rfl
set_option maxRecDepth 4000 in
theorem tw718 : (Jvm.Cond.methodLink "OneBack" (160 : Nat) ({ cls := "OneBack$Law", name := "counts", desc := "(I)I" } : Jvm.MethodName)) ∈ GT := GT_m (ck3 (m8 (m8 (m8 (m8 (m8 (m8 (m8 (m8 (m8 (m8 (m8 (m8 (m8 (m8 (m8 (m8 (m8 (m8 (m8 (m8 (m8 (m8 (m8 (m8 (m8 (m8 (m8 (m8 (m8 (List.Mem.tail _ (List.Mem.tail _ (List.Mem.tail _ (List.Mem.tail _ (List.Mem.tail _ (List.Mem.tail _ (List.Mem.head _))))))))))))))))))))))))))))))))))))) rfl
set_option maxRecDepth 4000 in
theorem tw719 : (Jvm.Cond.instanceMethod ({ cls := "OneBack$Law", name := "counts", desc := "(I)I" } : Jvm.MethodName)) ∈ GT := GT_m (ck3 (m8 (m8 (m8 (m8 (m8 (m8 (m8 (m8 (m8 (m8 (m8 (m8 (m8 (m8 (m8 (m8 (m8 (m8 (m8 (m8 (m8 (m8 (m8 (m8 (m8 (m8 (m8 (m8 (m8 (List.Mem.tail _ (List.Mem.tail _ (List.Mem.tail _ (List.Mem.tail _ (List.Mem.tail _ (List.Mem.tail _ (List.Mem.tail _ (List.Mem.head _)))))))))))))))))))))))))))))))))))))) rfl
set_option maxRecDepth 4000 in
theorem tw720 : (Jvm.Cond.selects "OneBack$Law" ({ cls := "OneBack$Law", name := "counts", desc := "(I)I" } : Jvm.MethodName) ({ cls := "OneBack$Law", name := "counts", desc := "(I)I" } : Jvm.MethodName)) ∈ GT := GT_m (ck4 (List.Mem.head _)) rfl
set_option maxRecDepth 4000 in
theorem tw721 : (Jvm.Cond.code ({ cls := "OneBack$Law", name := "counts", desc := "(I)I" } : Jvm.MethodName) prog_2_method_4_code (2 : Nat) (Option.some Jvm.ClassFile.FieldType.int)) ∈ GT := GT_m (ck4 (List.Mem.tail _ (List.Mem.head _))) rfl
set_option maxRecDepth 4000 in
theorem tw722 : (Jvm.Cond.methodLink "OneBackLaw" (45 : Nat) ({ cls := "OneBack", name := "deed", desc := "(III)I" } : Jvm.MethodName)) ∈ GT := GT_m (ck4 (List.Mem.tail _ (List.Mem.tail _ (List.Mem.head _)))) rfl
set_option maxRecDepth 4000 in
theorem tw723 : (Jvm.Cond.instanceMethod ({ cls := "OneBack", name := "deed", desc := "(III)I" } : Jvm.MethodName)) ∈ GT := GT_m (ck4 (List.Mem.tail _ (List.Mem.tail _ (List.Mem.tail _ (List.Mem.head _))))) rfl
set_option maxRecDepth 4000 in
theorem tw724 : (Jvm.Cond.selects "OneBack" ({ cls := "OneBack", name := "deed", desc := "(III)I" } : Jvm.MethodName) ({ cls := "OneBack", name := "deed", desc := "(III)I" } : Jvm.MethodName)) ∈ GT := GT_m (ck4 (List.Mem.tail _ (List.Mem.tail _ (List.Mem.tail _ (List.Mem.tail _ (List.Mem.head _)))))) rfl
set_option maxRecDepth 4000 in
theorem tw725 : (Jvm.Cond.code ({ cls := "OneBack", name := "deed", desc := "(III)I" } : Jvm.MethodName) prog_1_method_9_code (5 : Nat) (Option.some Jvm.ClassFile.FieldType.int)) ∈ GT := GT_m (ck4 (List.Mem.tail _ (List.Mem.tail _ (List.Mem.tail _ (List.Mem.tail _ (List.Mem.tail _ (List.Mem.head _))))))) rfl
set_option maxRecDepth 4000 in
theorem tw726 : (Jvm.Cond.methodLink "OneBack" (164 : Nat) ({ cls := "OneBack$Told", name := "nightsAt", desc := "(I)LOneBack$Nights;" } : Jvm.MethodName)) ∈ GT := GT_m (ck4 (List.Mem.tail _ (List.Mem.tail _ (List.Mem.tail _ (List.Mem.tail _ (List.Mem.tail _ (List.Mem.tail _ (List.Mem.head _)))))))) rfl
set_option maxRecDepth 4000 in
theorem tw727 : (Jvm.Cond.instanceMethod ({ cls := "OneBack$Told", name := "nightsAt", desc := "(I)LOneBack$Nights;" } : Jvm.MethodName)) ∈ GT := GT_m (ck4 (List.Mem.tail _ (List.Mem.tail _ (List.Mem.tail _ (List.Mem.tail _ (List.Mem.tail _ (List.Mem.tail _ (List.Mem.tail _ (List.Mem.head _))))))))) rfl
set_option maxRecDepth 4000 in
theorem tw728 : (Jvm.Cond.selects "OneBack$Told" ({ cls := "OneBack$Told", name := "nightsAt", desc := "(I)LOneBack$Nights;" } : Jvm.MethodName) ({ cls := "OneBack$Told", name := "nightsAt", desc := "(I)LOneBack$Nights;" } : Jvm.MethodName)) ∈ GT := GT_m (ck4 (m8 (List.Mem.head _))) rfl
set_option maxRecDepth 4000 in
theorem tw729 : (Jvm.Cond.code ({ cls := "OneBack$Told", name := "nightsAt", desc := "(I)LOneBack$Nights;" } : Jvm.MethodName) prog_8_method_6_code (2 : Nat) (Option.some (Jvm.ClassFile.FieldType.object "OneBack$Nights"))) ∈ GT := GT_m (ck4 (m8 (List.Mem.tail _ (List.Mem.head _)))) rfl
set_option maxRecDepth 4000 in
theorem tw730 : (Jvm.Cond.methodLink "OneBackLaw" (50 : Nat) ({ cls := "OneBack", name := "stop", desc := "(III)I" } : Jvm.MethodName)) ∈ GT := GT_m (ck4 (m8 (List.Mem.tail _ (List.Mem.tail _ (List.Mem.head _))))) rfl
set_option maxRecDepth 4000 in
theorem tw731 : (Jvm.Cond.instanceMethod ({ cls := "OneBack", name := "stop", desc := "(III)I" } : Jvm.MethodName)) ∈ GT := GT_m (ck4 (m8 (List.Mem.tail _ (List.Mem.tail _ (List.Mem.tail _ (List.Mem.head _)))))) rfl
set_option maxRecDepth 4000 in
theorem tw732 : (Jvm.Cond.selects "OneBack" ({ cls := "OneBack", name := "stop", desc := "(III)I" } : Jvm.MethodName) ({ cls := "OneBack", name := "stop", desc := "(III)I" } : Jvm.MethodName)) ∈ GT := GT_m (ck4 (m8 (List.Mem.tail _ (List.Mem.tail _ (List.Mem.tail _ (List.Mem.tail _ (List.Mem.head _))))))) rfl
set_option maxRecDepth 4000 in
theorem tw733 : (Jvm.Cond.code ({ cls := "OneBack", name := "stop", desc := "(III)I" } : Jvm.MethodName) prog_1_method_10_code (4 : Nat) (Option.some Jvm.ClassFile.FieldType.int)) ∈ GT := GT_m (ck4 (m8 (List.Mem.tail _ (List.Mem.tail _ (List.Mem.tail _ (List.Mem.tail _ (List.Mem.tail _ (List.Mem.head _)))))))) rfl
set_option maxRecDepth 4000 in
theorem tw734 : (Jvm.Cond.methodLink "OneBack" (185 : Nat) ({ cls := "OneBack", name := "walkTo", desc := "(IIII)Z" } : Jvm.MethodName)) ∈ GT := GT_m (ck4 (m8 (List.Mem.tail _ (List.Mem.tail _ (List.Mem.tail _ (List.Mem.tail _ (List.Mem.tail _ (List.Mem.tail _ (List.Mem.head _))))))))) rfl
set_option maxRecDepth 4000 in
theorem tw736 : (Jvm.Cond.instanceMethod ({ cls := "OneBack", name := "walkTo", desc := "(IIII)Z" } : Jvm.MethodName)) ∈ GT := GT_m (ck4 (m8 (m8 (List.Mem.head _)))) rfl
set_option maxRecDepth 4000 in
theorem tw737 : (Jvm.Cond.code ({ cls := "OneBack", name := "walkTo", desc := "(IIII)Z" } : Jvm.MethodName) prog_1_method_34_code (8 : Nat) (Option.some Jvm.ClassFile.FieldType.boolean)) ∈ GT := GT_m (ck4 (m8 (m8 (List.Mem.tail _ (List.Mem.head _))))) rfl
set_option maxRecDepth 4000 in
theorem tw738 : (Jvm.Cond.methodLink "OneBack" (301 : Nat) ({ cls := "OneBack$Walk", name := "begin", desc := "(LOneBack$Town;LOneBack$Law;)V" } : Jvm.MethodName)) ∈ GT := GT_m (ck4 (m8 (m8 (List.Mem.tail _ (List.Mem.tail _ (List.Mem.head _)))))) rfl
set_option maxRecDepth 4000 in
theorem tw739 : (Jvm.Cond.instanceMethod ({ cls := "OneBack$Walk", name := "begin", desc := "(LOneBack$Town;LOneBack$Law;)V" } : Jvm.MethodName)) ∈ GT := GT_m (ck4 (m8 (m8 (List.Mem.tail _ (List.Mem.tail _ (List.Mem.tail _ (List.Mem.head _))))))) rfl
set_option maxRecDepth 4000 in
theorem tw740 : (Jvm.Cond.selects "OneBack$Walk" ({ cls := "OneBack$Walk", name := "begin", desc := "(LOneBack$Town;LOneBack$Law;)V" } : Jvm.MethodName) ({ cls := "OneBack$Walk", name := "begin", desc := "(LOneBack$Town;LOneBack$Law;)V" } : Jvm.MethodName)) ∈ GT := GT_m (ck4 (m8 (m8 (List.Mem.tail _ (List.Mem.tail _ (List.Mem.tail _ (List.Mem.tail _ (List.Mem.head _)))))))) rfl
set_option maxRecDepth 4000 in
theorem tw741 : (Jvm.Cond.code ({ cls := "OneBack$Walk", name := "begin", desc := "(LOneBack$Town;LOneBack$Law;)V" } : Jvm.MethodName) prog_11_method_2_code (3 : Nat) (Option.none : Option Jvm.ClassFile.FieldType)) ∈ GT := GT_m (ck4 (m8 (m8 (List.Mem.tail _ (List.Mem.tail _ (List.Mem.tail _ (List.Mem.tail _ (List.Mem.tail _ (List.Mem.head _))))))))) rfl
set_option maxRecDepth 4000 in
theorem tw744 : (Jvm.Cond.methodLink "OneBack" (338 : Nat) ({ cls := "OneBack$Walk", name := "follow", desc := "(LOneBack$Nights;I)V" } : Jvm.MethodName)) ∈ GT := GT_m (ck4 (m8 (m8 (m8 (List.Mem.head _))))) rfl
set_option maxRecDepth 4000 in
theorem tw745 : (Jvm.Cond.instanceMethod ({ cls := "OneBack$Walk", name := "follow", desc := "(LOneBack$Nights;I)V" } : Jvm.MethodName)) ∈ GT := GT_m (ck4 (m8 (m8 (m8 (List.Mem.tail _ (List.Mem.head _)))))) rfl
set_option maxRecDepth 4000 in
theorem tw746 : (Jvm.Cond.selects "OneBack$Walk" ({ cls := "OneBack$Walk", name := "follow", desc := "(LOneBack$Nights;I)V" } : Jvm.MethodName) ({ cls := "OneBack$Walk", name := "follow", desc := "(LOneBack$Nights;I)V" } : Jvm.MethodName)) ∈ GT := GT_m (ck4 (m8 (m8 (m8 (List.Mem.tail _ (List.Mem.tail _ (List.Mem.head _))))))) rfl
set_option maxRecDepth 4000 in
theorem tw747 : (Jvm.Cond.code ({ cls := "OneBack$Walk", name := "follow", desc := "(LOneBack$Nights;I)V" } : Jvm.MethodName) prog_11_method_3_code (4 : Nat) (Option.none : Option Jvm.ClassFile.FieldType)) ∈ GT := GT_m (ck4 (m8 (m8 (m8 (List.Mem.tail _ (List.Mem.tail _ (List.Mem.tail _ (List.Mem.head _)))))))) rfl
set_option maxRecDepth 4000 in
theorem tw748 : (Jvm.Cond.methodLink "OneBack$Walk" (82 : Nat) ({ cls := "java/lang/Math", name := "min", desc := "(II)I" } : Jvm.MethodName)) ∈ GT := GT_m (ck4 (m8 (m8 (m8 (List.Mem.tail _ (List.Mem.tail _ (List.Mem.tail _ (List.Mem.tail _ (List.Mem.head _))))))))) rfl
set_option maxRecDepth 4000 in
theorem tw749 : (Jvm.Cond.methodLink "OneBack$Walk" (88 : Nat) ({ cls := "OneBack$Walk", name := "act", desc := "(LOneBack$Nights;I)Z" } : Jvm.MethodName)) ∈ GT := GT_m (ck4 (m8 (m8 (m8 (List.Mem.tail _ (List.Mem.tail _ (List.Mem.tail _ (List.Mem.tail _ (List.Mem.tail _ (List.Mem.head _)))))))))) rfl
set_option maxRecDepth 4000 in
theorem tw751 : (Jvm.Cond.instanceMethod ({ cls := "OneBack$Walk", name := "act", desc := "(LOneBack$Nights;I)Z" } : Jvm.MethodName)) ∈ GT := GT_m (ck4 (m8 (m8 (m8 (List.Mem.tail _ (List.Mem.tail _ (List.Mem.tail _ (List.Mem.tail _ (List.Mem.tail _ (List.Mem.tail _ (List.Mem.tail _ (List.Mem.head _)))))))))))) rfl
set_option maxRecDepth 4000 in
theorem tw752 : (Jvm.Cond.code ({ cls := "OneBack$Walk", name := "act", desc := "(LOneBack$Nights;I)Z" } : Jvm.MethodName) prog_11_method_4_code (6 : Nat) (Option.some Jvm.ClassFile.FieldType.boolean)) ∈ GT := GT_m (ck4 (m8 (m8 (m8 (m8 (List.Mem.head _)))))) rfl
set_option maxRecDepth 4000 in
theorem tw753 : (Jvm.Cond.methodLink "OneBack$Walk" (104 : Nat) ({ cls := "OneBack$Walk", name := "takeOne", desc := "(III)Z" } : Jvm.MethodName)) ∈ GT := GT_m (ck4 (m8 (m8 (m8 (m8 (List.Mem.tail _ (List.Mem.head _))))))) rfl
set_option maxRecDepth 4000 in
theorem tw754 : (Jvm.Cond.instanceMethod ({ cls := "OneBack$Walk", name := "takeOne", desc := "(III)Z" } : Jvm.MethodName)) ∈ GT := GT_m (ck4 (m8 (m8 (m8 (m8 (List.Mem.tail _ (List.Mem.tail _ (List.Mem.head _)))))))) rfl
set_option maxRecDepth 4000 in
theorem tw755 : (Jvm.Cond.selects "OneBack$Walk" ({ cls := "OneBack$Walk", name := "takeOne", desc := "(III)Z" } : Jvm.MethodName) ({ cls := "OneBack$Walk", name := "takeOne", desc := "(III)Z" } : Jvm.MethodName)) ∈ GT := GT_m (ck4 (m8 (m8 (m8 (m8 (List.Mem.tail _ (List.Mem.tail _ (List.Mem.tail _ (List.Mem.head _))))))))) rfl
set_option maxRecDepth 4000 in
theorem tw756 : (Jvm.Cond.code ({ cls := "OneBack$Walk", name := "takeOne", desc := "(III)Z" } : Jvm.MethodName) prog_11_method_9_code (4 : Nat) (Option.some Jvm.ClassFile.FieldType.boolean)) ∈ GT := GT_m (ck4 (m8 (m8 (m8 (m8 (List.Mem.tail _ (List.Mem.tail _ (List.Mem.tail _ (List.Mem.tail _ (List.Mem.head _)))))))))) rfl
set_option maxRecDepth 4000 in
theorem tw757 : (Jvm.Cond.methodLink "OneBack$Walk" (139 : Nat) ({ cls := "OneBack$Walk", name := "isFree", desc := "(I)Z" } : Jvm.MethodName)) ∈ GT := GT_m (ck4 (m8 (m8 (m8 (m8 (List.Mem.tail _ (List.Mem.tail _ (List.Mem.tail _ (List.Mem.tail _ (List.Mem.tail _ (List.Mem.head _))))))))))) rfl
set_option maxRecDepth 4000 in
theorem tw758 : (Jvm.Cond.instanceMethod ({ cls := "OneBack$Walk", name := "isFree", desc := "(I)Z" } : Jvm.MethodName)) ∈ GT := GT_m (ck4 (m8 (m8 (m8 (m8 (List.Mem.tail _ (List.Mem.tail _ (List.Mem.tail _ (List.Mem.tail _ (List.Mem.tail _ (List.Mem.tail _ (List.Mem.head _)))))))))))) rfl
set_option maxRecDepth 4000 in
theorem tw759 : (Jvm.Cond.selects "OneBack$Walk" ({ cls := "OneBack$Walk", name := "isFree", desc := "(I)Z" } : Jvm.MethodName) ({ cls := "OneBack$Walk", name := "isFree", desc := "(I)Z" } : Jvm.MethodName)) ∈ GT := GT_m (ck4 (m8 (m8 (m8 (m8 (List.Mem.tail _ (List.Mem.tail _ (List.Mem.tail _ (List.Mem.tail _ (List.Mem.tail _ (List.Mem.tail _ (List.Mem.tail _ (List.Mem.head _))))))))))))) rfl
set_option maxRecDepth 4000 in
theorem tw760 : (Jvm.Cond.code ({ cls := "OneBack$Walk", name := "isFree", desc := "(I)Z" } : Jvm.MethodName) prog_11_method_5_code (2 : Nat) (Option.some Jvm.ClassFile.FieldType.boolean)) ∈ GT := GT_m (ck4 (m8 (m8 (m8 (m8 (m8 (List.Mem.head _))))))) rfl
set_option maxRecDepth 4000 in
theorem tw761 : (Jvm.Cond.methodLink "OneBack$Walk" (117 : Nat) ({ cls := "OneBack$Town", name := "isThief", desc := "(I)Z" } : Jvm.MethodName)) ∈ GT := GT_m (ck4 (m8 (m8 (m8 (m8 (m8 (List.Mem.tail _ (List.Mem.head _)))))))) rfl
set_option maxRecDepth 4000 in
theorem tw762 : (Jvm.Cond.methodLink "OneBack$Walk" (142 : Nat) ({ cls := "OneBack$Town", name := "isHouse", desc := "(I)Z" } : Jvm.MethodName)) ∈ GT := GT_m (ck4 (m8 (m8 (m8 (m8 (m8 (List.Mem.tail _ (List.Mem.tail _ (List.Mem.head _))))))))) rfl
set_option maxRecDepth 4000 in
theorem tw766 : (Jvm.Cond.static ({ cls := "OneBack", name := "cell", desc := "(III)I" } : Jvm.MethodName)) ∈ GT := GT_m (ck4 (m8 (m8 (m8 (m8 (m8 (List.Mem.tail _ (List.Mem.tail _ (List.Mem.tail _ (List.Mem.tail _ (List.Mem.tail _ (List.Mem.tail _ (List.Mem.head _))))))))))))) rfl
set_option maxRecDepth 4000 in
theorem tw767 : (Jvm.Cond.code ({ cls := "OneBack", name := "cell", desc := "(III)I" } : Jvm.MethodName) prog_1_method_38_code (3 : Nat) (Option.some Jvm.ClassFile.FieldType.int)) ∈ GT := GT_m (ck4 (m8 (m8 (m8 (m8 (m8 (List.Mem.tail _ (List.Mem.tail _ (List.Mem.tail _ (List.Mem.tail _ (List.Mem.tail _ (List.Mem.tail _ (List.Mem.tail _ (List.Mem.head _)))))))))))))) rfl
set_option maxRecDepth 4000 in
theorem tw768 : (Jvm.Cond.methodLink "OneBack$Walk" (108 : Nat) ({ cls := "OneBack$Walk", name := "giveOne", desc := "(III)Z" } : Jvm.MethodName)) ∈ GT := GT_m (ck4 (m8 (m8 (m8 (m8 (m8 (m8 (List.Mem.head _)))))))) rfl
set_option maxRecDepth 4000 in
theorem tw769 : (Jvm.Cond.instanceMethod ({ cls := "OneBack$Walk", name := "giveOne", desc := "(III)Z" } : Jvm.MethodName)) ∈ GT := GT_m (ck4 (m8 (m8 (m8 (m8 (m8 (m8 (List.Mem.tail _ (List.Mem.head _))))))))) rfl
set_option maxRecDepth 4000 in
theorem tw770 : (Jvm.Cond.selects "OneBack$Walk" ({ cls := "OneBack$Walk", name := "giveOne", desc := "(III)Z" } : Jvm.MethodName) ({ cls := "OneBack$Walk", name := "giveOne", desc := "(III)Z" } : Jvm.MethodName)) ∈ GT := GT_m (ck4 (m8 (m8 (m8 (m8 (m8 (m8 (List.Mem.tail _ (List.Mem.tail _ (List.Mem.head _)))))))))) rfl
set_option maxRecDepth 4000 in
theorem tw771 : (Jvm.Cond.code ({ cls := "OneBack$Walk", name := "giveOne", desc := "(III)Z" } : Jvm.MethodName) prog_11_method_10_code (4 : Nat) (Option.some Jvm.ClassFile.FieldType.boolean)) ∈ GT := GT_m (ck4 (m8 (m8 (m8 (m8 (m8 (m8 (List.Mem.tail _ (List.Mem.tail _ (List.Mem.tail _ (List.Mem.head _))))))))))) rfl
set_option maxRecDepth 4000 in
theorem tw772 : (Jvm.Cond.methodLink "OneBack$Walk" (151 : Nat) ({ cls := "OneBack$Walk", name := "takesGift", desc := "(III)Z" } : Jvm.MethodName)) ∈ GT := GT_m (ck4 (m8 (m8 (m8 (m8 (m8 (m8 (List.Mem.tail _ (List.Mem.tail _ (List.Mem.tail _ (List.Mem.tail _ (List.Mem.head _)))))))))))) rfl
set_option maxRecDepth 4000 in
theorem tw773 : (Jvm.Cond.instanceMethod ({ cls := "OneBack$Walk", name := "takesGift", desc := "(III)Z" } : Jvm.MethodName)) ∈ GT := GT_m (ck4 (m8 (m8 (m8 (m8 (m8 (m8 (List.Mem.tail _ (List.Mem.tail _ (List.Mem.tail _ (List.Mem.tail _ (List.Mem.tail _ (List.Mem.head _))))))))))))) rfl
set_option maxRecDepth 4000 in
theorem tw774 : (Jvm.Cond.selects "OneBack$Walk" ({ cls := "OneBack$Walk", name := "takesGift", desc := "(III)Z" } : Jvm.MethodName) ({ cls := "OneBack$Walk", name := "takesGift", desc := "(III)Z" } : Jvm.MethodName)) ∈ GT := GT_m (ck4 (m8 (m8 (m8 (m8 (m8 (m8 (List.Mem.tail _ (List.Mem.tail _ (List.Mem.tail _ (List.Mem.tail _ (List.Mem.tail _ (List.Mem.tail _ (List.Mem.head _)))))))))))))) rfl
set_option maxRecDepth 4000 in
theorem tw775 : (Jvm.Cond.code ({ cls := "OneBack$Walk", name := "takesGift", desc := "(III)Z" } : Jvm.MethodName) prog_11_method_8_code (5 : Nat) (Option.some Jvm.ClassFile.FieldType.boolean)) ∈ GT := GT_m (ck4 (m8 (m8 (m8 (m8 (m8 (m8 (List.Mem.tail _ (List.Mem.tail _ (List.Mem.tail _ (List.Mem.tail _ (List.Mem.tail _ (List.Mem.tail _ (List.Mem.tail _ (List.Mem.head _))))))))))))))) rfl
set_option maxRecDepth 4000 in
theorem tw776 : (Jvm.Cond.methodLink "OneBack$Walk" (154 : Nat) ({ cls := "OneBack$Law", name := "counts", desc := "(I)I" } : Jvm.MethodName)) ∈ GT := GT_m (ck4 (m8 (m8 (m8 (m8 (m8 (m8 (m8 (List.Mem.head _))))))))) rfl
set_option maxRecDepth 4000 in
theorem tw777 : (Jvm.Cond.methodLink "OneBack$Walk" (111 : Nat) ({ cls := "OneBack$Walk", name := "setOff", desc := "(III)Z" } : Jvm.MethodName)) ∈ GT := GT_m (ck4 (m8 (m8 (m8 (m8 (m8 (m8 (m8 (List.Mem.tail _ (List.Mem.head _)))))))))) rfl
set_option maxRecDepth 4000 in
theorem tw778 : (Jvm.Cond.instanceMethod ({ cls := "OneBack$Walk", name := "setOff", desc := "(III)Z" } : Jvm.MethodName)) ∈ GT := GT_m (ck4 (m8 (m8 (m8 (m8 (m8 (m8 (m8 (List.Mem.tail _ (List.Mem.tail _ (List.Mem.head _))))))))))) rfl
set_option maxRecDepth 4000 in
theorem tw779 : (Jvm.Cond.selects "OneBack$Walk" ({ cls := "OneBack$Walk", name := "setOff", desc := "(III)Z" } : Jvm.MethodName) ({ cls := "OneBack$Walk", name := "setOff", desc := "(III)Z" } : Jvm.MethodName)) ∈ GT := GT_m (ck4 (m8 (m8 (m8 (m8 (m8 (m8 (m8 (List.Mem.tail _ (List.Mem.tail _ (List.Mem.tail _ (List.Mem.head _)))))))))))) rfl
set_option maxRecDepth 4000 in
theorem tw780 : (Jvm.Cond.code ({ cls := "OneBack$Walk", name := "setOff", desc := "(III)Z" } : Jvm.MethodName) prog_11_method_11_code (4 : Nat) (Option.some Jvm.ClassFile.FieldType.boolean)) ∈ GT := GT_m (ck4 (m8 (m8 (m8 (m8 (m8 (m8 (m8 (List.Mem.tail _ (List.Mem.tail _ (List.Mem.tail _ (List.Mem.tail _ (List.Mem.head _))))))))))))) rfl
set_option maxRecDepth 4000 in
theorem tw781 : (Jvm.Cond.methodLink "OneBack$Walk" (160 : Nat) ({ cls := "OneBack$Town", name := "areKin", desc := "(II)Z" } : Jvm.MethodName)) ∈ GT := GT_m (ck4 (m8 (m8 (m8 (m8 (m8 (m8 (m8 (List.Mem.tail _ (List.Mem.tail _ (List.Mem.tail _ (List.Mem.tail _ (List.Mem.tail _ (List.Mem.head _)))))))))))))) rfl
set_option maxRecDepth 4000 in
theorem tw782 : (Jvm.Cond.instanceMethod ({ cls := "OneBack$Town", name := "areKin", desc := "(II)Z" } : Jvm.MethodName)) ∈ GT := GT_m (ck4 (m8 (m8 (m8 (m8 (m8 (m8 (m8 (List.Mem.tail _ (List.Mem.tail _ (List.Mem.tail _ (List.Mem.tail _ (List.Mem.tail _ (List.Mem.tail _ (List.Mem.head _))))))))))))))) rfl
set_option maxRecDepth 4000 in
theorem tw783 : (Jvm.Cond.selects "OneBack$Town" ({ cls := "OneBack$Town", name := "areKin", desc := "(II)Z" } : Jvm.MethodName) ({ cls := "OneBack$Town", name := "areKin", desc := "(II)Z" } : Jvm.MethodName)) ∈ GT := GT_m (ck4 (m8 (m8 (m8 (m8 (m8 (m8 (m8 (List.Mem.tail _ (List.Mem.tail _ (List.Mem.tail _ (List.Mem.tail _ (List.Mem.tail _ (List.Mem.tail _ (List.Mem.tail _ (List.Mem.head _)))))))))))))))) rfl
set_option maxRecDepth 4000 in
theorem tw784 : (Jvm.Cond.code ({ cls := "OneBack$Town", name := "areKin", desc := "(II)Z" } : Jvm.MethodName) prog_9_method_7_code (3 : Nat) (Option.some Jvm.ClassFile.FieldType.boolean)) ∈ GT := GT_m (ck4 (m8 (m8 (m8 (m8 (m8 (m8 (m8 (m8 (List.Mem.head _)))))))))) rfl
set_option maxRecDepth 4000 in
theorem tw785 : (Jvm.Cond.methodLink "OneBack$Walk" (164 : Nat) ({ cls := "OneBack$Walk", name := "owesOf", desc := "(I)I" } : Jvm.MethodName)) ∈ GT := GT_m (ck4 (m8 (m8 (m8 (m8 (m8 (m8 (m8 (m8 (List.Mem.tail _ (List.Mem.head _))))))))))) rfl
set_option maxRecDepth 4000 in
theorem tw786 : (Jvm.Cond.instanceMethod ({ cls := "OneBack$Walk", name := "owesOf", desc := "(I)I" } : Jvm.MethodName)) ∈ GT := GT_m (ck4 (m8 (m8 (m8 (m8 (m8 (m8 (m8 (m8 (List.Mem.tail _ (List.Mem.tail _ (List.Mem.head _)))))))))))) rfl
set_option maxRecDepth 4000 in
theorem tw787 : (Jvm.Cond.selects "OneBack$Walk" ({ cls := "OneBack$Walk", name := "owesOf", desc := "(I)I" } : Jvm.MethodName) ({ cls := "OneBack$Walk", name := "owesOf", desc := "(I)I" } : Jvm.MethodName)) ∈ GT := GT_m (ck4 (m8 (m8 (m8 (m8 (m8 (m8 (m8 (m8 (List.Mem.tail _ (List.Mem.tail _ (List.Mem.tail _ (List.Mem.head _))))))))))))) rfl
set_option maxRecDepth 4000 in
theorem tw788 : (Jvm.Cond.code ({ cls := "OneBack$Walk", name := "owesOf", desc := "(I)I" } : Jvm.MethodName) prog_11_method_6_code (2 : Nat) (Option.some Jvm.ClassFile.FieldType.int)) ∈ GT := GT_m (ck4 (m8 (m8 (m8 (m8 (m8 (m8 (m8 (m8 (List.Mem.tail _ (List.Mem.tail _ (List.Mem.tail _ (List.Mem.tail _ (List.Mem.head _)))))))))))))) rfl
set_option maxRecDepth 4000 in
theorem tw789 : (Jvm.Cond.methodLink "OneBack$Walk" (121 : Nat) ({ cls := "OneBack$Law", name := "dueOf", desc := "(I)I" } : Jvm.MethodName)) ∈ GT := GT_m (ck4 (m8 (m8 (m8 (m8 (m8 (m8 (m8 (m8 (List.Mem.tail _ (List.Mem.tail _ (List.Mem.tail _ (List.Mem.tail _ (List.Mem.tail _ (List.Mem.head _))))))))))))))) rfl
set_option maxRecDepth 4000 in
theorem tw790 : (Jvm.Cond.instanceMethod ({ cls := "OneBack$Law", name := "dueOf", desc := "(I)I" } : Jvm.MethodName)) ∈ GT := GT_m (ck4 (m8 (m8 (m8 (m8 (m8 (m8 (m8 (m8 (List.Mem.tail _ (List.Mem.tail _ (List.Mem.tail _ (List.Mem.tail _ (List.Mem.tail _ (List.Mem.tail _ (List.Mem.head _)))))))))))))))) rfl
set_option maxRecDepth 4000 in
theorem tw791 : (Jvm.Cond.selects "OneBack$Law" ({ cls := "OneBack$Law", name := "dueOf", desc := "(I)I" } : Jvm.MethodName) ({ cls := "OneBack$Law", name := "dueOf", desc := "(I)I" } : Jvm.MethodName)) ∈ GT := GT_m (ck4 (m8 (m8 (m8 (m8 (m8 (m8 (m8 (m8 (List.Mem.tail _ (List.Mem.tail _ (List.Mem.tail _ (List.Mem.tail _ (List.Mem.tail _ (List.Mem.tail _ (List.Mem.tail _ (List.Mem.head _))))))))))))))))) rfl
set_option maxRecDepth 4000 in
theorem tw792 : (Jvm.Cond.code ({ cls := "OneBack$Law", name := "dueOf", desc := "(I)I" } : Jvm.MethodName) prog_2_method_5_code (2 : Nat) (Option.some Jvm.ClassFile.FieldType.int)) ∈ GT := GT_m (ck4 (m8 (m8 (m8 (m8 (m8 (m8 (m8 (m8 (m8 (List.Mem.head _))))))))))) rfl
set_option maxRecDepth 4000 in
theorem tw793 : (Jvm.Cond.methodLink "OneBack$Walk" (114 : Nat) ({ cls := "OneBack$Walk", name := "nightEnds", desc := "()V" } : Jvm.MethodName)) ∈ GT := GT_m (ck4 (m8 (m8 (m8 (m8 (m8 (m8 (m8 (m8 (m8 (List.Mem.tail _ (List.Mem.head _)))))))))))) rfl
set_option maxRecDepth 4000 in
theorem tw794 : (Jvm.Cond.instanceMethod ({ cls := "OneBack$Walk", name := "nightEnds", desc := "()V" } : Jvm.MethodName)) ∈ GT := GT_m (ck4 (m8 (m8 (m8 (m8 (m8 (m8 (m8 (m8 (m8 (List.Mem.tail _ (List.Mem.tail _ (List.Mem.head _))))))))))))) rfl
set_option maxRecDepth 4000 in
theorem tw795 : (Jvm.Cond.selects "OneBack$Walk" ({ cls := "OneBack$Walk", name := "nightEnds", desc := "()V" } : Jvm.MethodName) ({ cls := "OneBack$Walk", name := "nightEnds", desc := "()V" } : Jvm.MethodName)) ∈ GT := GT_m (ck4 (m8 (m8 (m8 (m8 (m8 (m8 (m8 (m8 (m8 (List.Mem.tail _ (List.Mem.tail _ (List.Mem.tail _ (List.Mem.head _)))))))))))))) rfl
set_option maxRecDepth 4000 in
theorem tw796 : (Jvm.Cond.code ({ cls := "OneBack$Walk", name := "nightEnds", desc := "()V" } : Jvm.MethodName) prog_11_method_12_code (2 : Nat) (Option.none : Option Jvm.ClassFile.FieldType)) ∈ GT := GT_m (ck4 (m8 (m8 (m8 (m8 (m8 (m8 (m8 (m8 (m8 (List.Mem.tail _ (List.Mem.tail _ (List.Mem.tail _ (List.Mem.tail _ (List.Mem.head _))))))))))))))) rfl
set_option maxRecDepth 4000 in
theorem tw797 : (Jvm.Cond.methodLink "OneBackLaw" (54 : Nat) ({ cls := "OneBack", name := "state", desc := "(IIIII)I" } : Jvm.MethodName)) ∈ GT := GT_m (ck4 (m8 (m8 (m8 (m8 (m8 (m8 (m8 (m8 (m8 (List.Mem.tail _ (List.Mem.tail _ (List.Mem.tail _ (List.Mem.tail _ (List.Mem.tail _ (List.Mem.head _)))))))))))))))) rfl
set_option maxRecDepth 4000 in
theorem tw798 : (Jvm.Cond.instanceMethod ({ cls := "OneBack", name := "state", desc := "(IIIII)I" } : Jvm.MethodName)) ∈ GT := GT_m (ck4 (m8 (m8 (m8 (m8 (m8 (m8 (m8 (m8 (m8 (List.Mem.tail _ (List.Mem.tail _ (List.Mem.tail _ (List.Mem.tail _ (List.Mem.tail _ (List.Mem.tail _ (List.Mem.head _))))))))))))))))) rfl
set_option maxRecDepth 4000 in
theorem tw799 : (Jvm.Cond.selects "OneBack" ({ cls := "OneBack", name := "state", desc := "(IIIII)I" } : Jvm.MethodName) ({ cls := "OneBack", name := "state", desc := "(IIIII)I" } : Jvm.MethodName)) ∈ GT := GT_m (ck4 (m8 (m8 (m8 (m8 (m8 (m8 (m8 (m8 (m8 (List.Mem.tail _ (List.Mem.tail _ (List.Mem.tail _ (List.Mem.tail _ (List.Mem.tail _ (List.Mem.tail _ (List.Mem.tail _ (List.Mem.head _)))))))))))))))))) rfl
set_option maxRecDepth 4000 in
theorem tw800 : (Jvm.Cond.code ({ cls := "OneBack", name := "state", desc := "(IIIII)I" } : Jvm.MethodName) prog_1_method_11_code (6 : Nat) (Option.some Jvm.ClassFile.FieldType.int)) ∈ GT := GT_m (ck4 (m8 (m8 (m8 (m8 (m8 (m8 (m8 (m8 (m8 (m8 (List.Mem.head _)))))))))))) rfl
set_option maxRecDepth 4000 in
theorem tw801 : (Jvm.Cond.methodLink "OneBack" (192 : Nat) ({ cls := "OneBack", name := "walkJust", desc := "(IIII)Z" } : Jvm.MethodName)) ∈ GT := GT_m (ck4 (m8 (m8 (m8 (m8 (m8 (m8 (m8 (m8 (m8 (m8 (List.Mem.tail _ (List.Mem.head _))))))))))))) rfl
set_option maxRecDepth 4000 in
theorem tw803 : (Jvm.Cond.instanceMethod ({ cls := "OneBack", name := "walkJust", desc := "(IIII)Z" } : Jvm.MethodName)) ∈ GT := GT_m (ck4 (m8 (m8 (m8 (m8 (m8 (m8 (m8 (m8 (m8 (m8 (List.Mem.tail _ (List.Mem.tail _ (List.Mem.tail _ (List.Mem.head _))))))))))))))) rfl
set_option maxRecDepth 4000 in
theorem tw804 : (Jvm.Cond.code ({ cls := "OneBack", name := "walkJust", desc := "(IIII)Z" } : Jvm.MethodName) prog_1_method_35_code (5 : Nat) (Option.some Jvm.ClassFile.FieldType.boolean)) ∈ GT := GT_m (ck4 (m8 (m8 (m8 (m8 (m8 (m8 (m8 (m8 (m8 (m8 (List.Mem.tail _ (List.Mem.tail _ (List.Mem.tail _ (List.Mem.tail _ (List.Mem.head _)))))))))))))))) rfl
set_option maxRecDepth 4000 in
theorem tw805 : (Jvm.Cond.methodLink "OneBack" (198 : Nat) ({ cls := "OneBack$Views", name := "queued", desc := "(LOneBack$Walk;I)I" } : Jvm.MethodName)) ∈ GT := GT_m (ck4 (m8 (m8 (m8 (m8 (m8 (m8 (m8 (m8 (m8 (m8 (List.Mem.tail _ (List.Mem.tail _ (List.Mem.tail _ (List.Mem.tail _ (List.Mem.tail _ (List.Mem.head _))))))))))))))))) rfl
set_option maxRecDepth 4000 in
theorem tw806 : (Jvm.Cond.static ({ cls := "OneBack$Views", name := "queued", desc := "(LOneBack$Walk;I)I" } : Jvm.MethodName)) ∈ GT := GT_m (ck4 (m8 (m8 (m8 (m8 (m8 (m8 (m8 (m8 (m8 (m8 (List.Mem.tail _ (List.Mem.tail _ (List.Mem.tail _ (List.Mem.tail _ (List.Mem.tail _ (List.Mem.tail _ (List.Mem.head _)))))))))))))))))) rfl
set_option maxRecDepth 4000 in
theorem tw807 : (Jvm.Cond.code ({ cls := "OneBack$Views", name := "queued", desc := "(LOneBack$Walk;I)I" } : Jvm.MethodName) prog_10_method_8_code (3 : Nat) (Option.some Jvm.ClassFile.FieldType.int)) ∈ GT := GT_m (ck4 (m8 (m8 (m8 (m8 (m8 (m8 (m8 (m8 (m8 (m8 (List.Mem.tail _ (List.Mem.tail _ (List.Mem.tail _ (List.Mem.tail _ (List.Mem.tail _ (List.Mem.tail _ (List.Mem.tail _ (List.Mem.head _))))))))))))))))))) rfl
set_option maxRecDepth 4000 in
theorem tw808 : (Jvm.Cond.methodLink "OneBack$Views" (79 : Nat) ({ cls := "OneBack$Views", name := "isOdd", desc := "(LOneBack$Walk;I)Z" } : Jvm.MethodName)) ∈ GT := GT_m (ck4 (m8 (m8 (m8 (m8 (m8 (m8 (m8 (m8 (m8 (m8 (m8 (List.Mem.head _))))))))))))) rfl
set_option maxRecDepth 4000 in
theorem tw809 : (Jvm.Cond.static ({ cls := "OneBack$Views", name := "isOdd", desc := "(LOneBack$Walk;I)Z" } : Jvm.MethodName)) ∈ GT := GT_m (ck4 (m8 (m8 (m8 (m8 (m8 (m8 (m8 (m8 (m8 (m8 (m8 (List.Mem.tail _ (List.Mem.head _)))))))))))))) rfl
set_option maxRecDepth 4000 in
theorem tw810 : (Jvm.Cond.code ({ cls := "OneBack$Views", name := "isOdd", desc := "(LOneBack$Walk;I)Z" } : Jvm.MethodName) prog_10_method_9_code (2 : Nat) (Option.some Jvm.ClassFile.FieldType.boolean)) ∈ GT := GT_m (ck4 (m8 (m8 (m8 (m8 (m8 (m8 (m8 (m8 (m8 (m8 (m8 (List.Mem.tail _ (List.Mem.tail _ (List.Mem.head _))))))))))))))) rfl
set_option maxRecDepth 4000 in
theorem tw811 : (Jvm.Cond.methodLink "OneBack$Views" (90 : Nat) ({ cls := "OneBack$Law", name := "oddOf", desc := "(I)I" } : Jvm.MethodName)) ∈ GT := GT_m (ck4 (m8 (m8 (m8 (m8 (m8 (m8 (m8 (m8 (m8 (m8 (m8 (List.Mem.tail _ (List.Mem.tail _ (List.Mem.tail _ (List.Mem.head _)))))))))))))))) rfl
set_option maxRecDepth 4000 in
theorem tw812 : (Jvm.Cond.instanceMethod ({ cls := "OneBack$Law", name := "oddOf", desc := "(I)I" } : Jvm.MethodName)) ∈ GT := GT_m (ck4 (m8 (m8 (m8 (m8 (m8 (m8 (m8 (m8 (m8 (m8 (m8 (List.Mem.tail _ (List.Mem.tail _ (List.Mem.tail _ (List.Mem.tail _ (List.Mem.head _))))))))))))))))) rfl
set_option maxRecDepth 4000 in
theorem tw813 : (Jvm.Cond.selects "OneBack$Law" ({ cls := "OneBack$Law", name := "oddOf", desc := "(I)I" } : Jvm.MethodName) ({ cls := "OneBack$Law", name := "oddOf", desc := "(I)I" } : Jvm.MethodName)) ∈ GT := GT_m (ck4 (m8 (m8 (m8 (m8 (m8 (m8 (m8 (m8 (m8 (m8 (m8 (List.Mem.tail _ (List.Mem.tail _ (List.Mem.tail _ (List.Mem.tail _ (List.Mem.tail _ (List.Mem.head _)))))))))))))))))) rfl
set_option maxRecDepth 4000 in
theorem tw814 : (Jvm.Cond.code ({ cls := "OneBack$Law", name := "oddOf", desc := "(I)I" } : Jvm.MethodName) prog_2_method_6_code (2 : Nat) (Option.some Jvm.ClassFile.FieldType.int)) ∈ GT := GT_m (ck4 (m8 (m8 (m8 (m8 (m8 (m8 (m8 (m8 (m8 (m8 (m8 (List.Mem.tail _ (List.Mem.tail _ (List.Mem.tail _ (List.Mem.tail _ (List.Mem.tail _ (List.Mem.tail _ (List.Mem.head _))))))))))))))))))) rfl
set_option maxRecDepth 4000 in
theorem tw815 : (Jvm.Cond.methodLink "OneBack$Views" (83 : Nat) ({ cls := "OneBack$Views", name := "placeInQueue", desc := "(LOneBack$Walk;I)I" } : Jvm.MethodName)) ∈ GT := GT_m (ck4 (m8 (m8 (m8 (m8 (m8 (m8 (m8 (m8 (m8 (m8 (m8 (List.Mem.tail _ (List.Mem.tail _ (List.Mem.tail _ (List.Mem.tail _ (List.Mem.tail _ (List.Mem.tail _ (List.Mem.tail _ (List.Mem.head _)))))))))))))))))))) rfl
set_option maxRecDepth 4000 in
theorem tw816 : (Jvm.Cond.static ({ cls := "OneBack$Views", name := "placeInQueue", desc := "(LOneBack$Walk;I)I" } : Jvm.MethodName)) ∈ GT := GT_m (ck4 (m8 (m8 (m8 (m8 (m8 (m8 (m8 (m8 (m8 (m8 (m8 (m8 (List.Mem.head _)))))))))))))) rfl
set_option maxRecDepth 4000 in
theorem tw817 : (Jvm.Cond.code ({ cls := "OneBack$Views", name := "placeInQueue", desc := "(LOneBack$Walk;I)I" } : Jvm.MethodName) prog_10_method_10_code (4 : Nat) (Option.some Jvm.ClassFile.FieldType.int)) ∈ GT := GT_m (ck4 (m8 (m8 (m8 (m8 (m8 (m8 (m8 (m8 (m8 (m8 (m8 (m8 (List.Mem.tail _ (List.Mem.head _))))))))))))))) rfl
set_option maxRecDepth 4000 in
theorem tw818 : (Jvm.Cond.methodLink "OneBack" (204 : Nat) ({ cls := "OneBack$Views", name := "seen", desc := "(LOneBack$Walk;I)I" } : Jvm.MethodName)) ∈ GT := GT_m (ck4 (m8 (m8 (m8 (m8 (m8 (m8 (m8 (m8 (m8 (m8 (m8 (m8 (List.Mem.tail _ (List.Mem.tail _ (List.Mem.head _)))))))))))))))) rfl
set_option maxRecDepth 4000 in
theorem tw819 : (Jvm.Cond.static ({ cls := "OneBack$Views", name := "seen", desc := "(LOneBack$Walk;I)I" } : Jvm.MethodName)) ∈ GT := GT_m (ck4 (m8 (m8 (m8 (m8 (m8 (m8 (m8 (m8 (m8 (m8 (m8 (m8 (List.Mem.tail _ (List.Mem.tail _ (List.Mem.tail _ (List.Mem.head _))))))))))))))))) rfl
set_option maxRecDepth 4000 in
theorem tw820 : (Jvm.Cond.code ({ cls := "OneBack$Views", name := "seen", desc := "(LOneBack$Walk;I)I" } : Jvm.MethodName) prog_10_method_2_code (2 : Nat) (Option.some Jvm.ClassFile.FieldType.int)) ∈ GT := GT_m (ck4 (m8 (m8 (m8 (m8 (m8 (m8 (m8 (m8 (m8 (m8 (m8 (m8 (List.Mem.tail _ (List.Mem.tail _ (List.Mem.tail _ (List.Mem.tail _ (List.Mem.head _)))))))))))))))))) rfl
set_option maxRecDepth 4000 in
theorem tw821 : (Jvm.Cond.methodLink "OneBack$Views" (9 : Nat) ({ cls := "OneBack$Views", name := "want", desc := "(LOneBack$Walk;)I" } : Jvm.MethodName)) ∈ GT := GT_m (ck4 (m8 (m8 (m8 (m8 (m8 (m8 (m8 (m8 (m8 (m8 (m8 (m8 (List.Mem.tail _ (List.Mem.tail _ (List.Mem.tail _ (List.Mem.tail _ (List.Mem.tail _ (List.Mem.head _))))))))))))))))))) rfl
set_option maxRecDepth 4000 in
theorem tw822 : (Jvm.Cond.static ({ cls := "OneBack$Views", name := "want", desc := "(LOneBack$Walk;)I" } : Jvm.MethodName)) ∈ GT := GT_m (ck4 (m8 (m8 (m8 (m8 (m8 (m8 (m8 (m8 (m8 (m8 (m8 (m8 (List.Mem.tail _ (List.Mem.tail _ (List.Mem.tail _ (List.Mem.tail _ (List.Mem.tail _ (List.Mem.tail _ (List.Mem.head _)))))))))))))))))))) rfl
set_option maxRecDepth 4000 in
theorem tw823 : (Jvm.Cond.code ({ cls := "OneBack$Views", name := "want", desc := "(LOneBack$Walk;)I" } : Jvm.MethodName) prog_10_method_4_code (4 : Nat) (Option.some Jvm.ClassFile.FieldType.int)) ∈ GT := GT_m (ck4 (m8 (m8 (m8 (m8 (m8 (m8 (m8 (m8 (m8 (m8 (m8 (m8 (List.Mem.tail _ (List.Mem.tail _ (List.Mem.tail _ (List.Mem.tail _ (List.Mem.tail _ (List.Mem.tail _ (List.Mem.tail _ (List.Mem.head _))))))))))))))))))))) rfl
set_option maxRecDepth 4000 in
theorem tw824 : (Jvm.Cond.methodLink "OneBack$Views" (62 : Nat) ({ cls := "OneBack$Walk", name := "lackOf", desc := "(II)I" } : Jvm.MethodName)) ∈ GT := GT_m (ck4 (m8 (m8 (m8 (m8 (m8 (m8 (m8 (m8 (m8 (m8 (m8 (m8 (m8 (List.Mem.head _))))))))))))))) rfl
set_option maxRecDepth 4000 in
theorem tw825 : (Jvm.Cond.instanceMethod ({ cls := "OneBack$Walk", name := "lackOf", desc := "(II)I" } : Jvm.MethodName)) ∈ GT := GT_m (ck4 (m8 (m8 (m8 (m8 (m8 (m8 (m8 (m8 (m8 (m8 (m8 (m8 (m8 (List.Mem.tail _ (List.Mem.head _)))))))))))))))) rfl
set_option maxRecDepth 4000 in
theorem tw826 : (Jvm.Cond.selects "OneBack$Walk" ({ cls := "OneBack$Walk", name := "lackOf", desc := "(II)I" } : Jvm.MethodName) ({ cls := "OneBack$Walk", name := "lackOf", desc := "(II)I" } : Jvm.MethodName)) ∈ GT := GT_m (ck4 (m8 (m8 (m8 (m8 (m8 (m8 (m8 (m8 (m8 (m8 (m8 (m8 (m8 (List.Mem.tail _ (List.Mem.tail _ (List.Mem.head _))))))))))))))))) rfl
set_option maxRecDepth 4000 in
theorem tw827 : (Jvm.Cond.code ({ cls := "OneBack$Walk", name := "lackOf", desc := "(II)I" } : Jvm.MethodName) prog_11_method_7_code (3 : Nat) (Option.some Jvm.ClassFile.FieldType.int)) ∈ GT := GT_m (ck4 (m8 (m8 (m8 (m8 (m8 (m8 (m8 (m8 (m8 (m8 (m8 (m8 (m8 (List.Mem.tail _ (List.Mem.tail _ (List.Mem.tail _ (List.Mem.head _)))))))))))))))))) rfl
set_option maxRecDepth 4000 in
theorem tw828 : (Jvm.Cond.methodLink "OneBack$Walk" (133 : Nat) ({ cls := "java/lang/Math", name := "max", desc := "(II)I" } : Jvm.MethodName)) ∈ GT := GT_m (ck4 (m8 (m8 (m8 (m8 (m8 (m8 (m8 (m8 (m8 (m8 (m8 (m8 (m8 (List.Mem.tail _ (List.Mem.tail _ (List.Mem.tail _ (List.Mem.tail _ (List.Mem.head _))))))))))))))))))) rfl
set_option maxRecDepth 4000 in
theorem tw829 : (Jvm.Cond.methodLink "OneBack$Views" (21 : Nat) ({ cls := "OneBack$Views", name := "pious", desc := "(LOneBack$Walk;)I" } : Jvm.MethodName)) ∈ GT := GT_m (ck4 (m8 (m8 (m8 (m8 (m8 (m8 (m8 (m8 (m8 (m8 (m8 (m8 (m8 (List.Mem.tail _ (List.Mem.tail _ (List.Mem.tail _ (List.Mem.tail _ (List.Mem.tail _ (List.Mem.head _)))))))))))))))))))) rfl
set_option maxRecDepth 4000 in
theorem tw830 : (Jvm.Cond.static ({ cls := "OneBack$Views", name := "pious", desc := "(LOneBack$Walk;)I" } : Jvm.MethodName)) ∈ GT := GT_m (ck4 (m8 (m8 (m8 (m8 (m8 (m8 (m8 (m8 (m8 (m8 (m8 (m8 (m8 (List.Mem.tail _ (List.Mem.tail _ (List.Mem.tail _ (List.Mem.tail _ (List.Mem.tail _ (List.Mem.tail _ (List.Mem.head _))))))))))))))))))))) rfl
set_option maxRecDepth 4000 in
theorem tw831 : (Jvm.Cond.code ({ cls := "OneBack$Views", name := "pious", desc := "(LOneBack$Walk;)I" } : Jvm.MethodName) prog_10_method_5_code (3 : Nat) (Option.some Jvm.ClassFile.FieldType.int)) ∈ GT := GT_m (ck4 (m8 (m8 (m8 (m8 (m8 (m8 (m8 (m8 (m8 (m8 (m8 (m8 (m8 (List.Mem.tail _ (List.Mem.tail _ (List.Mem.tail _ (List.Mem.tail _ (List.Mem.tail _ (List.Mem.tail _ (List.Mem.tail _ (List.Mem.head _)))))))))))))))))))))) rfl
set_option maxRecDepth 4000 in
theorem tw832 : (Jvm.Cond.methodLink "OneBack$Views" (52 : Nat) ({ cls := "OneBack$Walk", name := "owesOf", desc := "(I)I" } : Jvm.MethodName)) ∈ GT := GT_m (ck4 (m8 (m8 (m8 (m8 (m8 (m8 (m8 (m8 (m8 (m8 (m8 (m8 (m8 (m8 (List.Mem.head _)))))))))))))))) rfl
set_option maxRecDepth 4000 in
theorem tw833 : (Jvm.Cond.methodLink "OneBack$Views" (24 : Nat) ({ cls := "OneBack$Views", name := "seenOf", desc := "(LOneBack$Walk;II)I" } : Jvm.MethodName)) ∈ GT := GT_m (ck4 (m8 (m8 (m8 (m8 (m8 (m8 (m8 (m8 (m8 (m8 (m8 (m8 (m8 (m8 (List.Mem.tail _ (List.Mem.head _))))))))))))))))) rfl
set_option maxRecDepth 4000 in
theorem tw834 : (Jvm.Cond.static ({ cls := "OneBack$Views", name := "seenOf", desc := "(LOneBack$Walk;II)I" } : Jvm.MethodName)) ∈ GT := GT_m (ck4 (m8 (m8 (m8 (m8 (m8 (m8 (m8 (m8 (m8 (m8 (m8 (m8 (m8 (m8 (List.Mem.tail _ (List.Mem.tail _ (List.Mem.head _)))))))))))))))))) rfl
set_option maxRecDepth 4000 in
theorem tw835 : (Jvm.Cond.code ({ cls := "OneBack$Views", name := "seenOf", desc := "(LOneBack$Walk;II)I" } : Jvm.MethodName) prog_10_method_3_code (3 : Nat) (Option.some Jvm.ClassFile.FieldType.int)) ∈ GT := GT_m (ck4 (m8 (m8 (m8 (m8 (m8 (m8 (m8 (m8 (m8 (m8 (m8 (m8 (m8 (m8 (List.Mem.tail _ (List.Mem.tail _ (List.Mem.tail _ (List.Mem.head _))))))))))))))))))) rfl
set_option maxRecDepth 4000 in
theorem tw836 : (Jvm.Cond.methodLink "OneBack$Views" (32 : Nat) ({ cls := "OneBack$Town", name := "isHouse", desc := "(I)Z" } : Jvm.MethodName)) ∈ GT := GT_m (ck4 (m8 (m8 (m8 (m8 (m8 (m8 (m8 (m8 (m8 (m8 (m8 (m8 (m8 (m8 (List.Mem.tail _ (List.Mem.tail _ (List.Mem.tail _ (List.Mem.tail _ (List.Mem.head _)))))))))))))))))))) rfl
set_option maxRecDepth 4000 in
theorem tw837 : (Jvm.Cond.methodLink "OneBack$Views" (38 : Nat) ({ cls := "OneBack$Views", name := "lost", desc := "(LOneBack$Walk;I)I" } : Jvm.MethodName)) ∈ GT := GT_m (ck4 (m8 (m8 (m8 (m8 (m8 (m8 (m8 (m8 (m8 (m8 (m8 (m8 (m8 (m8 (List.Mem.tail _ (List.Mem.tail _ (List.Mem.tail _ (List.Mem.tail _ (List.Mem.tail _ (List.Mem.head _))))))))))))))))))))) rfl
set_option maxRecDepth 4000 in
theorem tw838 : (Jvm.Cond.static ({ cls := "OneBack$Views", name := "lost", desc := "(LOneBack$Walk;I)I" } : Jvm.MethodName)) ∈ GT := GT_m (ck4 (m8 (m8 (m8 (m8 (m8 (m8 (m8 (m8 (m8 (m8 (m8 (m8 (m8 (m8 (List.Mem.tail _ (List.Mem.tail _ (List.Mem.tail _ (List.Mem.tail _ (List.Mem.tail _ (List.Mem.tail _ (List.Mem.head _)))))))))))))))))))))) rfl
set_option maxRecDepth 4000 in
theorem tw839 : (Jvm.Cond.code ({ cls := "OneBack$Views", name := "lost", desc := "(LOneBack$Walk;I)I" } : Jvm.MethodName) prog_10_method_6_code (4 : Nat) (Option.some Jvm.ClassFile.FieldType.int)) ∈ GT := GT_m (ck4 (m8 (m8 (m8 (m8 (m8 (m8 (m8 (m8 (m8 (m8 (m8 (m8 (m8 (m8 (List.Mem.tail _ (List.Mem.tail _ (List.Mem.tail _ (List.Mem.tail _ (List.Mem.tail _ (List.Mem.tail _ (List.Mem.tail _ (List.Mem.head _))))))))))))))))))))))) rfl
set_option maxRecDepth 4000 in
theorem tw840 : (Jvm.Cond.methodLink "OneBack$Views" (69 : Nat) ({ cls := "OneBack$Views", name := "tookFrom", desc := "(LOneBack$Walk;II)I" } : Jvm.MethodName)) ∈ GT := GT_m (ck4 (m8 (m8 (m8 (m8 (m8 (m8 (m8 (m8 (m8 (m8 (m8 (m8 (m8 (m8 (m8 (List.Mem.head _))))))))))))))))) rfl
set_option maxRecDepth 4000 in
theorem tw841 : (Jvm.Cond.static ({ cls := "OneBack$Views", name := "tookFrom", desc := "(LOneBack$Walk;II)I" } : Jvm.MethodName)) ∈ GT := GT_m (ck4 (m8 (m8 (m8 (m8 (m8 (m8 (m8 (m8 (m8 (m8 (m8 (m8 (m8 (m8 (m8 (List.Mem.tail _ (List.Mem.head _)))))))))))))))))) rfl
set_option maxRecDepth 4000 in
theorem tw842 : (Jvm.Cond.code ({ cls := "OneBack$Views", name := "tookFrom", desc := "(LOneBack$Walk;II)I" } : Jvm.MethodName) prog_10_method_7_code (5 : Nat) (Option.some Jvm.ClassFile.FieldType.int)) ∈ GT := GT_m (ck4 (m8 (m8 (m8 (m8 (m8 (m8 (m8 (m8 (m8 (m8 (m8 (m8 (m8 (m8 (m8 (List.Mem.tail _ (List.Mem.tail _ (List.Mem.head _))))))))))))))))))) rfl
set_option maxRecDepth 4000 in
theorem tw844 : (Jvm.Cond.methodLink "OneBack$Views" (42 : Nat) ({ cls := "OneBack$Town", name := "isThief", desc := "(I)Z" } : Jvm.MethodName)) ∈ GT := GT_m (ck4 (m8 (m8 (m8 (m8 (m8 (m8 (m8 (m8 (m8 (m8 (m8 (m8 (m8 (m8 (m8 (List.Mem.tail _ (List.Mem.tail _ (List.Mem.tail _ (List.Mem.tail _ (List.Mem.head _))))))))))))))))))))) rfl
set_option maxRecDepth 4000 in
theorem tw845 : (Jvm.Cond.methodLink "OneBackLaw" (58 : Nat) ({ cls := "OneBack", name := "goods", desc := "(IIIIIII)I" } : Jvm.MethodName)) ∈ GT := GT_m (ck4 (m8 (m8 (m8 (m8 (m8 (m8 (m8 (m8 (m8 (m8 (m8 (m8 (m8 (m8 (m8 (List.Mem.tail _ (List.Mem.tail _ (List.Mem.tail _ (List.Mem.tail _ (List.Mem.tail _ (List.Mem.head _)))))))))))))))))))))) rfl
set_option maxRecDepth 4000 in
theorem tw846 : (Jvm.Cond.instanceMethod ({ cls := "OneBack", name := "goods", desc := "(IIIIIII)I" } : Jvm.MethodName)) ∈ GT := GT_m (ck4 (m8 (m8 (m8 (m8 (m8 (m8 (m8 (m8 (m8 (m8 (m8 (m8 (m8 (m8 (m8 (List.Mem.tail _ (List.Mem.tail _ (List.Mem.tail _ (List.Mem.tail _ (List.Mem.tail _ (List.Mem.tail _ (List.Mem.head _))))))))))))))))))))))) rfl
set_option maxRecDepth 4000 in
theorem tw847 : (Jvm.Cond.selects "OneBack" ({ cls := "OneBack", name := "goods", desc := "(IIIIIII)I" } : Jvm.MethodName) ({ cls := "OneBack", name := "goods", desc := "(IIIIIII)I" } : Jvm.MethodName)) ∈ GT := GT_m (ck4 (m8 (m8 (m8 (m8 (m8 (m8 (m8 (m8 (m8 (m8 (m8 (m8 (m8 (m8 (m8 (List.Mem.tail _ (List.Mem.tail _ (List.Mem.tail _ (List.Mem.tail _ (List.Mem.tail _ (List.Mem.tail _ (List.Mem.tail _ (List.Mem.head _)))))))))))))))))))))))) rfl
set_option maxRecDepth 4000 in
theorem tw848 : (Jvm.Cond.code ({ cls := "OneBack", name := "goods", desc := "(IIIIIII)I" } : Jvm.MethodName) prog_1_method_12_code (10 : Nat) (Option.some Jvm.ClassFile.FieldType.int)) ∈ GT := GT_m (ck4 (m8 (m8 (m8 (m8 (m8 (m8 (m8 (m8 (m8 (m8 (m8 (m8 (m8 (m8 (m8 (m8 (List.Mem.head _)))))))))))))))))) rfl
set_option maxRecDepth 4000 in
theorem tw849 : (Jvm.Cond.methodLink "OneBack" (218 : Nat) ({ cls := "OneBack", name := "cell", desc := "(III)I" } : Jvm.MethodName)) ∈ GT := GT_m (ck4 (m8 (m8 (m8 (m8 (m8 (m8 (m8 (m8 (m8 (m8 (m8 (m8 (m8 (m8 (m8 (m8 (List.Mem.tail _ (List.Mem.head _))))))))))))))))))) rfl
set_option maxRecDepth 4000 in
theorem tw850 : (Jvm.Cond.methodLink "OneBackLaw" (63 : Nat) ({ cls := "OneBack", name := "aid", desc := "(II)I" } : Jvm.MethodName)) ∈ GT := GT_m (ck4 (m8 (m8 (m8 (m8 (m8 (m8 (m8 (m8 (m8 (m8 (m8 (m8 (m8 (m8 (m8 (m8 (List.Mem.tail _ (List.Mem.tail _ (List.Mem.head _)))))))))))))))))))) rfl
set_option maxRecDepth 4000 in
theorem tw851 : (Jvm.Cond.instanceMethod ({ cls := "OneBack", name := "aid", desc := "(II)I" } : Jvm.MethodName)) ∈ GT := GT_m (ck4 (m8 (m8 (m8 (m8 (m8 (m8 (m8 (m8 (m8 (m8 (m8 (m8 (m8 (m8 (m8 (m8 (List.Mem.tail _ (List.Mem.tail _ (List.Mem.tail _ (List.Mem.head _))))))))))))))))))))) rfl
set_option maxRecDepth 4000 in
theorem tw852 : (Jvm.Cond.selects "OneBack" ({ cls := "OneBack", name := "aid", desc := "(II)I" } : Jvm.MethodName) ({ cls := "OneBack", name := "aid", desc := "(II)I" } : Jvm.MethodName)) ∈ GT := GT_m (ck4 (m8 (m8 (m8 (m8 (m8 (m8 (m8 (m8 (m8 (m8 (m8 (m8 (m8 (m8 (m8 (m8 (List.Mem.tail _ (List.Mem.tail _ (List.Mem.tail _ (List.Mem.tail _ (List.Mem.head _)))))))))))))))))))))) rfl
set_option maxRecDepth 4000 in
theorem tw853 : (Jvm.Cond.code ({ cls := "OneBack", name := "aid", desc := "(II)I" } : Jvm.MethodName) prog_1_method_13_code (4 : Nat) (Option.some Jvm.ClassFile.FieldType.int)) ∈ GT := GT_m (ck4 (m8 (m8 (m8 (m8 (m8 (m8 (m8 (m8 (m8 (m8 (m8 (m8 (m8 (m8 (m8 (m8 (List.Mem.tail _ (List.Mem.tail _ (List.Mem.tail _ (List.Mem.tail _ (List.Mem.tail _ (List.Mem.head _))))))))))))))))))))))) rfl
set_option maxRecDepth 4000 in
theorem tw854 : (Jvm.Cond.methodLink "OneBack" (221 : Nat) ({ cls := "OneBack$Supply", name := "isAsked", desc := "(LOneBack$Town;I)Z" } : Jvm.MethodName)) ∈ GT := GT_m (ck4 (m8 (m8 (m8 (m8 (m8 (m8 (m8 (m8 (m8 (m8 (m8 (m8 (m8 (m8 (m8 (m8 (List.Mem.tail _ (List.Mem.tail _ (List.Mem.tail _ (List.Mem.tail _ (List.Mem.tail _ (List.Mem.tail _ (List.Mem.head _)))))))))))))))))))))))) rfl
set_option maxRecDepth 4000 in
theorem tw855 : (Jvm.Cond.static ({ cls := "OneBack$Supply", name := "isAsked", desc := "(LOneBack$Town;I)Z" } : Jvm.MethodName)) ∈ GT := GT_m (ck4 (m8 (m8 (m8 (m8 (m8 (m8 (m8 (m8 (m8 (m8 (m8 (m8 (m8 (m8 (m8 (m8 (List.Mem.tail _ (List.Mem.tail _ (List.Mem.tail _ (List.Mem.tail _ (List.Mem.tail _ (List.Mem.tail _ (List.Mem.tail _ (List.Mem.head _))))))))))))))))))))))))) rfl
set_option maxRecDepth 4000 in
theorem tw856 : (Jvm.Cond.code ({ cls := "OneBack$Supply", name := "isAsked", desc := "(LOneBack$Town;I)Z" } : Jvm.MethodName) prog_7_method_2_code (2 : Nat) (Option.some Jvm.ClassFile.FieldType.boolean)) ∈ GT := GT_m (ck4 (m8 (m8 (m8 (m8 (m8 (m8 (m8 (m8 (m8 (m8 (m8 (m8 (m8 (m8 (m8 (m8 (m8 (List.Mem.head _))))))))))))))))))) rfl
set_option maxRecDepth 4000 in
theorem tw857 : (Jvm.Cond.methodLink "OneBack" (225 : Nat) ({ cls := "OneBack$Supply", name := "isEnough", desc := "(LOneBack$Town;)Z" } : Jvm.MethodName)) ∈ GT := GT_m (ck4 (m8 (m8 (m8 (m8 (m8 (m8 (m8 (m8 (m8 (m8 (m8 (m8 (m8 (m8 (m8 (m8 (m8 (List.Mem.tail _ (List.Mem.head _)))))))))))))))))))) rfl
set_option maxRecDepth 4000 in
theorem tw858 : (Jvm.Cond.static ({ cls := "OneBack$Supply", name := "isEnough", desc := "(LOneBack$Town;)Z" } : Jvm.MethodName)) ∈ GT := GT_m (ck4 (m8 (m8 (m8 (m8 (m8 (m8 (m8 (m8 (m8 (m8 (m8 (m8 (m8 (m8 (m8 (m8 (m8 (List.Mem.tail _ (List.Mem.tail _ (List.Mem.head _))))))))))))))))))))) rfl
set_option maxRecDepth 4000 in
theorem tw859 : (Jvm.Cond.code ({ cls := "OneBack$Supply", name := "isEnough", desc := "(LOneBack$Town;)Z" } : Jvm.MethodName) prog_7_method_3_code (2 : Nat) (Option.some Jvm.ClassFile.FieldType.boolean)) ∈ GT := GT_m (ck4 (m8 (m8 (m8 (m8 (m8 (m8 (m8 (m8 (m8 (m8 (m8 (m8 (m8 (m8 (m8 (m8 (m8 (List.Mem.tail _ (List.Mem.tail _ (List.Mem.tail _ (List.Mem.head _)))))))))))))))))))))) rfl
set_option maxRecDepth 4000 in
theorem tw860 : (Jvm.Cond.methodLink "OneBack$Supply" (24 : Nat) ({ cls := "OneBack$Town", name := "spareOfAll", desc := "(I)I" } : Jvm.MethodName)) ∈ GT := GT_m (ck4 (m8 (m8 (m8 (m8 (m8 (m8 (m8 (m8 (m8 (m8 (m8 (m8 (m8 (m8 (m8 (m8 (m8 (List.Mem.tail _ (List.Mem.tail _ (List.Mem.tail _ (List.Mem.tail _ (List.Mem.head _))))))))))))))))))))))) rfl
set_option maxRecDepth 4000 in
theorem tw861 : (Jvm.Cond.instanceMethod ({ cls := "OneBack$Town", name := "spareOfAll", desc := "(I)I" } : Jvm.MethodName)) ∈ GT := GT_m (ck4 (m8 (m8 (m8 (m8 (m8 (m8 (m8 (m8 (m8 (m8 (m8 (m8 (m8 (m8 (m8 (m8 (m8 (List.Mem.tail _ (List.Mem.tail _ (List.Mem.tail _ (List.Mem.tail _ (List.Mem.tail _ (List.Mem.head _)))))))))))))))))))))))) rfl
set_option maxRecDepth 4000 in
theorem tw862 : (Jvm.Cond.selects "OneBack$Town" ({ cls := "OneBack$Town", name := "spareOfAll", desc := "(I)I" } : Jvm.MethodName) ({ cls := "OneBack$Town", name := "spareOfAll", desc := "(I)I" } : Jvm.MethodName)) ∈ GT := GT_m (ck4 (m8 (m8 (m8 (m8 (m8 (m8 (m8 (m8 (m8 (m8 (m8 (m8 (m8 (m8 (m8 (m8 (m8 (List.Mem.tail _ (List.Mem.tail _ (List.Mem.tail _ (List.Mem.tail _ (List.Mem.tail _ (List.Mem.tail _ (List.Mem.head _))))))))))))))))))))))))) rfl
set_option maxRecDepth 4000 in
theorem tw863 : (Jvm.Cond.code ({ cls := "OneBack$Town", name := "spareOfAll", desc := "(I)I" } : Jvm.MethodName) prog_9_method_10_code (4 : Nat) (Option.some Jvm.ClassFile.FieldType.int)) ∈ GT := GT_m (ck4 (m8 (m8 (m8 (m8 (m8 (m8 (m8 (m8 (m8 (m8 (m8 (m8 (m8 (m8 (m8 (m8 (m8 (List.Mem.tail _ (List.Mem.tail _ (List.Mem.tail _ (List.Mem.tail _ (List.Mem.tail _ (List.Mem.tail _ (List.Mem.tail _ (List.Mem.head _)))))))))))))))))))))))))) rfl
set_option maxRecDepth 4000 in
theorem tw864 : (Jvm.Cond.methodLink "OneBack$Town" (63 : Nat) ({ cls := "OneBack$Town", name := "spareOf", desc := "(II)I" } : Jvm.MethodName)) ∈ GT := GT_m (ck4 (m8 (m8 (m8 (m8 (m8 (m8 (m8 (m8 (m8 (m8 (m8 (m8 (m8 (m8 (m8 (m8 (m8 (m8 (List.Mem.head _)))))))))))))))))))) rfl
set_option maxRecDepth 4000 in
theorem tw865 : (Jvm.Cond.methodLink "OneBack$Supply" (28 : Nat) ({ cls := "OneBack$Town", name := "lackOfAll", desc := "(I)I" } : Jvm.MethodName)) ∈ GT := GT_m (ck4 (m8 (m8 (m8 (m8 (m8 (m8 (m8 (m8 (m8 (m8 (m8 (m8 (m8 (m8 (m8 (m8 (m8 (m8 (List.Mem.tail _ (List.Mem.head _))))))))))))))))))))) rfl
set_option maxRecDepth 4000 in
theorem tw866 : (Jvm.Cond.instanceMethod ({ cls := "OneBack$Town", name := "lackOfAll", desc := "(I)I" } : Jvm.MethodName)) ∈ GT := GT_m (ck4 (m8 (m8 (m8 (m8 (m8 (m8 (m8 (m8 (m8 (m8 (m8 (m8 (m8 (m8 (m8 (m8 (m8 (m8 (List.Mem.tail _ (List.Mem.tail _ (List.Mem.head _)))))))))))))))))))))) rfl
set_option maxRecDepth 4000 in
theorem tw867 : (Jvm.Cond.selects "OneBack$Town" ({ cls := "OneBack$Town", name := "lackOfAll", desc := "(I)I" } : Jvm.MethodName) ({ cls := "OneBack$Town", name := "lackOfAll", desc := "(I)I" } : Jvm.MethodName)) ∈ GT := GT_m (ck4 (m8 (m8 (m8 (m8 (m8 (m8 (m8 (m8 (m8 (m8 (m8 (m8 (m8 (m8 (m8 (m8 (m8 (m8 (List.Mem.tail _ (List.Mem.tail _ (List.Mem.tail _ (List.Mem.head _))))))))))))))))))))))) rfl
set_option maxRecDepth 4000 in
theorem tw868 : (Jvm.Cond.code ({ cls := "OneBack$Town", name := "lackOfAll", desc := "(I)I" } : Jvm.MethodName) prog_9_method_11_code (4 : Nat) (Option.some Jvm.ClassFile.FieldType.int)) ∈ GT := GT_m (ck4 (m8 (m8 (m8 (m8 (m8 (m8 (m8 (m8 (m8 (m8 (m8 (m8 (m8 (m8 (m8 (m8 (m8 (m8 (List.Mem.tail _ (List.Mem.tail _ (List.Mem.tail _ (List.Mem.tail _ (List.Mem.head _)))))))))))))))))))))))) rfl
set_option maxRecDepth 4000 in
theorem tw869 : (Jvm.Cond.methodLink "OneBack$Town" (66 : Nat) ({ cls := "OneBack$Town", name := "lackOf", desc := "(II)I" } : Jvm.MethodName)) ∈ GT := GT_m (ck4 (m8 (m8 (m8 (m8 (m8 (m8 (m8 (m8 (m8 (m8 (m8 (m8 (m8 (m8 (m8 (m8 (m8 (m8 (List.Mem.tail _ (List.Mem.tail _ (List.Mem.tail _ (List.Mem.tail _ (List.Mem.tail _ (List.Mem.head _))))))))))))))))))))))))) rfl
set_option maxRecDepth 4000 in
theorem tw870 : (Jvm.Cond.methodLink "OneBack" (229 : Nat) ({ cls := "OneBack$Supply", name := "answer", desc := "(LOneBack$Town;I)I" } : Jvm.MethodName)) ∈ GT := GT_m (ck4 (m8 (m8 (m8 (m8 (m8 (m8 (m8 (m8 (m8 (m8 (m8 (m8 (m8 (m8 (m8 (m8 (m8 (m8 (List.Mem.tail _ (List.Mem.tail _ (List.Mem.tail _ (List.Mem.tail _ (List.Mem.tail _ (List.Mem.tail _ (List.Mem.head _)))))))))))))))))))))))))) rfl
set_option maxRecDepth 4000 in
theorem tw871 : (Jvm.Cond.static ({ cls := "OneBack$Supply", name := "answer", desc := "(LOneBack$Town;I)I" } : Jvm.MethodName)) ∈ GT := GT_m (ck4 (m8 (m8 (m8 (m8 (m8 (m8 (m8 (m8 (m8 (m8 (m8 (m8 (m8 (m8 (m8 (m8 (m8 (m8 (List.Mem.tail _ (List.Mem.tail _ (List.Mem.tail _ (List.Mem.tail _ (List.Mem.tail _ (List.Mem.tail _ (List.Mem.tail _ (List.Mem.head _))))))))))))))))))))))))))) rfl
set_option maxRecDepth 4000 in
theorem tw872 : (Jvm.Cond.code ({ cls := "OneBack$Supply", name := "answer", desc := "(LOneBack$Town;I)I" } : Jvm.MethodName) prog_7_method_4_code (7 : Nat) (Option.some Jvm.ClassFile.FieldType.int)) ∈ GT := GT_m (ck4 (m8 (m8 (m8 (m8 (m8 (m8 (m8 (m8 (m8 (m8 (m8 (m8 (m8 (m8 (m8 (m8 (m8 (m8 (m8 (List.Mem.head _))))))))))))))))))))) rfl
set_option maxRecDepth 4000 in
theorem tw873 : (Jvm.Cond.methodLink "OneBack$Supply" (31 : Nat) ({ cls := "OneBack$Supply", name := "takenFrom", desc := "(LOneBack$Town;II)I" } : Jvm.MethodName)) ∈ GT := GT_m (ck4 (m8 (m8 (m8 (m8 (m8 (m8 (m8 (m8 (m8 (m8 (m8 (m8 (m8 (m8 (m8 (m8 (m8 (m8 (m8 (List.Mem.tail _ (List.Mem.head _)))))))))))))))))))))) rfl
set_option maxRecDepth 4000 in
theorem tw874 : (Jvm.Cond.static ({ cls := "OneBack$Supply", name := "takenFrom", desc := "(LOneBack$Town;II)I" } : Jvm.MethodName)) ∈ GT := GT_m (ck4 (m8 (m8 (m8 (m8 (m8 (m8 (m8 (m8 (m8 (m8 (m8 (m8 (m8 (m8 (m8 (m8 (m8 (m8 (m8 (List.Mem.tail _ (List.Mem.tail _ (List.Mem.head _))))))))))))))))))))))) rfl
set_option maxRecDepth 4000 in
theorem tw875 : (Jvm.Cond.code ({ cls := "OneBack$Supply", name := "takenFrom", desc := "(LOneBack$Town;II)I" } : Jvm.MethodName) prog_7_method_5_code (6 : Nat) (Option.some Jvm.ClassFile.FieldType.int)) ∈ GT := GT_m (ck4 (m8 (m8 (m8 (m8 (m8 (m8 (m8 (m8 (m8 (m8 (m8 (m8 (m8 (m8 (m8 (m8 (m8 (m8 (m8 (List.Mem.tail _ (List.Mem.tail _ (List.Mem.tail _ (List.Mem.head _)))))))))))))))))))))))) rfl
set_option maxRecDepth 4000 in
theorem tw876 : (Jvm.Cond.methodLink "OneBack$Supply" (46 : Nat) ({ cls := "OneBack$Town", name := "spareOf", desc := "(II)I" } : Jvm.MethodName)) ∈ GT := GT_m (ck4 (m8 (m8 (m8 (m8 (m8 (m8 (m8 (m8 (m8 (m8 (m8 (m8 (m8 (m8 (m8 (m8 (m8 (m8 (m8 (List.Mem.tail _ (List.Mem.tail _ (List.Mem.tail _ (List.Mem.tail _ (List.Mem.head _))))))))))))))))))))))))) rfl
set_option maxRecDepth 4000 in
theorem tw877 : (Jvm.Cond.methodLink "OneBack$Supply" (49 : Nat) ({ cls := "java/lang/Math", name := "min", desc := "(II)I" } : Jvm.MethodName)) ∈ GT := GT_m (ck4 (m8 (m8 (m8 (m8 (m8 (m8 (m8 (m8 (m8 (m8 (m8 (m8 (m8 (m8 (m8 (m8 (m8 (m8 (m8 (List.Mem.tail _ (List.Mem.tail _ (List.Mem.tail _ (List.Mem.tail _ (List.Mem.tail _ (List.Mem.head _)))))))))))))))))))))))))) rfl
set_option maxRecDepth 4000 in
theorem tw878 : (Jvm.Cond.methodLink "OneBack$Supply" (54 : Nat) ({ cls := "java/lang/Math", name := "max", desc := "(II)I" } : Jvm.MethodName)) ∈ GT := GT_m (ck4 (m8 (m8 (m8 (m8 (m8 (m8 (m8 (m8 (m8 (m8 (m8 (m8 (m8 (m8 (m8 (m8 (m8 (m8 (m8 (List.Mem.tail _ (List.Mem.tail _ (List.Mem.tail _ (List.Mem.tail _ (List.Mem.tail _ (List.Mem.tail _ (List.Mem.head _))))))))))))))))))))))))))) rfl
set_option maxRecDepth 4000 in
theorem tw879 : (Jvm.Cond.methodLink "OneBack$Supply" (38 : Nat) ({ cls := "OneBack$Town", name := "limitOfAll", desc := "()I" } : Jvm.MethodName)) ∈ GT := GT_m (ck4 (m8 (m8 (m8 (m8 (m8 (m8 (m8 (m8 (m8 (m8 (m8 (m8 (m8 (m8 (m8 (m8 (m8 (m8 (m8 (List.Mem.tail _ (List.Mem.tail _ (List.Mem.tail _ (List.Mem.tail _ (List.Mem.tail _ (List.Mem.tail _ (List.Mem.tail _ (List.Mem.head _)))))))))))))))))))))))))))) rfl
set_option maxRecDepth 4000 in
theorem tw880 : (Jvm.Cond.instanceMethod ({ cls := "OneBack$Town", name := "limitOfAll", desc := "()I" } : Jvm.MethodName)) ∈ GT := GT_m (ck4 (m8 (m8 (m8 (m8 (m8 (m8 (m8 (m8 (m8 (m8 (m8 (m8 (m8 (m8 (m8 (m8 (m8 (m8 (m8 (m8 (List.Mem.head _)))))))))))))))))))))) rfl
set_option maxRecDepth 4000 in
theorem tw881 : (Jvm.Cond.selects "OneBack$Town" ({ cls := "OneBack$Town", name := "limitOfAll", desc := "()I" } : Jvm.MethodName) ({ cls := "OneBack$Town", name := "limitOfAll", desc := "()I" } : Jvm.MethodName)) ∈ GT := GT_m (ck4 (m8 (m8 (m8 (m8 (m8 (m8 (m8 (m8 (m8 (m8 (m8 (m8 (m8 (m8 (m8 (m8 (m8 (m8 (m8 (m8 (List.Mem.tail _ (List.Mem.head _))))))))))))))))))))))) rfl
set_option maxRecDepth 4000 in
theorem tw882 : (Jvm.Cond.code ({ cls := "OneBack$Town", name := "limitOfAll", desc := "()I" } : Jvm.MethodName) prog_9_method_12_code (3 : Nat) (Option.some Jvm.ClassFile.FieldType.int)) ∈ GT := GT_m (ck4 (m8 (m8 (m8 (m8 (m8 (m8 (m8 (m8 (m8 (m8 (m8 (m8 (m8 (m8 (m8 (m8 (m8 (m8 (m8 (m8 (List.Mem.tail _ (List.Mem.tail _ (List.Mem.head _)))))))))))))))))))))))) rfl
set_option maxRecDepth 4000 in
theorem tw883 : (Jvm.Cond.methodLink "OneBack$Supply" (42 : Nat) ({ cls := "OneBack$Supply", name := "nightsFor", desc := "(II)I" } : Jvm.MethodName)) ∈ GT := GT_m (ck4 (m8 (m8 (m8 (m8 (m8 (m8 (m8 (m8 (m8 (m8 (m8 (m8 (m8 (m8 (m8 (m8 (m8 (m8 (m8 (m8 (List.Mem.tail _ (List.Mem.tail _ (List.Mem.tail _ (List.Mem.head _))))))))))))))))))))))))) rfl
set_option maxRecDepth 4000 in
theorem tw884 : (Jvm.Cond.static ({ cls := "OneBack$Supply", name := "nightsFor", desc := "(II)I" } : Jvm.MethodName)) ∈ GT := GT_m (ck4 (m8 (m8 (m8 (m8 (m8 (m8 (m8 (m8 (m8 (m8 (m8 (m8 (m8 (m8 (m8 (m8 (m8 (m8 (m8 (m8 (List.Mem.tail _ (List.Mem.tail _ (List.Mem.tail _ (List.Mem.tail _ (List.Mem.head _)))))))))))))))))))))))))) rfl
set_option maxRecDepth 4000 in
theorem tw885 : (Jvm.Cond.code ({ cls := "OneBack$Supply", name := "nightsFor", desc := "(II)I" } : Jvm.MethodName) prog_7_method_6_code (2 : Nat) (Option.some Jvm.ClassFile.FieldType.int)) ∈ GT := GT_m (ck4 (m8 (m8 (m8 (m8 (m8 (m8 (m8 (m8 (m8 (m8 (m8 (m8 (m8 (m8 (m8 (m8 (m8 (m8 (m8 (m8 (List.Mem.tail _ (List.Mem.tail _ (List.Mem.tail _ (List.Mem.tail _ (List.Mem.tail _ (List.Mem.head _))))))))))))))))))))))))))) rfl
set_option maxRecDepth 4000 in
theorem tw886 : (Jvm.Cond.methodLink "OneBackLaw" (67 : Nat) ({ cls := "OneBack", name := "carry", desc := "(I)I" } : Jvm.MethodName)) ∈ GT := GT_m (ck4 (m8 (m8 (m8 (m8 (m8 (m8 (m8 (m8 (m8 (m8 (m8 (m8 (m8 (m8 (m8 (m8 (m8 (m8 (m8 (m8 (List.Mem.tail _ (List.Mem.tail _ (List.Mem.tail _ (List.Mem.tail _ (List.Mem.tail _ (List.Mem.tail _ (List.Mem.head _)))))))))))))))))))))))))))) rfl
set_option maxRecDepth 4000 in
theorem tw887 : (Jvm.Cond.instanceMethod ({ cls := "OneBack", name := "carry", desc := "(I)I" } : Jvm.MethodName)) ∈ GT := GT_m (ck4 (m8 (m8 (m8 (m8 (m8 (m8 (m8 (m8 (m8 (m8 (m8 (m8 (m8 (m8 (m8 (m8 (m8 (m8 (m8 (m8 (List.Mem.tail _ (List.Mem.tail _ (List.Mem.tail _ (List.Mem.tail _ (List.Mem.tail _ (List.Mem.tail _ (List.Mem.tail _ (List.Mem.head _))))))))))))))))))))))))))))) rfl
set_option maxRecDepth 4000 in
theorem tw888 : (Jvm.Cond.selects "OneBack" ({ cls := "OneBack", name := "carry", desc := "(I)I" } : Jvm.MethodName) ({ cls := "OneBack", name := "carry", desc := "(I)I" } : Jvm.MethodName)) ∈ GT := GT_m (ck4 (m8 (m8 (m8 (m8 (m8 (m8 (m8 (m8 (m8 (m8 (m8 (m8 (m8 (m8 (m8 (m8 (m8 (m8 (m8 (m8 (m8 (List.Mem.head _))))))))))))))))))))))) rfl
set_option maxRecDepth 4000 in
theorem tw889 : (Jvm.Cond.code ({ cls := "OneBack", name := "carry", desc := "(I)I" } : Jvm.MethodName) prog_1_method_14_code (3 : Nat) (Option.some Jvm.ClassFile.FieldType.int)) ∈ GT := GT_m (ck4 (m8 (m8 (m8 (m8 (m8 (m8 (m8 (m8 (m8 (m8 (m8 (m8 (m8 (m8 (m8 (m8 (m8 (m8 (m8 (m8 (m8 (List.Mem.tail _ (List.Mem.head _)))))))))))))))))))))))) rfl
set_option maxRecDepth 4000 in
theorem tw890 : (Jvm.Cond.methodLink "OneBack" (233 : Nat) ({ cls := "OneBack$Supply", name := "carryAll", desc := "(LOneBack$Town;)I" } : Jvm.MethodName)) ∈ GT := GT_m (ck4 (m8 (m8 (m8 (m8 (m8 (m8 (m8 (m8 (m8 (m8 (m8 (m8 (m8 (m8 (m8 (m8 (m8 (m8 (m8 (m8 (m8 (List.Mem.tail _ (List.Mem.tail _ (List.Mem.head _))))))))))))))))))))))))) rfl
set_option maxRecDepth 4000 in
theorem tw891 : (Jvm.Cond.instanceMethod ({ cls := "OneBack$Supply", name := "carryAll", desc := "(LOneBack$Town;)I" } : Jvm.MethodName)) ∈ GT := GT_m (ck4 (m8 (m8 (m8 (m8 (m8 (m8 (m8 (m8 (m8 (m8 (m8 (m8 (m8 (m8 (m8 (m8 (m8 (m8 (m8 (m8 (m8 (List.Mem.tail _ (List.Mem.tail _ (List.Mem.tail _ (List.Mem.head _)))))))))))))))))))))))))) rfl
set_option maxRecDepth 4000 in
theorem tw892 : (Jvm.Cond.selects "OneBack$Supply" ({ cls := "OneBack$Supply", name := "carryAll", desc := "(LOneBack$Town;)I" } : Jvm.MethodName) ({ cls := "OneBack$Supply", name := "carryAll", desc := "(LOneBack$Town;)I" } : Jvm.MethodName)) ∈ GT := GT_m (ck4 (m8 (m8 (m8 (m8 (m8 (m8 (m8 (m8 (m8 (m8 (m8 (m8 (m8 (m8 (m8 (m8 (m8 (m8 (m8 (m8 (m8 (List.Mem.tail _ (List.Mem.tail _ (List.Mem.tail _ (List.Mem.tail _ (List.Mem.head _))))))))))))))))))))))))))) rfl
set_option maxRecDepth 4000 in
theorem tw893 : (Jvm.Cond.code ({ cls := "OneBack$Supply", name := "carryAll", desc := "(LOneBack$Town;)I" } : Jvm.MethodName) prog_7_method_7_code (4 : Nat) (Option.some Jvm.ClassFile.FieldType.int)) ∈ GT := GT_m (ck4 (m8 (m8 (m8 (m8 (m8 (m8 (m8 (m8 (m8 (m8 (m8 (m8 (m8 (m8 (m8 (m8 (m8 (m8 (m8 (m8 (m8 (List.Mem.tail _ (List.Mem.tail _ (List.Mem.tail _ (List.Mem.tail _ (List.Mem.tail _ (List.Mem.head _)))))))))))))))))))))))))))) rfl
set_option maxRecDepth 4000 in
theorem tw894 : (Jvm.Cond.methodLink "OneBack$Supply" (57 : Nat) ({ cls := "OneBack$Supply", name := "isEnough", desc := "(LOneBack$Town;)Z" } : Jvm.MethodName)) ∈ GT := GT_m (ck4 (m8 (m8 (m8 (m8 (m8 (m8 (m8 (m8 (m8 (m8 (m8 (m8 (m8 (m8 (m8 (m8 (m8 (m8 (m8 (m8 (m8 (List.Mem.tail _ (List.Mem.tail _ (List.Mem.tail _ (List.Mem.tail _ (List.Mem.tail _ (List.Mem.tail _ (List.Mem.head _))))))))))))))))))))))))))))) rfl
set_option maxRecDepth 4000 in
theorem tw895 : (Jvm.Cond.methodLink "OneBack$Supply" (64 : Nat) ({ cls := "OneBack$Supply", name := "carryGood", desc := "(LOneBack$Town;I)I" } : Jvm.MethodName)) ∈ GT := GT_m (ck4 (m8 (m8 (m8 (m8 (m8 (m8 (m8 (m8 (m8 (m8 (m8 (m8 (m8 (m8 (m8 (m8 (m8 (m8 (m8 (m8 (m8 (List.Mem.tail _ (List.Mem.tail _ (List.Mem.tail _ (List.Mem.tail _ (List.Mem.tail _ (List.Mem.tail _ (List.Mem.tail _ (List.Mem.head _)))))))))))))))))))))))))))))) rfl
set_option maxRecDepth 4000 in
theorem tw897 : (Jvm.Cond.instanceMethod ({ cls := "OneBack$Supply", name := "carryGood", desc := "(LOneBack$Town;I)I" } : Jvm.MethodName)) ∈ GT := GT_m (ck4 (m8 (m8 (m8 (m8 (m8 (m8 (m8 (m8 (m8 (m8 (m8 (m8 (m8 (m8 (m8 (m8 (m8 (m8 (m8 (m8 (m8 (m8 (List.Mem.tail _ (List.Mem.head _))))))))))))))))))))))))) rfl
set_option maxRecDepth 4000 in
theorem tw898 : (Jvm.Cond.code ({ cls := "OneBack$Supply", name := "carryGood", desc := "(LOneBack$Town;I)I" } : Jvm.MethodName) prog_7_method_8_code (8 : Nat) (Option.some Jvm.ClassFile.FieldType.int)) ∈ GT := GT_m (ck4 (m8 (m8 (m8 (m8 (m8 (m8 (m8 (m8 (m8 (m8 (m8 (m8 (m8 (m8 (m8 (m8 (m8 (m8 (m8 (m8 (m8 (m8 (List.Mem.tail _ (List.Mem.tail _ (List.Mem.head _)))))))))))))))))))))))))) rfl
set_option maxRecDepth 4000 in
theorem tw899 : (Jvm.Cond.constant "OneBack$Supply" (68 : Nat) (1000000 : Int32)) ∈ GT := GT_m (ck4 (m8 (m8 (m8 (m8 (m8 (m8 (m8 (m8 (m8 (m8 (m8 (m8 (m8 (m8 (m8 (m8 (m8 (m8 (m8 (m8 (m8 (m8 (List.Mem.tail _ (List.Mem.tail _ (List.Mem.tail _ (List.Mem.head _))))))))))))))))))))))))))) rfl
set_option maxRecDepth 4000 in
theorem tw901 : (Jvm.Cond.methodLink "OneBack$Supply" (73 : Nat) ({ cls := "OneBack$Town", name := "lackOf", desc := "(II)I" } : Jvm.MethodName)) ∈ GT := GT_m (ck4 (m8 (m8 (m8 (m8 (m8 (m8 (m8 (m8 (m8 (m8 (m8 (m8 (m8 (m8 (m8 (m8 (m8 (m8 (m8 (m8 (m8 (m8 (List.Mem.tail _ (List.Mem.tail _ (List.Mem.tail _ (List.Mem.tail _ (List.Mem.tail _ (List.Mem.head _))))))))))))))))))))))))))))) rfl
set_option maxRecDepth 4000 in
theorem tw902 : (Jvm.Cond.methodLink "OneBack$Supply" (76 : Nat) ({ cls := "OneBack$Supply", name := "leastOf", desc := "(II)I" } : Jvm.MethodName)) ∈ GT := GT_m (ck4 (m8 (m8 (m8 (m8 (m8 (m8 (m8 (m8 (m8 (m8 (m8 (m8 (m8 (m8 (m8 (m8 (m8 (m8 (m8 (m8 (m8 (m8 (List.Mem.tail _ (List.Mem.tail _ (List.Mem.tail _ (List.Mem.tail _ (List.Mem.tail _ (List.Mem.tail _ (List.Mem.head _)))))))))))))))))))))))))))))) rfl
set_option maxRecDepth 4000 in
theorem tw904 : (Jvm.Cond.instanceMethod ({ cls := "OneBack$Supply", name := "leastOf", desc := "(II)I" } : Jvm.MethodName)) ∈ GT := GT_m (ck4 (m8 (m8 (m8 (m8 (m8 (m8 (m8 (m8 (m8 (m8 (m8 (m8 (m8 (m8 (m8 (m8 (m8 (m8 (m8 (m8 (m8 (m8 (m8 (List.Mem.head _))))))))))))))))))))))))) rfl
set_option maxRecDepth 4000 in
theorem tw905 : (Jvm.Cond.code ({ cls := "OneBack$Supply", name := "leastOf", desc := "(II)I" } : Jvm.MethodName) prog_7_method_9_code (5 : Nat) (Option.some Jvm.ClassFile.FieldType.int)) ∈ GT := GT_m (ck4 (m8 (m8 (m8 (m8 (m8 (m8 (m8 (m8 (m8 (m8 (m8 (m8 (m8 (m8 (m8 (m8 (m8 (m8 (m8 (m8 (m8 (m8 (m8 (List.Mem.tail _ (List.Mem.head _)))))))))))))))))))))))))) rfl
set_option maxRecDepth 4000 in
theorem tw906 : (Jvm.Cond.methodLink "OneBack$Supply" (79 : Nat) ({ cls := "java/lang/Math", name := "abs", desc := "(I)I" } : Jvm.MethodName)) ∈ GT := GT_m (ck4 (m8 (m8 (m8 (m8 (m8 (m8 (m8 (m8 (m8 (m8 (m8 (m8 (m8 (m8 (m8 (m8 (m8 (m8 (m8 (m8 (m8 (m8 (m8 (List.Mem.tail _ (List.Mem.tail _ (List.Mem.head _))))))))))))))))))))))))))) rfl
set_option maxRecDepth 4000 in
theorem tw907 : (Jvm.Cond.static ({ cls := "java/lang/Math", name := "abs", desc := "(I)I" } : Jvm.MethodName)) ∈ GT := GT_m (ck4 (m8 (m8 (m8 (m8 (m8 (m8 (m8 (m8 (m8 (m8 (m8 (m8 (m8 (m8 (m8 (m8 (m8 (m8 (m8 (m8 (m8 (m8 (m8 (List.Mem.tail _ (List.Mem.tail _ (List.Mem.tail _ (List.Mem.head _)))))))))))))))))))))))))))) rfl
set_option maxRecDepth 4000 in
theorem tw908 : (Jvm.Cond.code ({ cls := "java/lang/Math", name := "abs", desc := "(I)I" } : Jvm.MethodName) prog_15_method_59_code (1 : Nat) (Option.some Jvm.ClassFile.FieldType.int)) ∈ GT := GT_m (ck4 (m8 (m8 (m8 (m8 (m8 (m8 (m8 (m8 (m8 (m8 (m8 (m8 (m8 (m8 (m8 (m8 (m8 (m8 (m8 (m8 (m8 (m8 (m8 (List.Mem.tail _ (List.Mem.tail _ (List.Mem.tail _ (List.Mem.tail _ (List.Mem.head _))))))))))))))))))))))))))))) rfl
set_option maxRecDepth 4000 in
theorem tw909 : (Jvm.Cond.methodLink "OneBackLaw" (71 : Nat) ({ cls := "OneBack", name := "round", desc := "(II)I" } : Jvm.MethodName)) ∈ GT := GT_m (ck4 (m8 (m8 (m8 (m8 (m8 (m8 (m8 (m8 (m8 (m8 (m8 (m8 (m8 (m8 (m8 (m8 (m8 (m8 (m8 (m8 (m8 (m8 (m8 (List.Mem.tail _ (List.Mem.tail _ (List.Mem.tail _ (List.Mem.tail _ (List.Mem.tail _ (List.Mem.head _)))))))))))))))))))))))))))))) rfl
set_option maxRecDepth 4000 in
theorem tw910 : (Jvm.Cond.instanceMethod ({ cls := "OneBack", name := "round", desc := "(II)I" } : Jvm.MethodName)) ∈ GT := GT_m (ck4 (m8 (m8 (m8 (m8 (m8 (m8 (m8 (m8 (m8 (m8 (m8 (m8 (m8 (m8 (m8 (m8 (m8 (m8 (m8 (m8 (m8 (m8 (m8 (List.Mem.tail _ (List.Mem.tail _ (List.Mem.tail _ (List.Mem.tail _ (List.Mem.tail _ (List.Mem.tail _ (List.Mem.head _))))))))))))))))))))))))))))))) rfl
set_option maxRecDepth 4000 in
theorem tw911 : (Jvm.Cond.selects "OneBack" ({ cls := "OneBack", name := "round", desc := "(II)I" } : Jvm.MethodName) ({ cls := "OneBack", name := "round", desc := "(II)I" } : Jvm.MethodName)) ∈ GT := GT_m (ck4 (m8 (m8 (m8 (m8 (m8 (m8 (m8 (m8 (m8 (m8 (m8 (m8 (m8 (m8 (m8 (m8 (m8 (m8 (m8 (m8 (m8 (m8 (m8 (List.Mem.tail _ (List.Mem.tail _ (List.Mem.tail _ (List.Mem.tail _ (List.Mem.tail _ (List.Mem.tail _ (List.Mem.tail _ (List.Mem.head _)))))))))))))))))))))))))))))))) rfl
set_option maxRecDepth 4000 in
theorem tw912 : (Jvm.Cond.code ({ cls := "OneBack", name := "round", desc := "(II)I" } : Jvm.MethodName) prog_1_method_15_code (4 : Nat) (Option.some Jvm.ClassFile.FieldType.int)) ∈ GT := GT_m (ck4 (m8 (m8 (m8 (m8 (m8 (m8 (m8 (m8 (m8 (m8 (m8 (m8 (m8 (m8 (m8 (m8 (m8 (m8 (m8 (m8 (m8 (m8 (m8 (m8 (List.Mem.head _)))))))))))))))))))))))))) rfl
set_option maxRecDepth 4000 in
theorem tw913 : (Jvm.Cond.methodLink "OneBack" (237 : Nat) ({ cls := "OneBack$Town", name := "allHome", desc := "()I" } : Jvm.MethodName)) ∈ GT := GT_m (ck4 (m8 (m8 (m8 (m8 (m8 (m8 (m8 (m8 (m8 (m8 (m8 (m8 (m8 (m8 (m8 (m8 (m8 (m8 (m8 (m8 (m8 (m8 (m8 (m8 (List.Mem.tail _ (List.Mem.head _))))))))))))))))))))))))))) rfl
set_option maxRecDepth 4000 in
theorem tw914 : (Jvm.Cond.instanceMethod ({ cls := "OneBack$Town", name := "allHome", desc := "()I" } : Jvm.MethodName)) ∈ GT := GT_m (ck4 (m8 (m8 (m8 (m8 (m8 (m8 (m8 (m8 (m8 (m8 (m8 (m8 (m8 (m8 (m8 (m8 (m8 (m8 (m8 (m8 (m8 (m8 (m8 (m8 (List.Mem.tail _ (List.Mem.tail _ (List.Mem.head _)))))))))))))))))))))))))))) rfl
set_option maxRecDepth 4000 in
theorem tw915 : (Jvm.Cond.selects "OneBack$Town" ({ cls := "OneBack$Town", name := "allHome", desc := "()I" } : Jvm.MethodName) ({ cls := "OneBack$Town", name := "allHome", desc := "()I" } : Jvm.MethodName)) ∈ GT := GT_m (ck4 (m8 (m8 (m8 (m8 (m8 (m8 (m8 (m8 (m8 (m8 (m8 (m8 (m8 (m8 (m8 (m8 (m8 (m8 (m8 (m8 (m8 (m8 (m8 (m8 (List.Mem.tail _ (List.Mem.tail _ (List.Mem.tail _ (List.Mem.head _))))))))))))))))))))))))))))) rfl
set_option maxRecDepth 4000 in
theorem tw916 : (Jvm.Cond.code ({ cls := "OneBack$Town", name := "allHome", desc := "()I" } : Jvm.MethodName) prog_9_method_20_code (5 : Nat) (Option.some Jvm.ClassFile.FieldType.int)) ∈ GT := GT_m (ck4 (m8 (m8 (m8 (m8 (m8 (m8 (m8 (m8 (m8 (m8 (m8 (m8 (m8 (m8 (m8 (m8 (m8 (m8 (m8 (m8 (m8 (m8 (m8 (m8 (List.Mem.tail _ (List.Mem.tail _ (List.Mem.tail _ (List.Mem.tail _ (List.Mem.head _)))))))))))))))))))))))))))))) rfl
set_option maxRecDepth 4000 in
theorem tw917 : (Jvm.Cond.methodLink "OneBack$Town" (85 : Nat) ({ cls := "OneBack$Town", name := "homeAgain", desc := "(I)I" } : Jvm.MethodName)) ∈ GT := GT_m (ck4 (m8 (m8 (m8 (m8 (m8 (m8 (m8 (m8 (m8 (m8 (m8 (m8 (m8 (m8 (m8 (m8 (m8 (m8 (m8 (m8 (m8 (m8 (m8 (m8 (List.Mem.tail _ (List.Mem.tail _ (List.Mem.tail _ (List.Mem.tail _ (List.Mem.tail _ (List.Mem.head _))))))))))))))))))))))))))))))) rfl
set_option maxRecDepth 4000 in
theorem tw918 : (Jvm.Cond.instanceMethod ({ cls := "OneBack$Town", name := "homeAgain", desc := "(I)I" } : Jvm.MethodName)) ∈ GT := GT_m (ck4 (m8 (m8 (m8 (m8 (m8 (m8 (m8 (m8 (m8 (m8 (m8 (m8 (m8 (m8 (m8 (m8 (m8 (m8 (m8 (m8 (m8 (m8 (m8 (m8 (List.Mem.tail _ (List.Mem.tail _ (List.Mem.tail _ (List.Mem.tail _ (List.Mem.tail _ (List.Mem.tail _ (List.Mem.head _)))))))))))))))))))))))))))))))) rfl
set_option maxRecDepth 4000 in
theorem tw919 : (Jvm.Cond.selects "OneBack$Town" ({ cls := "OneBack$Town", name := "homeAgain", desc := "(I)I" } : Jvm.MethodName) ({ cls := "OneBack$Town", name := "homeAgain", desc := "(I)I" } : Jvm.MethodName)) ∈ GT := GT_m (ck4 (m8 (m8 (m8 (m8 (m8 (m8 (m8 (m8 (m8 (m8 (m8 (m8 (m8 (m8 (m8 (m8 (m8 (m8 (m8 (m8 (m8 (m8 (m8 (m8 (List.Mem.tail _ (List.Mem.tail _ (List.Mem.tail _ (List.Mem.tail _ (List.Mem.tail _ (List.Mem.tail _ (List.Mem.tail _ (List.Mem.head _))))))))))))))))))))))))))))))))) rfl
set_option maxRecDepth 4000 in
theorem tw920 : (Jvm.Cond.code ({ cls := "OneBack$Town", name := "homeAgain", desc := "(I)I" } : Jvm.MethodName) prog_9_method_19_code (4 : Nat) (Option.some Jvm.ClassFile.FieldType.int)) ∈ GT := GT_m (ck4 (m8 (m8 (m8 (m8 (m8 (m8 (m8 (m8 (m8 (m8 (m8 (m8 (m8 (m8 (m8 (m8 (m8 (m8 (m8 (m8 (m8 (m8 (m8 (m8 (m8 (List.Mem.head _))))))))))))))))))))))))))) rfl
set_option maxRecDepth 4000 in
theorem tw922 : (Jvm.Cond.static ({ cls := "OneBack", name := "commonDivisor", desc := "(II)I" } : Jvm.MethodName)) ∈ GT := GT_m (ck4 (m8 (m8 (m8 (m8 (m8 (m8 (m8 (m8 (m8 (m8 (m8 (m8 (m8 (m8 (m8 (m8 (m8 (m8 (m8 (m8 (m8 (m8 (m8 (m8 (m8 (List.Mem.tail _ (List.Mem.tail _ (List.Mem.head _))))))))))))))))))))))))))))) rfl
set_option maxRecDepth 4000 in
theorem tw923 : (Jvm.Cond.code ({ cls := "OneBack", name := "commonDivisor", desc := "(II)I" } : Jvm.MethodName) prog_1_method_41_code (6 : Nat) (Option.some Jvm.ClassFile.FieldType.int)) ∈ GT := GT_m (ck4 (m8 (m8 (m8 (m8 (m8 (m8 (m8 (m8 (m8 (m8 (m8 (m8 (m8 (m8 (m8 (m8 (m8 (m8 (m8 (m8 (m8 (m8 (m8 (m8 (m8 (List.Mem.tail _ (List.Mem.tail _ (List.Mem.tail _ (List.Mem.head _)))))))))))))))))))))))))))))) rfl
set_option maxRecDepth 4000 in
theorem tw924 : (Jvm.Cond.methodLink "OneBack" (241 : Nat) ({ cls := "OneBack$Town", name := "homeAgain", desc := "(I)I" } : Jvm.MethodName)) ∈ GT := GT_m (ck4 (m8 (m8 (m8 (m8 (m8 (m8 (m8 (m8 (m8 (m8 (m8 (m8 (m8 (m8 (m8 (m8 (m8 (m8 (m8 (m8 (m8 (m8 (m8 (m8 (m8 (List.Mem.tail _ (List.Mem.tail _ (List.Mem.tail _ (List.Mem.tail _ (List.Mem.head _))))))))))))))))))))))))))))))) rfl
set_option maxRecDepth 4000 in
theorem tw925 : (Jvm.Cond.methodLink "OneBackLaw" (75 : Nat) ({ cls := "OneBack", name := "meets", desc := "(III)I" } : Jvm.MethodName)) ∈ GT := GT_m (ck4 (m8 (m8 (m8 (m8 (m8 (m8 (m8 (m8 (m8 (m8 (m8 (m8 (m8 (m8 (m8 (m8 (m8 (m8 (m8 (m8 (m8 (m8 (m8 (m8 (m8 (List.Mem.tail _ (List.Mem.tail _ (List.Mem.tail _ (List.Mem.tail _ (List.Mem.tail _ (List.Mem.head _)))))))))))))))))))))))))))))))) rfl
set_option maxRecDepth 4000 in
theorem tw926 : (Jvm.Cond.instanceMethod ({ cls := "OneBack", name := "meets", desc := "(III)I" } : Jvm.MethodName)) ∈ GT := GT_m (ck4 (m8 (m8 (m8 (m8 (m8 (m8 (m8 (m8 (m8 (m8 (m8 (m8 (m8 (m8 (m8 (m8 (m8 (m8 (m8 (m8 (m8 (m8 (m8 (m8 (m8 (List.Mem.tail _ (List.Mem.tail _ (List.Mem.tail _ (List.Mem.tail _ (List.Mem.tail _ (List.Mem.tail _ (List.Mem.head _))))))))))))))))))))))))))))))))) rfl
set_option maxRecDepth 4000 in
theorem tw927 : (Jvm.Cond.selects "OneBack" ({ cls := "OneBack", name := "meets", desc := "(III)I" } : Jvm.MethodName) ({ cls := "OneBack", name := "meets", desc := "(III)I" } : Jvm.MethodName)) ∈ GT := GT_m (ck4 (m8 (m8 (m8 (m8 (m8 (m8 (m8 (m8 (m8 (m8 (m8 (m8 (m8 (m8 (m8 (m8 (m8 (m8 (m8 (m8 (m8 (m8 (m8 (m8 (m8 (List.Mem.tail _ (List.Mem.tail _ (List.Mem.tail _ (List.Mem.tail _ (List.Mem.tail _ (List.Mem.tail _ (List.Mem.tail _ (List.Mem.head _)))))))))))))))))))))))))))))))))) rfl
set_option maxRecDepth 4000 in
theorem tw928 : (Jvm.Cond.code ({ cls := "OneBack", name := "meets", desc := "(III)I" } : Jvm.MethodName) prog_1_method_16_code (5 : Nat) (Option.some Jvm.ClassFile.FieldType.int)) ∈ GT := GT_m (ck4 (m8 (m8 (m8 (m8 (m8 (m8 (m8 (m8 (m8 (m8 (m8 (m8 (m8 (m8 (m8 (m8 (m8 (m8 (m8 (m8 (m8 (m8 (m8 (m8 (m8 (m8 (List.Mem.head _)))))))))))))))))))))))))))) rfl
set_option maxRecDepth 4000 in
theorem tw929 : (Jvm.Cond.methodLink "OneBack" (244 : Nat) ({ cls := "OneBack$Town", name := "meeting", desc := "(II)I" } : Jvm.MethodName)) ∈ GT := GT_m (ck4 (m8 (m8 (m8 (m8 (m8 (m8 (m8 (m8 (m8 (m8 (m8 (m8 (m8 (m8 (m8 (m8 (m8 (m8 (m8 (m8 (m8 (m8 (m8 (m8 (m8 (m8 (List.Mem.tail _ (List.Mem.head _))))))))))))))))))))))))))))) rfl
set_option maxRecDepth 4000 in
theorem tw930 : (Jvm.Cond.instanceMethod ({ cls := "OneBack$Town", name := "meeting", desc := "(II)I" } : Jvm.MethodName)) ∈ GT := GT_m (ck4 (m8 (m8 (m8 (m8 (m8 (m8 (m8 (m8 (m8 (m8 (m8 (m8 (m8 (m8 (m8 (m8 (m8 (m8 (m8 (m8 (m8 (m8 (m8 (m8 (m8 (m8 (List.Mem.tail _ (List.Mem.tail _ (List.Mem.head _)))))))))))))))))))))))))))))) rfl
set_option maxRecDepth 4000 in
theorem tw931 : (Jvm.Cond.selects "OneBack$Town" ({ cls := "OneBack$Town", name := "meeting", desc := "(II)I" } : Jvm.MethodName) ({ cls := "OneBack$Town", name := "meeting", desc := "(II)I" } : Jvm.MethodName)) ∈ GT := GT_m (ck4 (m8 (m8 (m8 (m8 (m8 (m8 (m8 (m8 (m8 (m8 (m8 (m8 (m8 (m8 (m8 (m8 (m8 (m8 (m8 (m8 (m8 (m8 (m8 (m8 (m8 (m8 (List.Mem.tail _ (List.Mem.tail _ (List.Mem.tail _ (List.Mem.head _))))))))))))))))))))))))))))))) rfl
set_option maxRecDepth 4000 in
theorem tw932 : (Jvm.Cond.code ({ cls := "OneBack$Town", name := "meeting", desc := "(II)I" } : Jvm.MethodName) prog_9_method_21_code (6 : Nat) (Option.some Jvm.ClassFile.FieldType.int)) ∈ GT := GT_m (ck4 (m8 (m8 (m8 (m8 (m8 (m8 (m8 (m8 (m8 (m8 (m8 (m8 (m8 (m8 (m8 (m8 (m8 (m8 (m8 (m8 (m8 (m8 (m8 (m8 (m8 (m8 (List.Mem.tail _ (List.Mem.tail _ (List.Mem.tail _ (List.Mem.tail _ (List.Mem.head _)))))))))))))))))))))))))))))))) rfl
set_option maxRecDepth 4000 in
theorem tw933 : (Jvm.Cond.methodLink "OneBackLaw" (79 : Nat) ({ cls := "OneBack", name := "sight", desc := "(II)I" } : Jvm.MethodName)) ∈ GT := GT_m (ck4 (m8 (m8 (m8 (m8 (m8 (m8 (m8 (m8 (m8 (m8 (m8 (m8 (m8 (m8 (m8 (m8 (m8 (m8 (m8 (m8 (m8 (m8 (m8 (m8 (m8 (m8 (List.Mem.tail _ (List.Mem.tail _ (List.Mem.tail _ (List.Mem.tail _ (List.Mem.tail _ (List.Mem.head _))))))))))))))))))))))))))))))))) rfl
set_option maxRecDepth 4000 in
theorem tw934 : (Jvm.Cond.instanceMethod ({ cls := "OneBack", name := "sight", desc := "(II)I" } : Jvm.MethodName)) ∈ GT := GT_m (ck4 (m8 (m8 (m8 (m8 (m8 (m8 (m8 (m8 (m8 (m8 (m8 (m8 (m8 (m8 (m8 (m8 (m8 (m8 (m8 (m8 (m8 (m8 (m8 (m8 (m8 (m8 (List.Mem.tail _ (List.Mem.tail _ (List.Mem.tail _ (List.Mem.tail _ (List.Mem.tail _ (List.Mem.tail _ (List.Mem.head _)))))))))))))))))))))))))))))))))) rfl
set_option maxRecDepth 4000 in
theorem tw935 : (Jvm.Cond.selects "OneBack" ({ cls := "OneBack", name := "sight", desc := "(II)I" } : Jvm.MethodName) ({ cls := "OneBack", name := "sight", desc := "(II)I" } : Jvm.MethodName)) ∈ GT := GT_m (ck4 (m8 (m8 (m8 (m8 (m8 (m8 (m8 (m8 (m8 (m8 (m8 (m8 (m8 (m8 (m8 (m8 (m8 (m8 (m8 (m8 (m8 (m8 (m8 (m8 (m8 (m8 (List.Mem.tail _ (List.Mem.tail _ (List.Mem.tail _ (List.Mem.tail _ (List.Mem.tail _ (List.Mem.tail _ (List.Mem.tail _ (List.Mem.head _))))))))))))))))))))))))))))))))))) rfl
set_option maxRecDepth 4000 in
theorem tw936 : (Jvm.Cond.code ({ cls := "OneBack", name := "sight", desc := "(II)I" } : Jvm.MethodName) prog_1_method_17_code (4 : Nat) (Option.some Jvm.ClassFile.FieldType.int)) ∈ GT := GT_m (ck4 (m8 (m8 (m8 (m8 (m8 (m8 (m8 (m8 (m8 (m8 (m8 (m8 (m8 (m8 (m8 (m8 (m8 (m8 (m8 (m8 (m8 (m8 (m8 (m8 (m8 (m8 (m8 (List.Mem.head _))))))))))))))))))))))))))))) rfl
set_option maxRecDepth 4000 in
theorem tw937 : (Jvm.Cond.methodLink "OneBack" (247 : Nat) ({ cls := "OneBack$Told", name := "sightAt", desc := "(I)LOneBack$Sight;" } : Jvm.MethodName)) ∈ GT := GT_m (ck4 (m8 (m8 (m8 (m8 (m8 (m8 (m8 (m8 (m8 (m8 (m8 (m8 (m8 (m8 (m8 (m8 (m8 (m8 (m8 (m8 (m8 (m8 (m8 (m8 (m8 (m8 (m8 (List.Mem.tail _ (List.Mem.head _)))))))))))))))))))))))))))))) rfl
set_option maxRecDepth 4000 in
theorem tw938 : (Jvm.Cond.instanceMethod ({ cls := "OneBack$Told", name := "sightAt", desc := "(I)LOneBack$Sight;" } : Jvm.MethodName)) ∈ GT := GT_m (ck4 (m8 (m8 (m8 (m8 (m8 (m8 (m8 (m8 (m8 (m8 (m8 (m8 (m8 (m8 (m8 (m8 (m8 (m8 (m8 (m8 (m8 (m8 (m8 (m8 (m8 (m8 (m8 (List.Mem.tail _ (List.Mem.tail _ (List.Mem.head _))))))))))))))))))))))))))))))) rfl
set_option maxRecDepth 4000 in
theorem tw939 : (Jvm.Cond.selects "OneBack$Told" ({ cls := "OneBack$Told", name := "sightAt", desc := "(I)LOneBack$Sight;" } : Jvm.MethodName) ({ cls := "OneBack$Told", name := "sightAt", desc := "(I)LOneBack$Sight;" } : Jvm.MethodName)) ∈ GT := GT_m (ck4 (m8 (m8 (m8 (m8 (m8 (m8 (m8 (m8 (m8 (m8 (m8 (m8 (m8 (m8 (m8 (m8 (m8 (m8 (m8 (m8 (m8 (m8 (m8 (m8 (m8 (m8 (m8 (List.Mem.tail _ (List.Mem.tail _ (List.Mem.tail _ (List.Mem.head _)))))))))))))))))))))))))))))))) rfl
set_option maxRecDepth 4000 in
theorem tw940 : (Jvm.Cond.code ({ cls := "OneBack$Told", name := "sightAt", desc := "(I)LOneBack$Sight;" } : Jvm.MethodName) prog_8_method_7_code (2 : Nat) (Option.some (Jvm.ClassFile.FieldType.object "OneBack$Sight"))) ∈ GT := GT_m (ck4 (m8 (m8 (m8 (m8 (m8 (m8 (m8 (m8 (m8 (m8 (m8 (m8 (m8 (m8 (m8 (m8 (m8 (m8 (m8 (m8 (m8 (m8 (m8 (m8 (m8 (m8 (m8 (List.Mem.tail _ (List.Mem.tail _ (List.Mem.tail _ (List.Mem.tail _ (List.Mem.head _))))))))))))))))))))))))))))))))) rfl
set_option maxRecDepth 4000 in
theorem tw941 : (Jvm.Cond.methodLink "OneBackLaw" (83 : Nat) ({ cls := "OneBack", name := "hands", desc := "(IIIII)I" } : Jvm.MethodName)) ∈ GT := GT_m (ck4 (m8 (m8 (m8 (m8 (m8 (m8 (m8 (m8 (m8 (m8 (m8 (m8 (m8 (m8 (m8 (m8 (m8 (m8 (m8 (m8 (m8 (m8 (m8 (m8 (m8 (m8 (m8 (List.Mem.tail _ (List.Mem.tail _ (List.Mem.tail _ (List.Mem.tail _ (List.Mem.tail _ (List.Mem.head _)))))))))))))))))))))))))))))))))) rfl
set_option maxRecDepth 4000 in
theorem tw942 : (Jvm.Cond.instanceMethod ({ cls := "OneBack", name := "hands", desc := "(IIIII)I" } : Jvm.MethodName)) ∈ GT := GT_m (ck4 (m8 (m8 (m8 (m8 (m8 (m8 (m8 (m8 (m8 (m8 (m8 (m8 (m8 (m8 (m8 (m8 (m8 (m8 (m8 (m8 (m8 (m8 (m8 (m8 (m8 (m8 (m8 (List.Mem.tail _ (List.Mem.tail _ (List.Mem.tail _ (List.Mem.tail _ (List.Mem.tail _ (List.Mem.tail _ (List.Mem.head _))))))))))))))))))))))))))))))))))) rfl
set_option maxRecDepth 4000 in
theorem tw943 : (Jvm.Cond.selects "OneBack" ({ cls := "OneBack", name := "hands", desc := "(IIIII)I" } : Jvm.MethodName) ({ cls := "OneBack", name := "hands", desc := "(IIIII)I" } : Jvm.MethodName)) ∈ GT := GT_m (ck4 (m8 (m8 (m8 (m8 (m8 (m8 (m8 (m8 (m8 (m8 (m8 (m8 (m8 (m8 (m8 (m8 (m8 (m8 (m8 (m8 (m8 (m8 (m8 (m8 (m8 (m8 (m8 (List.Mem.tail _ (List.Mem.tail _ (List.Mem.tail _ (List.Mem.tail _ (List.Mem.tail _ (List.Mem.tail _ (List.Mem.tail _ (List.Mem.head _)))))))))))))))))))))))))))))))))))) rfl
set_option maxRecDepth 4000 in
theorem tw944 : (Jvm.Cond.code ({ cls := "OneBack", name := "hands", desc := "(IIIII)I" } : Jvm.MethodName) prog_1_method_18_code (7 : Nat) (Option.some Jvm.ClassFile.FieldType.int)) ∈ GT := GT_m (ck4 (m8 (m8 (m8 (m8 (m8 (m8 (m8 (m8 (m8 (m8 (m8 (m8 (m8 (m8 (m8 (m8 (m8 (m8 (m8 (m8 (m8 (m8 (m8 (m8 (m8 (m8 (m8 (m8 (List.Mem.head _)))))))))))))))))))))))))))))) rfl
set_option maxRecDepth 4000 in
theorem tw945 : (Jvm.Cond.methodLink "OneBack" (263 : Nat) ({ cls := "OneBack$Sight", name := "ways", desc := "(LOneBack$Walk;)I" } : Jvm.MethodName)) ∈ GT := GT_m (ck4 (m8 (m8 (m8 (m8 (m8 (m8 (m8 (m8 (m8 (m8 (m8 (m8 (m8 (m8 (m8 (m8 (m8 (m8 (m8 (m8 (m8 (m8 (m8 (m8 (m8 (m8 (m8 (m8 (List.Mem.tail _ (List.Mem.head _))))))))))))))))))))))))))))))) rfl
set_option maxRecDepth 4000 in
theorem tw946 : (Jvm.Cond.instanceMethod ({ cls := "OneBack$Sight", name := "ways", desc := "(LOneBack$Walk;)I" } : Jvm.MethodName)) ∈ GT := GT_m (ck4 (m8 (m8 (m8 (m8 (m8 (m8 (m8 (m8 (m8 (m8 (m8 (m8 (m8 (m8 (m8 (m8 (m8 (m8 (m8 (m8 (m8 (m8 (m8 (m8 (m8 (m8 (m8 (m8 (List.Mem.tail _ (List.Mem.tail _ (List.Mem.head _)))))))))))))))))))))))))))))))) rfl
set_option maxRecDepth 4000 in
theorem tw947 : (Jvm.Cond.selects "OneBack$Sight" ({ cls := "OneBack$Sight", name := "ways", desc := "(LOneBack$Walk;)I" } : Jvm.MethodName) ({ cls := "OneBack$Sight", name := "ways", desc := "(LOneBack$Walk;)I" } : Jvm.MethodName)) ∈ GT := GT_m (ck4 (m8 (m8 (m8 (m8 (m8 (m8 (m8 (m8 (m8 (m8 (m8 (m8 (m8 (m8 (m8 (m8 (m8 (m8 (m8 (m8 (m8 (m8 (m8 (m8 (m8 (m8 (m8 (m8 (List.Mem.tail _ (List.Mem.tail _ (List.Mem.tail _ (List.Mem.head _))))))))))))))))))))))))))))))))) rfl
set_option maxRecDepth 4000 in
theorem tw948 : (Jvm.Cond.code ({ cls := "OneBack$Sight", name := "ways", desc := "(LOneBack$Walk;)I" } : Jvm.MethodName) prog_6_method_5_code (4 : Nat) (Option.some Jvm.ClassFile.FieldType.int)) ∈ GT := GT_m (ck4 (m8 (m8 (m8 (m8 (m8 (m8 (m8 (m8 (m8 (m8 (m8 (m8 (m8 (m8 (m8 (m8 (m8 (m8 (m8 (m8 (m8 (m8 (m8 (m8 (m8 (m8 (m8 (m8 (List.Mem.tail _ (List.Mem.tail _ (List.Mem.tail _ (List.Mem.tail _ (List.Mem.head _)))))))))))))))))))))))))))))))))) rfl
set_option maxRecDepth 4000 in
theorem tw949 : (Jvm.Cond.methodLink "OneBack$Sight" (36 : Nat) ({ cls := "OneBack$Sight", name := "alike", desc := "(III)I" } : Jvm.MethodName)) ∈ GT := GT_m (ck4 (m8 (m8 (m8 (m8 (m8 (m8 (m8 (m8 (m8 (m8 (m8 (m8 (m8 (m8 (m8 (m8 (m8 (m8 (m8 (m8 (m8 (m8 (m8 (m8 (m8 (m8 (m8 (m8 (List.Mem.tail _ (List.Mem.tail _ (List.Mem.tail _ (List.Mem.tail _ (List.Mem.tail _ (List.Mem.head _))))))))))))))))))))))))))))))))))) rfl
set_option maxRecDepth 4000 in
theorem tw951 : (Jvm.Cond.instanceMethod ({ cls := "OneBack$Sight", name := "alike", desc := "(III)I" } : Jvm.MethodName)) ∈ GT := GT_m (ck4 (m8 (m8 (m8 (m8 (m8 (m8 (m8 (m8 (m8 (m8 (m8 (m8 (m8 (m8 (m8 (m8 (m8 (m8 (m8 (m8 (m8 (m8 (m8 (m8 (m8 (m8 (m8 (m8 (List.Mem.tail _ (List.Mem.tail _ (List.Mem.tail _ (List.Mem.tail _ (List.Mem.tail _ (List.Mem.tail _ (List.Mem.tail _ (List.Mem.head _))))))))))))))))))))))))))))))))))))) rfl
set_option maxRecDepth 4000 in
theorem tw952 : (Jvm.Cond.code ({ cls := "OneBack$Sight", name := "alike", desc := "(III)I" } : Jvm.MethodName) prog_6_method_6_code (6 : Nat) (Option.some Jvm.ClassFile.FieldType.int)) ∈ GT := GT_m (ck4 (m8 (m8 (m8 (m8 (m8 (m8 (m8 (m8 (m8 (m8 (m8 (m8 (m8 (m8 (m8 (m8 (m8 (m8 (m8 (m8 (m8 (m8 (m8 (m8 (m8 (m8 (m8 (m8 (m8 (List.Mem.head _))))))))))))))))))))))))))))))) rfl
set_option maxRecDepth 4000 in
theorem tw954 : (Jvm.Cond.methodLink "OneBack$Sight" (44 : Nat) ({ cls := "OneBack$Sight", name := "waysOf", desc := "(LOneBack$Walk;III)I" } : Jvm.MethodName)) ∈ GT := GT_m (ck4 (m8 (m8 (m8 (m8 (m8 (m8 (m8 (m8 (m8 (m8 (m8 (m8 (m8 (m8 (m8 (m8 (m8 (m8 (m8 (m8 (m8 (m8 (m8 (m8 (m8 (m8 (m8 (m8 (m8 (List.Mem.tail _ (List.Mem.tail _ (List.Mem.head _))))))))))))))))))))))))))))))))) rfl
set_option maxRecDepth 4000 in
theorem tw955 : (Jvm.Cond.static ({ cls := "OneBack$Sight", name := "waysOf", desc := "(LOneBack$Walk;III)I" } : Jvm.MethodName)) ∈ GT := GT_m (ck4 (m8 (m8 (m8 (m8 (m8 (m8 (m8 (m8 (m8 (m8 (m8 (m8 (m8 (m8 (m8 (m8 (m8 (m8 (m8 (m8 (m8 (m8 (m8 (m8 (m8 (m8 (m8 (m8 (m8 (List.Mem.tail _ (List.Mem.tail _ (List.Mem.tail _ (List.Mem.head _)))))))))))))))))))))))))))))))))) rfl
set_option maxRecDepth 4000 in
theorem tw956 : (Jvm.Cond.code ({ cls := "OneBack$Sight", name := "waysOf", desc := "(LOneBack$Walk;III)I" } : Jvm.MethodName) prog_6_method_7_code (7 : Nat) (Option.some Jvm.ClassFile.FieldType.int)) ∈ GT := GT_m (ck4 (m8 (m8 (m8 (m8 (m8 (m8 (m8 (m8 (m8 (m8 (m8 (m8 (m8 (m8 (m8 (m8 (m8 (m8 (m8 (m8 (m8 (m8 (m8 (m8 (m8 (m8 (m8 (m8 (m8 (List.Mem.tail _ (List.Mem.tail _ (List.Mem.tail _ (List.Mem.tail _ (List.Mem.head _))))))))))))))))))))))))))))))))))) rfl
set_option maxRecDepth 4000 in
theorem tw957 : (Jvm.Cond.methodLink "OneBack$Sight" (53 : Nat) ({ cls := "java/lang/Math", name := "min", desc := "(II)I" } : Jvm.MethodName)) ∈ GT := GT_m (ck4 (m8 (m8 (m8 (m8 (m8 (m8 (m8 (m8 (m8 (m8 (m8 (m8 (m8 (m8 (m8 (m8 (m8 (m8 (m8 (m8 (m8 (m8 (m8 (m8 (m8 (m8 (m8 (m8 (m8 (List.Mem.tail _ (List.Mem.tail _ (List.Mem.tail _ (List.Mem.tail _ (List.Mem.tail _ (List.Mem.head _)))))))))))))))))))))))))))))))))))) rfl
set_option maxRecDepth 4000 in
theorem tw958 : (Jvm.Cond.methodLink "OneBack$Sight" (58 : Nat) ({ cls := "OneBack$Sight", name := "choices", desc := "(II)I" } : Jvm.MethodName)) ∈ GT := GT_m (ck4 (m8 (m8 (m8 (m8 (m8 (m8 (m8 (m8 (m8 (m8 (m8 (m8 (m8 (m8 (m8 (m8 (m8 (m8 (m8 (m8 (m8 (m8 (m8 (m8 (m8 (m8 (m8 (m8 (m8 (List.Mem.tail _ (List.Mem.tail _ (List.Mem.tail _ (List.Mem.tail _ (List.Mem.tail _ (List.Mem.tail _ (List.Mem.head _))))))))))))))))))))))))))))))))))))) rfl
set_option maxRecDepth 4000 in
theorem tw959 : (Jvm.Cond.static ({ cls := "OneBack$Sight", name := "choices", desc := "(II)I" } : Jvm.MethodName)) ∈ GT := GT_m (ck4 (m8 (m8 (m8 (m8 (m8 (m8 (m8 (m8 (m8 (m8 (m8 (m8 (m8 (m8 (m8 (m8 (m8 (m8 (m8 (m8 (m8 (m8 (m8 (m8 (m8 (m8 (m8 (m8 (m8 (List.Mem.tail _ (List.Mem.tail _ (List.Mem.tail _ (List.Mem.tail _ (List.Mem.tail _ (List.Mem.tail _ (List.Mem.tail _ (List.Mem.head _)))))))))))))))))))))))))))))))))))))) rfl
set_option maxRecDepth 4000 in
theorem tw960 : (Jvm.Cond.code ({ cls := "OneBack$Sight", name := "choices", desc := "(II)I" } : Jvm.MethodName) prog_6_method_8_code (4 : Nat) (Option.some Jvm.ClassFile.FieldType.int)) ∈ GT := GT_m (ck5 (List.Mem.head _)) rfl
set_option maxRecDepth 4000 in
theorem tw961 : (Jvm.Cond.methodLink "OneBack" (267 : Nat) ({ cls := "OneBack$Sight", name := "mayBe", desc := "(LOneBack$Walk;I)I" } : Jvm.MethodName)) ∈ GT := GT_m (ck5 (List.Mem.tail _ (List.Mem.head _))) rfl
set_option maxRecDepth 4000 in
theorem tw962 : (Jvm.Cond.instanceMethod ({ cls := "OneBack$Sight", name := "mayBe", desc := "(LOneBack$Walk;I)I" } : Jvm.MethodName)) ∈ GT := GT_m (ck5 (List.Mem.tail _ (List.Mem.tail _ (List.Mem.head _)))) rfl
set_option maxRecDepth 4000 in
theorem tw963 : (Jvm.Cond.selects "OneBack$Sight" ({ cls := "OneBack$Sight", name := "mayBe", desc := "(LOneBack$Walk;I)I" } : Jvm.MethodName) ({ cls := "OneBack$Sight", name := "mayBe", desc := "(LOneBack$Walk;I)I" } : Jvm.MethodName)) ∈ GT := GT_m (ck5 (List.Mem.tail _ (List.Mem.tail _ (List.Mem.tail _ (List.Mem.head _))))) rfl
set_option maxRecDepth 4000 in
theorem tw964 : (Jvm.Cond.code ({ cls := "OneBack$Sight", name := "mayBe", desc := "(LOneBack$Walk;I)I" } : Jvm.MethodName) prog_6_method_9_code (5 : Nat) (Option.some Jvm.ClassFile.FieldType.int)) ∈ GT := GT_m (ck5 (List.Mem.tail _ (List.Mem.tail _ (List.Mem.tail _ (List.Mem.tail _ (List.Mem.head _)))))) rfl
set_option maxRecDepth 4000 in
theorem tw965 : (Jvm.Cond.methodLink "OneBack$Sight" (61 : Nat) ({ cls := "OneBack$Sight", name := "ways", desc := "(LOneBack$Walk;)I" } : Jvm.MethodName)) ∈ GT := GT_m (ck5 (List.Mem.tail _ (List.Mem.tail _ (List.Mem.tail _ (List.Mem.tail _ (List.Mem.tail _ (List.Mem.head _))))))) rfl
set_option maxRecDepth 4000 in
theorem tw967 : (Jvm.Cond.methodLink "OneBackLaw" (87 : Nat) ({ cls := "OneBack", name := "moved", desc := "(IIZ)I" } : Jvm.MethodName)) ∈ GT := GT_m (ck5 (List.Mem.tail _ (List.Mem.tail _ (List.Mem.tail _ (List.Mem.tail _ (List.Mem.tail _ (List.Mem.tail _ (List.Mem.tail _ (List.Mem.head _))))))))) rfl
set_option maxRecDepth 4000 in
theorem tw968 : (Jvm.Cond.instanceMethod ({ cls := "OneBack", name := "moved", desc := "(IIZ)I" } : Jvm.MethodName)) ∈ GT := GT_m (ck5 (m8 (List.Mem.head _))) rfl
set_option maxRecDepth 4000 in
theorem tw969 : (Jvm.Cond.selects "OneBack" ({ cls := "OneBack", name := "moved", desc := "(IIZ)I" } : Jvm.MethodName) ({ cls := "OneBack", name := "moved", desc := "(IIZ)I" } : Jvm.MethodName)) ∈ GT := GT_m (ck5 (m8 (List.Mem.tail _ (List.Mem.head _)))) rfl
set_option maxRecDepth 4000 in
theorem tw970 : (Jvm.Cond.code ({ cls := "OneBack", name := "moved", desc := "(IIZ)I" } : Jvm.MethodName) prog_1_method_19_code (6 : Nat) (Option.some Jvm.ClassFile.FieldType.int)) ∈ GT := GT_m (ck5 (m8 (List.Mem.tail _ (List.Mem.tail _ (List.Mem.head _))))) rfl
set_option maxRecDepth 4000 in
theorem tw971 : (Jvm.Cond.methodLink "OneBack" (270 : Nat) ({ cls := "OneBack$Sight", name := "movedFrom", desc := "(LOneBack$Town;Z)I" } : Jvm.MethodName)) ∈ GT := GT_m (ck5 (m8 (List.Mem.tail _ (List.Mem.tail _ (List.Mem.tail _ (List.Mem.head _)))))) rfl
set_option maxRecDepth 4000 in
theorem tw972 : (Jvm.Cond.instanceMethod ({ cls := "OneBack$Sight", name := "movedFrom", desc := "(LOneBack$Town;Z)I" } : Jvm.MethodName)) ∈ GT := GT_m (ck5 (m8 (List.Mem.tail _ (List.Mem.tail _ (List.Mem.tail _ (List.Mem.tail _ (List.Mem.head _))))))) rfl
set_option maxRecDepth 4000 in
theorem tw973 : (Jvm.Cond.selects "OneBack$Sight" ({ cls := "OneBack$Sight", name := "movedFrom", desc := "(LOneBack$Town;Z)I" } : Jvm.MethodName) ({ cls := "OneBack$Sight", name := "movedFrom", desc := "(LOneBack$Town;Z)I" } : Jvm.MethodName)) ∈ GT := GT_m (ck5 (m8 (List.Mem.tail _ (List.Mem.tail _ (List.Mem.tail _ (List.Mem.tail _ (List.Mem.tail _ (List.Mem.head _)))))))) rfl
set_option maxRecDepth 4000 in
theorem tw974 : (Jvm.Cond.code ({ cls := "OneBack$Sight", name := "movedFrom", desc := "(LOneBack$Town;Z)I" } : Jvm.MethodName) prog_6_method_10_code (6 : Nat) (Option.some Jvm.ClassFile.FieldType.int)) ∈ GT := GT_m (ck5 (m8 (List.Mem.tail _ (List.Mem.tail _ (List.Mem.tail _ (List.Mem.tail _ (List.Mem.tail _ (List.Mem.tail _ (List.Mem.head _))))))))) rfl
set_option maxRecDepth 4000 in
theorem tw975 : (Jvm.Cond.methodLink "OneBack$Sight" (67 : Nat) ({ cls := "OneBack$Sight", name := "isTold", desc := "(LOneBack$Town;I)Z" } : Jvm.MethodName)) ∈ GT := GT_m (ck5 (m8 (List.Mem.tail _ (List.Mem.tail _ (List.Mem.tail _ (List.Mem.tail _ (List.Mem.tail _ (List.Mem.tail _ (List.Mem.tail _ (List.Mem.head _)))))))))) rfl
set_option maxRecDepth 4000 in
theorem tw977 : (Jvm.Cond.instanceMethod ({ cls := "OneBack$Sight", name := "isTold", desc := "(LOneBack$Town;I)Z" } : Jvm.MethodName)) ∈ GT := GT_m (ck5 (m8 (m8 (List.Mem.tail _ (List.Mem.head _))))) rfl
set_option maxRecDepth 4000 in
theorem tw978 : (Jvm.Cond.code ({ cls := "OneBack$Sight", name := "isTold", desc := "(LOneBack$Town;I)Z" } : Jvm.MethodName) prog_6_method_11_code (4 : Nat) (Option.some Jvm.ClassFile.FieldType.boolean)) ∈ GT := GT_m (ck5 (m8 (m8 (List.Mem.tail _ (List.Mem.tail _ (List.Mem.head _)))))) rfl
set_option maxRecDepth 4000 in
theorem tw979 : (Jvm.Cond.methodLink "OneBack$Sight" (71 : Nat) ({ cls := "OneBack$Sight", name := "movedOf", desc := "(LOneBack$Town;IZ)I" } : Jvm.MethodName)) ∈ GT := GT_m (ck5 (m8 (m8 (List.Mem.tail _ (List.Mem.tail _ (List.Mem.tail _ (List.Mem.head _))))))) rfl
set_option maxRecDepth 4000 in
theorem tw981 : (Jvm.Cond.instanceMethod ({ cls := "OneBack$Sight", name := "movedOf", desc := "(LOneBack$Town;IZ)I" } : Jvm.MethodName)) ∈ GT := GT_m (ck5 (m8 (m8 (List.Mem.tail _ (List.Mem.tail _ (List.Mem.tail _ (List.Mem.tail _ (List.Mem.tail _ (List.Mem.head _))))))))) rfl
set_option maxRecDepth 4000 in
theorem tw982 : (Jvm.Cond.code ({ cls := "OneBack$Sight", name := "movedOf", desc := "(LOneBack$Town;IZ)I" } : Jvm.MethodName) prog_6_method_12_code (9 : Nat) (Option.some Jvm.ClassFile.FieldType.int)) ∈ GT := GT_m (ck5 (m8 (m8 (List.Mem.tail _ (List.Mem.tail _ (List.Mem.tail _ (List.Mem.tail _ (List.Mem.tail _ (List.Mem.tail _ (List.Mem.head _)))))))))) rfl
set_option maxRecDepth 4000 in
theorem tw983 : (Jvm.Cond.methodLink "OneBack$Sight" (83 : Nat) ({ cls := "java/lang/Math", name := "max", desc := "(II)I" } : Jvm.MethodName)) ∈ GT := GT_m (ck5 (m8 (m8 (List.Mem.tail _ (List.Mem.tail _ (List.Mem.tail _ (List.Mem.tail _ (List.Mem.tail _ (List.Mem.tail _ (List.Mem.tail _ (List.Mem.head _))))))))))) rfl
set_option maxRecDepth 4000 in
theorem tw984 : (Jvm.Cond.methodLink "OneBack$Sight" (86 : Nat) ({ cls := "java/lang/Math", name := "abs", desc := "(I)I" } : Jvm.MethodName)) ∈ GT := GT_m (ck5 (m8 (m8 (m8 (List.Mem.head _))))) rfl
set_option maxRecDepth 4000 in
theorem tw985 : (Jvm.Cond.methodLink "OneBackLaw" (92 : Nat) ({ cls := "OneBack", name := "quit", desc := "(IIIII)I" } : Jvm.MethodName)) ∈ GT := GT_m (ck5 (m8 (m8 (m8 (List.Mem.tail _ (List.Mem.head _)))))) rfl
set_option maxRecDepth 4000 in
theorem tw986 : (Jvm.Cond.instanceMethod ({ cls := "OneBack", name := "quit", desc := "(IIIII)I" } : Jvm.MethodName)) ∈ GT := GT_m (ck5 (m8 (m8 (m8 (List.Mem.tail _ (List.Mem.tail _ (List.Mem.head _))))))) rfl
set_option maxRecDepth 4000 in
theorem tw987 : (Jvm.Cond.selects "OneBack" ({ cls := "OneBack", name := "quit", desc := "(IIIII)I" } : Jvm.MethodName) ({ cls := "OneBack", name := "quit", desc := "(IIIII)I" } : Jvm.MethodName)) ∈ GT := GT_m (ck5 (m8 (m8 (m8 (List.Mem.tail _ (List.Mem.tail _ (List.Mem.tail _ (List.Mem.head _)))))))) rfl
set_option maxRecDepth 4000 in
theorem tw988 : (Jvm.Cond.code ({ cls := "OneBack", name := "quit", desc := "(IIIII)I" } : Jvm.MethodName) prog_1_method_20_code (7 : Nat) (Option.some Jvm.ClassFile.FieldType.int)) ∈ GT := GT_m (ck5 (m8 (m8 (m8 (List.Mem.tail _ (List.Mem.tail _ (List.Mem.tail _ (List.Mem.tail _ (List.Mem.head _))))))))) rfl
set_option maxRecDepth 4000 in
theorem tw989 : (Jvm.Cond.methodLink "OneBack" (274 : Nat) ({ cls := "OneBack$Law", name := "firstQuit", desc := "(III)I" } : Jvm.MethodName)) ∈ GT := GT_m (ck5 (m8 (m8 (m8 (List.Mem.tail _ (List.Mem.tail _ (List.Mem.tail _ (List.Mem.tail _ (List.Mem.tail _ (List.Mem.head _)))))))))) rfl
set_option maxRecDepth 4000 in
theorem tw990 : (Jvm.Cond.instanceMethod ({ cls := "OneBack$Law", name := "firstQuit", desc := "(III)I" } : Jvm.MethodName)) ∈ GT := GT_m (ck5 (m8 (m8 (m8 (List.Mem.tail _ (List.Mem.tail _ (List.Mem.tail _ (List.Mem.tail _ (List.Mem.tail _ (List.Mem.tail _ (List.Mem.head _))))))))))) rfl
set_option maxRecDepth 4000 in
theorem tw991 : (Jvm.Cond.selects "OneBack$Law" ({ cls := "OneBack$Law", name := "firstQuit", desc := "(III)I" } : Jvm.MethodName) ({ cls := "OneBack$Law", name := "firstQuit", desc := "(III)I" } : Jvm.MethodName)) ∈ GT := GT_m (ck5 (m8 (m8 (m8 (List.Mem.tail _ (List.Mem.tail _ (List.Mem.tail _ (List.Mem.tail _ (List.Mem.tail _ (List.Mem.tail _ (List.Mem.tail _ (List.Mem.head _)))))))))))) rfl
set_option maxRecDepth 4000 in
theorem tw992 : (Jvm.Cond.code ({ cls := "OneBack$Law", name := "firstQuit", desc := "(III)I" } : Jvm.MethodName) prog_2_method_7_code (6 : Nat) (Option.some Jvm.ClassFile.FieldType.int)) ∈ GT := GT_m (ck5 (m8 (m8 (m8 (m8 (List.Mem.head _)))))) rfl
set_option maxRecDepth 4000 in
theorem tw993 : (Jvm.Cond.methodLink "OneBack$Law" (21 : Nat) ({ cls := "OneBack$Law", name := "counts", desc := "(I)I" } : Jvm.MethodName)) ∈ GT := GT_m (ck5 (m8 (m8 (m8 (m8 (List.Mem.tail _ (List.Mem.head _))))))) rfl
set_option maxRecDepth 4000 in
theorem tw994 : (Jvm.Cond.methodLink "OneBack" (277 : Nat) ({ cls := "OneBack$Law", name := "fewestGifts", desc := "(IIII)I" } : Jvm.MethodName)) ∈ GT := GT_m (ck5 (m8 (m8 (m8 (m8 (List.Mem.tail _ (List.Mem.tail _ (List.Mem.head _)))))))) rfl
set_option maxRecDepth 4000 in
theorem tw995 : (Jvm.Cond.instanceMethod ({ cls := "OneBack$Law", name := "fewestGifts", desc := "(IIII)I" } : Jvm.MethodName)) ∈ GT := GT_m (ck5 (m8 (m8 (m8 (m8 (List.Mem.tail _ (List.Mem.tail _ (List.Mem.tail _ (List.Mem.head _))))))))) rfl
set_option maxRecDepth 4000 in
theorem tw996 : (Jvm.Cond.selects "OneBack$Law" ({ cls := "OneBack$Law", name := "fewestGifts", desc := "(IIII)I" } : Jvm.MethodName) ({ cls := "OneBack$Law", name := "fewestGifts", desc := "(IIII)I" } : Jvm.MethodName)) ∈ GT := GT_m (ck5 (m8 (m8 (m8 (m8 (List.Mem.tail _ (List.Mem.tail _ (List.Mem.tail _ (List.Mem.tail _ (List.Mem.head _)))))))))) rfl
set_option maxRecDepth 4000 in
theorem tw997 : (Jvm.Cond.code ({ cls := "OneBack$Law", name := "fewestGifts", desc := "(IIII)I" } : Jvm.MethodName) prog_2_method_8_code (9 : Nat) (Option.some Jvm.ClassFile.FieldType.int)) ∈ GT := GT_m (ck5 (m8 (m8 (m8 (m8 (List.Mem.tail _ (List.Mem.tail _ (List.Mem.tail _ (List.Mem.tail _ (List.Mem.tail _ (List.Mem.head _))))))))))) rfl
set_option maxRecDepth 4000 in
theorem tw998 : (Jvm.Cond.methodLink "OneBack$Law" (25 : Nat) ({ cls := "java/lang/Math", name := "min", desc := "(II)I" } : Jvm.MethodName)) ∈ GT := GT_m (ck5 (m8 (m8 (m8 (m8 (List.Mem.tail _ (List.Mem.tail _ (List.Mem.tail _ (List.Mem.tail _ (List.Mem.tail _ (List.Mem.tail _ (List.Mem.head _)))))))))))) rfl
set_option maxRecDepth 4000 in
theorem tw999 : (Jvm.Cond.methodLink "OneBack$Law" (31 : Nat) ({ cls := "java/lang/Math", name := "max", desc := "(II)I" } : Jvm.MethodName)) ∈ GT := GT_m (ck5 (m8 (m8 (m8 (m8 (List.Mem.tail _ (List.Mem.tail _ (List.Mem.tail _ (List.Mem.tail _ (List.Mem.tail _ (List.Mem.tail _ (List.Mem.tail _ (List.Mem.head _))))))))))))) rfl
set_option maxRecDepth 4000 in
theorem tw1000 : (Jvm.Cond.methodLink "OneBackLaw" (96 : Nat) ({ cls := "OneBack", name := "alms", desc := "(IZ)I" } : Jvm.MethodName)) ∈ GT := GT_m (ck5 (m8 (m8 (m8 (m8 (m8 (List.Mem.head _))))))) rfl
set_option maxRecDepth 4000 in
theorem tw1001 : (Jvm.Cond.instanceMethod ({ cls := "OneBack", name := "alms", desc := "(IZ)I" } : Jvm.MethodName)) ∈ GT := GT_m (ck5 (m8 (m8 (m8 (m8 (m8 (List.Mem.tail _ (List.Mem.head _)))))))) rfl
set_option maxRecDepth 4000 in
theorem tw1002 : (Jvm.Cond.selects "OneBack" ({ cls := "OneBack", name := "alms", desc := "(IZ)I" } : Jvm.MethodName) ({ cls := "OneBack", name := "alms", desc := "(IZ)I" } : Jvm.MethodName)) ∈ GT := GT_m (ck5 (m8 (m8 (m8 (m8 (m8 (List.Mem.tail _ (List.Mem.tail _ (List.Mem.head _))))))))) rfl
set_option maxRecDepth 4000 in
theorem tw1003 : (Jvm.Cond.code ({ cls := "OneBack", name := "alms", desc := "(IZ)I" } : Jvm.MethodName) prog_1_method_21_code (3 : Nat) (Option.some Jvm.ClassFile.FieldType.int)) ∈ GT := GT_m (ck5 (m8 (m8 (m8 (m8 (m8 (List.Mem.tail _ (List.Mem.tail _ (List.Mem.tail _ (List.Mem.head _)))))))))) rfl
set_option maxRecDepth 4000 in
theorem tw1004 : (Jvm.Cond.methodLink "OneBack" (281 : Nat) ({ cls := "OneBack", name := "weighings", desc := "(I)I" } : Jvm.MethodName)) ∈ GT := GT_m (ck5 (m8 (m8 (m8 (m8 (m8 (List.Mem.tail _ (List.Mem.tail _ (List.Mem.tail _ (List.Mem.tail _ (List.Mem.head _))))))))))) rfl
set_option maxRecDepth 4000 in
theorem tw1005 : (Jvm.Cond.static ({ cls := "OneBack", name := "weighings", desc := "(I)I" } : Jvm.MethodName)) ∈ GT := GT_m (ck5 (m8 (m8 (m8 (m8 (m8 (List.Mem.tail _ (List.Mem.tail _ (List.Mem.tail _ (List.Mem.tail _ (List.Mem.tail _ (List.Mem.head _)))))))))))) rfl
set_option maxRecDepth 4000 in
theorem tw1006 : (Jvm.Cond.code ({ cls := "OneBack", name := "weighings", desc := "(I)I" } : Jvm.MethodName) prog_1_method_39_code (3 : Nat) (Option.some Jvm.ClassFile.FieldType.int)) ∈ GT := GT_m (ck5 (m8 (m8 (m8 (m8 (m8 (List.Mem.tail _ (List.Mem.tail _ (List.Mem.tail _ (List.Mem.tail _ (List.Mem.tail _ (List.Mem.tail _ (List.Mem.head _))))))))))))) rfl
set_option maxRecDepth 4000 in
theorem tw1007 : (Jvm.Cond.methodLink "OneBackLaw" (101 : Nat) ({ cls := "OneBack", name := "prize", desc := "(III)I" } : Jvm.MethodName)) ∈ GT := GT_m (ck5 (m8 (m8 (m8 (m8 (m8 (List.Mem.tail _ (List.Mem.tail _ (List.Mem.tail _ (List.Mem.tail _ (List.Mem.tail _ (List.Mem.tail _ (List.Mem.tail _ (List.Mem.head _)))))))))))))) rfl
set_option maxRecDepth 4000 in
theorem tw1008 : (Jvm.Cond.instanceMethod ({ cls := "OneBack", name := "prize", desc := "(III)I" } : Jvm.MethodName)) ∈ GT := GT_m (ck5 (m8 (m8 (m8 (m8 (m8 (m8 (List.Mem.head _)))))))) rfl
set_option maxRecDepth 4000 in
theorem tw1009 : (Jvm.Cond.selects "OneBack" ({ cls := "OneBack", name := "prize", desc := "(III)I" } : Jvm.MethodName) ({ cls := "OneBack", name := "prize", desc := "(III)I" } : Jvm.MethodName)) ∈ GT := GT_m (ck5 (m8 (m8 (m8 (m8 (m8 (m8 (List.Mem.tail _ (List.Mem.head _))))))))) rfl
set_option maxRecDepth 4000 in
theorem tw1010 : (Jvm.Cond.code ({ cls := "OneBack", name := "prize", desc := "(III)I" } : Jvm.MethodName) prog_1_method_22_code (5 : Nat) (Option.some Jvm.ClassFile.FieldType.int)) ∈ GT := GT_m (ck5 (m8 (m8 (m8 (m8 (m8 (m8 (List.Mem.tail _ (List.Mem.tail _ (List.Mem.head _)))))))))) rfl
set_option maxRecDepth 4000 in
theorem tw1011 : (Jvm.Cond.methodLink "OneBack" (284 : Nat) ({ cls := "OneBack$Town", name := "prizeOf", desc := "(II)I" } : Jvm.MethodName)) ∈ GT := GT_m (ck5 (m8 (m8 (m8 (m8 (m8 (m8 (List.Mem.tail _ (List.Mem.tail _ (List.Mem.tail _ (List.Mem.head _))))))))))) rfl
set_option maxRecDepth 4000 in
theorem tw1012 : (Jvm.Cond.instanceMethod ({ cls := "OneBack$Town", name := "prizeOf", desc := "(II)I" } : Jvm.MethodName)) ∈ GT := GT_m (ck5 (m8 (m8 (m8 (m8 (m8 (m8 (List.Mem.tail _ (List.Mem.tail _ (List.Mem.tail _ (List.Mem.tail _ (List.Mem.head _)))))))))))) rfl
set_option maxRecDepth 4000 in
theorem tw1013 : (Jvm.Cond.selects "OneBack$Town" ({ cls := "OneBack$Town", name := "prizeOf", desc := "(II)I" } : Jvm.MethodName) ({ cls := "OneBack$Town", name := "prizeOf", desc := "(II)I" } : Jvm.MethodName)) ∈ GT := GT_m (ck5 (m8 (m8 (m8 (m8 (m8 (m8 (List.Mem.tail _ (List.Mem.tail _ (List.Mem.tail _ (List.Mem.tail _ (List.Mem.tail _ (List.Mem.head _))))))))))))) rfl
set_option maxRecDepth 4000 in
theorem tw1014 : (Jvm.Cond.code ({ cls := "OneBack$Town", name := "prizeOf", desc := "(II)I" } : Jvm.MethodName) prog_9_method_22_code (4 : Nat) (Option.some Jvm.ClassFile.FieldType.int)) ∈ GT := GT_m (ck5 (m8 (m8 (m8 (m8 (m8 (m8 (List.Mem.tail _ (List.Mem.tail _ (List.Mem.tail _ (List.Mem.tail _ (List.Mem.tail _ (List.Mem.tail _ (List.Mem.head _)))))))))))))) rfl
set_option maxRecDepth 4000 in
theorem tw1015 : (Jvm.Cond.methodLink "OneBack$Town" (91 : Nat) ({ cls := "OneBack$Town", name := "worthIn", desc := "([II)I" } : Jvm.MethodName)) ∈ GT := GT_m (ck5 (m8 (m8 (m8 (m8 (m8 (m8 (List.Mem.tail _ (List.Mem.tail _ (List.Mem.tail _ (List.Mem.tail _ (List.Mem.tail _ (List.Mem.tail _ (List.Mem.tail _ (List.Mem.head _))))))))))))))) rfl
set_option maxRecDepth 4000 in
theorem tw1016 : (Jvm.Cond.instanceMethod ({ cls := "OneBack$Town", name := "worthIn", desc := "([II)I" } : Jvm.MethodName)) ∈ GT := GT_m (ck5 (m8 (m8 (m8 (m8 (m8 (m8 (m8 (List.Mem.head _))))))))) rfl
set_option maxRecDepth 4000 in
theorem tw1017 : (Jvm.Cond.selects "OneBack$Town" ({ cls := "OneBack$Town", name := "worthIn", desc := "([II)I" } : Jvm.MethodName) ({ cls := "OneBack$Town", name := "worthIn", desc := "([II)I" } : Jvm.MethodName)) ∈ GT := GT_m (ck5 (m8 (m8 (m8 (m8 (m8 (m8 (m8 (List.Mem.tail _ (List.Mem.head _)))))))))) rfl
set_option maxRecDepth 4000 in
theorem tw1018 : (Jvm.Cond.code ({ cls := "OneBack$Town", name := "worthIn", desc := "([II)I" } : Jvm.MethodName) prog_9_method_13_code (5 : Nat) (Option.some Jvm.ClassFile.FieldType.int)) ∈ GT := GT_m (ck5 (m8 (m8 (m8 (m8 (m8 (m8 (m8 (List.Mem.tail _ (List.Mem.tail _ (List.Mem.head _))))))))))) rfl
set_option maxRecDepth 4000 in
theorem tw1019 : (Jvm.Cond.methodLink "OneBackLaw" (105 : Nat) ({ cls := "OneBack", name := "rest", desc := "(II)I" } : Jvm.MethodName)) ∈ GT := GT_m (ck5 (m8 (m8 (m8 (m8 (m8 (m8 (m8 (List.Mem.tail _ (List.Mem.tail _ (List.Mem.tail _ (List.Mem.head _)))))))))))) rfl
set_option maxRecDepth 4000 in
theorem tw1020 : (Jvm.Cond.instanceMethod ({ cls := "OneBack", name := "rest", desc := "(II)I" } : Jvm.MethodName)) ∈ GT := GT_m (ck5 (m8 (m8 (m8 (m8 (m8 (m8 (m8 (List.Mem.tail _ (List.Mem.tail _ (List.Mem.tail _ (List.Mem.tail _ (List.Mem.head _))))))))))))) rfl
set_option maxRecDepth 4000 in
theorem tw1021 : (Jvm.Cond.selects "OneBack" ({ cls := "OneBack", name := "rest", desc := "(II)I" } : Jvm.MethodName) ({ cls := "OneBack", name := "rest", desc := "(II)I" } : Jvm.MethodName)) ∈ GT := GT_m (ck5 (m8 (m8 (m8 (m8 (m8 (m8 (m8 (List.Mem.tail _ (List.Mem.tail _ (List.Mem.tail _ (List.Mem.tail _ (List.Mem.tail _ (List.Mem.head _)))))))))))))) rfl
set_option maxRecDepth 4000 in
theorem tw1022 : (Jvm.Cond.code ({ cls := "OneBack", name := "rest", desc := "(II)I" } : Jvm.MethodName) prog_1_method_23_code (4 : Nat) (Option.some Jvm.ClassFile.FieldType.int)) ∈ GT := GT_m (ck5 (m8 (m8 (m8 (m8 (m8 (m8 (m8 (List.Mem.tail _ (List.Mem.tail _ (List.Mem.tail _ (List.Mem.tail _ (List.Mem.tail _ (List.Mem.tail _ (List.Mem.head _))))))))))))))) rfl
set_option maxRecDepth 4000 in
theorem tw1023 : (Jvm.Cond.methodLink "OneBack" (287 : Nat) ({ cls := "OneBack$Town", name := "restAt", desc := "(I)I" } : Jvm.MethodName)) ∈ GT := GT_m (ck5 (m8 (m8 (m8 (m8 (m8 (m8 (m8 (List.Mem.tail _ (List.Mem.tail _ (List.Mem.tail _ (List.Mem.tail _ (List.Mem.tail _ (List.Mem.tail _ (List.Mem.tail _ (List.Mem.head _)))))))))))))))) rfl
set_option maxRecDepth 4000 in
theorem tw1024 : (Jvm.Cond.instanceMethod ({ cls := "OneBack$Town", name := "restAt", desc := "(I)I" } : Jvm.MethodName)) ∈ GT := GT_m (ck5 (m8 (m8 (m8 (m8 (m8 (m8 (m8 (m8 (List.Mem.head _)))))))))) rfl
set_option maxRecDepth 4000 in
theorem tw1025 : (Jvm.Cond.selects "OneBack$Town" ({ cls := "OneBack$Town", name := "restAt", desc := "(I)I" } : Jvm.MethodName) ({ cls := "OneBack$Town", name := "restAt", desc := "(I)I" } : Jvm.MethodName)) ∈ GT := GT_m (ck5 (m8 (m8 (m8 (m8 (m8 (m8 (m8 (m8 (List.Mem.tail _ (List.Mem.head _))))))))))) rfl
set_option maxRecDepth 4000 in
theorem tw1026 : (Jvm.Cond.code ({ cls := "OneBack$Town", name := "restAt", desc := "(I)I" } : Jvm.MethodName) prog_9_method_23_code (5 : Nat) (Option.some Jvm.ClassFile.FieldType.int)) ∈ GT := GT_m (ck5 (m8 (m8 (m8 (m8 (m8 (m8 (m8 (m8 (List.Mem.tail _ (List.Mem.tail _ (List.Mem.head _)))))))))))) rfl
set_option maxRecDepth 4000 in
theorem tw1027 : (Jvm.Cond.methodLink "OneBack$Town" (95 : Nat) ({ cls := "OneBack$Town", name := "isBest", desc := "(II)Z" } : Jvm.MethodName)) ∈ GT := GT_m (ck5 (m8 (m8 (m8 (m8 (m8 (m8 (m8 (m8 (List.Mem.tail _ (List.Mem.tail _ (List.Mem.tail _ (List.Mem.head _))))))))))))) rfl
set_option maxRecDepth 4000 in
theorem tw1029 : (Jvm.Cond.instanceMethod ({ cls := "OneBack$Town", name := "isBest", desc := "(II)Z" } : Jvm.MethodName)) ∈ GT := GT_m (ck5 (m8 (m8 (m8 (m8 (m8 (m8 (m8 (m8 (List.Mem.tail _ (List.Mem.tail _ (List.Mem.tail _ (List.Mem.tail _ (List.Mem.tail _ (List.Mem.head _))))))))))))))) rfl
set_option maxRecDepth 4000 in
theorem tw1030 : (Jvm.Cond.code ({ cls := "OneBack$Town", name := "isBest", desc := "(II)Z" } : Jvm.MethodName) prog_9_method_24_code (4 : Nat) (Option.some Jvm.ClassFile.FieldType.boolean)) ∈ GT := GT_m (ck5 (m8 (m8 (m8 (m8 (m8 (m8 (m8 (m8 (List.Mem.tail _ (List.Mem.tail _ (List.Mem.tail _ (List.Mem.tail _ (List.Mem.tail _ (List.Mem.tail _ (List.Mem.head _)))))))))))))))) rfl
set_option maxRecDepth 4000 in
theorem tw1031 : (Jvm.Cond.methodLink "OneBack$Town" (98 : Nat) ({ cls := "OneBack$Town", name := "prizeOf", desc := "(II)I" } : Jvm.MethodName)) ∈ GT := GT_m (ck5 (m8 (m8 (m8 (m8 (m8 (m8 (m8 (m8 (List.Mem.tail _ (List.Mem.tail _ (List.Mem.tail _ (List.Mem.tail _ (List.Mem.tail _ (List.Mem.tail _ (List.Mem.tail _ (List.Mem.head _))))))))))))))))) rfl
set_option maxRecDepth 4000 in
theorem tw1032 : (Jvm.Cond.methodLink "OneBackLaw" (109 : Nat) ({ cls := "OneBack", name := "share", desc := "(IIZ)I" } : Jvm.MethodName)) ∈ GT := GT_m (ck5 (m8 (m8 (m8 (m8 (m8 (m8 (m8 (m8 (m8 (List.Mem.head _))))))))))) rfl
set_option maxRecDepth 4000 in
theorem tw1033 : (Jvm.Cond.instanceMethod ({ cls := "OneBack", name := "share", desc := "(IIZ)I" } : Jvm.MethodName)) ∈ GT := GT_m (ck5 (m8 (m8 (m8 (m8 (m8 (m8 (m8 (m8 (m8 (List.Mem.tail _ (List.Mem.head _)))))))))))) rfl
set_option maxRecDepth 4000 in
theorem tw1034 : (Jvm.Cond.selects "OneBack" ({ cls := "OneBack", name := "share", desc := "(IIZ)I" } : Jvm.MethodName) ({ cls := "OneBack", name := "share", desc := "(IIZ)I" } : Jvm.MethodName)) ∈ GT := GT_m (ck5 (m8 (m8 (m8 (m8 (m8 (m8 (m8 (m8 (m8 (List.Mem.tail _ (List.Mem.tail _ (List.Mem.head _))))))))))))) rfl
set_option maxRecDepth 4000 in
theorem tw1035 : (Jvm.Cond.code ({ cls := "OneBack", name := "share", desc := "(IIZ)I" } : Jvm.MethodName) prog_1_method_24_code (7 : Nat) (Option.some Jvm.ClassFile.FieldType.int)) ∈ GT := GT_m (ck5 (m8 (m8 (m8 (m8 (m8 (m8 (m8 (m8 (m8 (List.Mem.tail _ (List.Mem.tail _ (List.Mem.tail _ (List.Mem.head _)))))))))))))) rfl
set_option maxRecDepth 4000 in
theorem tw1036 : (Jvm.Cond.methodLink "OneBack" (290 : Nat) ({ cls := "OneBack$Town", name := "worthIn", desc := "([II)I" } : Jvm.MethodName)) ∈ GT := GT_m (ck5 (m8 (m8 (m8 (m8 (m8 (m8 (m8 (m8 (m8 (List.Mem.tail _ (List.Mem.tail _ (List.Mem.tail _ (List.Mem.tail _ (List.Mem.head _))))))))))))))) rfl
set_option maxRecDepth 4000 in
theorem tw1037 : (Jvm.Cond.methodLink "OneBack" (294 : Nat) ({ cls := "OneBack", name := "leastTerms", desc := "(IIZ)I" } : Jvm.MethodName)) ∈ GT := GT_m (ck5 (m8 (m8 (m8 (m8 (m8 (m8 (m8 (m8 (m8 (List.Mem.tail _ (List.Mem.tail _ (List.Mem.tail _ (List.Mem.tail _ (List.Mem.tail _ (List.Mem.head _)))))))))))))))) rfl
set_option maxRecDepth 4000 in
theorem tw1038 : (Jvm.Cond.static ({ cls := "OneBack", name := "leastTerms", desc := "(IIZ)I" } : Jvm.MethodName)) ∈ GT := GT_m (ck5 (m8 (m8 (m8 (m8 (m8 (m8 (m8 (m8 (m8 (List.Mem.tail _ (List.Mem.tail _ (List.Mem.tail _ (List.Mem.tail _ (List.Mem.tail _ (List.Mem.tail _ (List.Mem.head _))))))))))))))))) rfl
set_option maxRecDepth 4000 in
theorem tw1039 : (Jvm.Cond.code ({ cls := "OneBack", name := "leastTerms", desc := "(IIZ)I" } : Jvm.MethodName) prog_1_method_40_code (4 : Nat) (Option.some Jvm.ClassFile.FieldType.int)) ∈ GT := GT_m (ck5 (m8 (m8 (m8 (m8 (m8 (m8 (m8 (m8 (m8 (List.Mem.tail _ (List.Mem.tail _ (List.Mem.tail _ (List.Mem.tail _ (List.Mem.tail _ (List.Mem.tail _ (List.Mem.tail _ (List.Mem.head _)))))))))))))))))) rfl
set_option maxRecDepth 4000 in
theorem tw1040 : (Jvm.Cond.methodLink "OneBack" (342 : Nat) ({ cls := "OneBack", name := "commonDivisor", desc := "(II)I" } : Jvm.MethodName)) ∈ GT := GT_m (ck5 (m8 (m8 (m8 (m8 (m8 (m8 (m8 (m8 (m8 (m8 (List.Mem.head _)))))))))))) rfl
set_option maxRecDepth 4000 in
theorem tw1041 : (Jvm.Cond.methodLink "OneBackLaw" (113 : Nat) ({ cls := "OneBack", name := "even", desc := "(II)I" } : Jvm.MethodName)) ∈ GT := GT_m (ck5 (m8 (m8 (m8 (m8 (m8 (m8 (m8 (m8 (m8 (m8 (List.Mem.tail _ (List.Mem.head _))))))))))))) rfl
set_option maxRecDepth 4000 in
theorem tw1042 : (Jvm.Cond.instanceMethod ({ cls := "OneBack", name := "even", desc := "(II)I" } : Jvm.MethodName)) ∈ GT := GT_m (ck5 (m8 (m8 (m8 (m8 (m8 (m8 (m8 (m8 (m8 (m8 (List.Mem.tail _ (List.Mem.tail _ (List.Mem.head _)))))))))))))) rfl
set_option maxRecDepth 4000 in
theorem tw1043 : (Jvm.Cond.selects "OneBack" ({ cls := "OneBack", name := "even", desc := "(II)I" } : Jvm.MethodName) ({ cls := "OneBack", name := "even", desc := "(II)I" } : Jvm.MethodName)) ∈ GT := GT_m (ck5 (m8 (m8 (m8 (m8 (m8 (m8 (m8 (m8 (m8 (m8 (List.Mem.tail _ (List.Mem.tail _ (List.Mem.tail _ (List.Mem.head _))))))))))))))) rfl
set_option maxRecDepth 4000 in
theorem tw1044 : (Jvm.Cond.code ({ cls := "OneBack", name := "even", desc := "(II)I" } : Jvm.MethodName) prog_1_method_25_code (4 : Nat) (Option.some Jvm.ClassFile.FieldType.int)) ∈ GT := GT_m (ck5 (m8 (m8 (m8 (m8 (m8 (m8 (m8 (m8 (m8 (m8 (List.Mem.tail _ (List.Mem.tail _ (List.Mem.tail _ (List.Mem.tail _ (List.Mem.head _)))))))))))))))) rfl
set_option maxRecDepth 4000 in
theorem tw1045 : (Jvm.Cond.methodLink "OneBack" (298 : Nat) ({ cls := "OneBack$Town", name := "evenOut", desc := "(I)I" } : Jvm.MethodName)) ∈ GT := GT_m (ck5 (m8 (m8 (m8 (m8 (m8 (m8 (m8 (m8 (m8 (m8 (List.Mem.tail _ (List.Mem.tail _ (List.Mem.tail _ (List.Mem.tail _ (List.Mem.tail _ (List.Mem.head _))))))))))))))))) rfl
set_option maxRecDepth 4000 in
theorem tw1046 : (Jvm.Cond.instanceMethod ({ cls := "OneBack$Town", name := "evenOut", desc := "(I)I" } : Jvm.MethodName)) ∈ GT := GT_m (ck5 (m8 (m8 (m8 (m8 (m8 (m8 (m8 (m8 (m8 (m8 (List.Mem.tail _ (List.Mem.tail _ (List.Mem.tail _ (List.Mem.tail _ (List.Mem.tail _ (List.Mem.tail _ (List.Mem.head _)))))))))))))))))) rfl
set_option maxRecDepth 4000 in
theorem tw1047 : (Jvm.Cond.selects "OneBack$Town" ({ cls := "OneBack$Town", name := "evenOut", desc := "(I)I" } : Jvm.MethodName) ({ cls := "OneBack$Town", name := "evenOut", desc := "(I)I" } : Jvm.MethodName)) ∈ GT := GT_m (ck5 (m8 (m8 (m8 (m8 (m8 (m8 (m8 (m8 (m8 (m8 (List.Mem.tail _ (List.Mem.tail _ (List.Mem.tail _ (List.Mem.tail _ (List.Mem.tail _ (List.Mem.tail _ (List.Mem.tail _ (List.Mem.head _))))))))))))))))))) rfl
set_option maxRecDepth 4000 in
theorem tw1048 : (Jvm.Cond.code ({ cls := "OneBack$Town", name := "evenOut", desc := "(I)I" } : Jvm.MethodName) prog_9_method_14_code (7 : Nat) (Option.some Jvm.ClassFile.FieldType.int)) ∈ GT := GT_m (ck5 (m8 (m8 (m8 (m8 (m8 (m8 (m8 (m8 (m8 (m8 (m8 (List.Mem.head _))))))))))))) rfl
set_option maxRecDepth 4000 in
theorem tw1049 : (Jvm.Cond.methodLink "OneBack$Town" (69 : Nat) ({ cls := "java/lang/Math", name := "min", desc := "(II)I" } : Jvm.MethodName)) ∈ GT := GT_m (ck5 (m8 (m8 (m8 (m8 (m8 (m8 (m8 (m8 (m8 (m8 (m8 (List.Mem.tail _ (List.Mem.head _)))))))))))))) rfl
set_option maxRecDepth 4000 in
theorem tw1050 : (Jvm.Cond.methodLink "OneBackLaw" (117 : Nat) ({ cls := "OneBack", name := "drawn", desc := "(IIIII)I" } : Jvm.MethodName)) ∈ GT := GT_m (ck5 (m8 (m8 (m8 (m8 (m8 (m8 (m8 (m8 (m8 (m8 (m8 (List.Mem.tail _ (List.Mem.tail _ (List.Mem.head _))))))))))))))) rfl
set_option maxRecDepth 4000 in
theorem tw1051 : (Jvm.Cond.instanceMethod ({ cls := "OneBack", name := "drawn", desc := "(IIIII)I" } : Jvm.MethodName)) ∈ GT := GT_m (ck5 (m8 (m8 (m8 (m8 (m8 (m8 (m8 (m8 (m8 (m8 (m8 (List.Mem.tail _ (List.Mem.tail _ (List.Mem.tail _ (List.Mem.head _)))))))))))))))) rfl
set_option maxRecDepth 4000 in
theorem tw1052 : (Jvm.Cond.selects "OneBack" ({ cls := "OneBack", name := "drawn", desc := "(IIIII)I" } : Jvm.MethodName) ({ cls := "OneBack", name := "drawn", desc := "(IIIII)I" } : Jvm.MethodName)) ∈ GT := GT_m (ck5 (m8 (m8 (m8 (m8 (m8 (m8 (m8 (m8 (m8 (m8 (m8 (List.Mem.tail _ (List.Mem.tail _ (List.Mem.tail _ (List.Mem.tail _ (List.Mem.head _))))))))))))))))) rfl
set_option maxRecDepth 4000 in
theorem tw1053 : (Jvm.Cond.code ({ cls := "OneBack", name := "drawn", desc := "(IIIII)I" } : Jvm.MethodName) prog_1_method_26_code (8 : Nat) (Option.some Jvm.ClassFile.FieldType.int)) ∈ GT := GT_m (ck5 (m8 (m8 (m8 (m8 (m8 (m8 (m8 (m8 (m8 (m8 (m8 (List.Mem.tail _ (List.Mem.tail _ (List.Mem.tail _ (List.Mem.tail _ (List.Mem.tail _ (List.Mem.head _)))))))))))))))))) rfl
set_option maxRecDepth 4000 in
theorem tw1054 : (Jvm.Cond.methodLink "OneBack" (304 : Nat) ({ cls := "OneBack$Walk", name := "drawNights", desc := "(II)V" } : Jvm.MethodName)) ∈ GT := GT_m (ck5 (m8 (m8 (m8 (m8 (m8 (m8 (m8 (m8 (m8 (m8 (m8 (List.Mem.tail _ (List.Mem.tail _ (List.Mem.tail _ (List.Mem.tail _ (List.Mem.tail _ (List.Mem.tail _ (List.Mem.head _))))))))))))))))))) rfl
set_option maxRecDepth 4000 in
theorem tw1055 : (Jvm.Cond.instanceMethod ({ cls := "OneBack$Walk", name := "drawNights", desc := "(II)V" } : Jvm.MethodName)) ∈ GT := GT_m (ck5 (m8 (m8 (m8 (m8 (m8 (m8 (m8 (m8 (m8 (m8 (m8 (List.Mem.tail _ (List.Mem.tail _ (List.Mem.tail _ (List.Mem.tail _ (List.Mem.tail _ (List.Mem.tail _ (List.Mem.tail _ (List.Mem.head _)))))))))))))))))))) rfl
set_option maxRecDepth 4000 in
theorem tw1056 : (Jvm.Cond.selects "OneBack$Walk" ({ cls := "OneBack$Walk", name := "drawNights", desc := "(II)V" } : Jvm.MethodName) ({ cls := "OneBack$Walk", name := "drawNights", desc := "(II)V" } : Jvm.MethodName)) ∈ GT := GT_m (ck5 (m8 (m8 (m8 (m8 (m8 (m8 (m8 (m8 (m8 (m8 (m8 (m8 (List.Mem.head _)))))))))))))) rfl
set_option maxRecDepth 4000 in
theorem tw1057 : (Jvm.Cond.code ({ cls := "OneBack$Walk", name := "drawNights", desc := "(II)V" } : Jvm.MethodName) prog_11_method_13_code (5 : Nat) (Option.none : Option Jvm.ClassFile.FieldType)) ∈ GT := GT_m (ck5 (m8 (m8 (m8 (m8 (m8 (m8 (m8 (m8 (m8 (m8 (m8 (m8 (List.Mem.tail _ (List.Mem.head _))))))))))))))) rfl
set_option maxRecDepth 4000 in
theorem tw1058 : (Jvm.Cond.methodLink "OneBack$Walk" (173 : Nat) ({ cls := "OneBack$Walk", name := "drawDeeds", desc := "(I)V" } : Jvm.MethodName)) ∈ GT := GT_m (ck5 (m8 (m8 (m8 (m8 (m8 (m8 (m8 (m8 (m8 (m8 (m8 (m8 (List.Mem.tail _ (List.Mem.tail _ (List.Mem.head _)))))))))))))))) rfl
set_option maxRecDepth 4000 in
theorem tw1060 : (Jvm.Cond.instanceMethod ({ cls := "OneBack$Walk", name := "drawDeeds", desc := "(I)V" } : Jvm.MethodName)) ∈ GT := GT_m (ck5 (m8 (m8 (m8 (m8 (m8 (m8 (m8 (m8 (m8 (m8 (m8 (m8 (List.Mem.tail _ (List.Mem.tail _ (List.Mem.tail _ (List.Mem.tail _ (List.Mem.head _)))))))))))))))))) rfl
set_option maxRecDepth 4000 in
theorem tw1061 : (Jvm.Cond.code ({ cls := "OneBack$Walk", name := "drawDeeds", desc := "(I)V" } : Jvm.MethodName) prog_11_method_14_code (5 : Nat) (Option.none : Option Jvm.ClassFile.FieldType)) ∈ GT := GT_m (ck5 (m8 (m8 (m8 (m8 (m8 (m8 (m8 (m8 (m8 (m8 (m8 (m8 (List.Mem.tail _ (List.Mem.tail _ (List.Mem.tail _ (List.Mem.tail _ (List.Mem.tail _ (List.Mem.head _))))))))))))))))))) rfl
set_option maxRecDepth 4000 in
theorem tw1062 : (Jvm.Cond.methodLink "OneBack$Walk" (180 : Nat) ({ cls := "OneBack$Walk", name := "drawBelow", desc := "(I)I" } : Jvm.MethodName)) ∈ GT := GT_m (ck5 (m8 (m8 (m8 (m8 (m8 (m8 (m8 (m8 (m8 (m8 (m8 (m8 (List.Mem.tail _ (List.Mem.tail _ (List.Mem.tail _ (List.Mem.tail _ (List.Mem.tail _ (List.Mem.tail _ (List.Mem.head _)))))))))))))))))))) rfl
set_option maxRecDepth 4000 in
theorem tw1064 : (Jvm.Cond.instanceMethod ({ cls := "OneBack$Walk", name := "drawBelow", desc := "(I)I" } : Jvm.MethodName)) ∈ GT := GT_m (ck5 (m8 (m8 (m8 (m8 (m8 (m8 (m8 (m8 (m8 (m8 (m8 (m8 (m8 (List.Mem.head _))))))))))))))) rfl
set_option maxRecDepth 4000 in
theorem tw1065 : (Jvm.Cond.code ({ cls := "OneBack$Walk", name := "drawBelow", desc := "(I)I" } : Jvm.MethodName) prog_11_method_15_code (2 : Nat) (Option.some Jvm.ClassFile.FieldType.int)) ∈ GT := GT_m (ck5 (m8 (m8 (m8 (m8 (m8 (m8 (m8 (m8 (m8 (m8 (m8 (m8 (m8 (List.Mem.tail _ (List.Mem.head _)))))))))))))))) rfl
set_option maxRecDepth 4000 in
theorem tw1066 : (Jvm.Cond.constant "OneBack$Walk" (186 : Nat) (1103515245 : Int32)) ∈ GT := GT_m (ck5 (m8 (m8 (m8 (m8 (m8 (m8 (m8 (m8 (m8 (m8 (m8 (m8 (m8 (List.Mem.tail _ (List.Mem.tail _ (List.Mem.head _))))))))))))))))) rfl
set_option maxRecDepth 4000 in
theorem tw1067 : (Jvm.Cond.methodLink "OneBack$Walk" (183 : Nat) ({ cls := "OneBack$Walk", name := "giveLeast", desc := "(I)Z" } : Jvm.MethodName)) ∈ GT := GT_m (ck5 (m8 (m8 (m8 (m8 (m8 (m8 (m8 (m8 (m8 (m8 (m8 (m8 (m8 (List.Mem.tail _ (List.Mem.tail _ (List.Mem.tail _ (List.Mem.head _)))))))))))))))))) rfl
set_option maxRecDepth 4000 in
theorem tw1069 : (Jvm.Cond.instanceMethod ({ cls := "OneBack$Walk", name := "giveLeast", desc := "(I)Z" } : Jvm.MethodName)) ∈ GT := GT_m (ck5 (m8 (m8 (m8 (m8 (m8 (m8 (m8 (m8 (m8 (m8 (m8 (m8 (m8 (List.Mem.tail _ (List.Mem.tail _ (List.Mem.tail _ (List.Mem.tail _ (List.Mem.tail _ (List.Mem.head _)))))))))))))))))))) rfl
set_option maxRecDepth 4000 in
theorem tw1070 : (Jvm.Cond.code ({ cls := "OneBack$Walk", name := "giveLeast", desc := "(I)Z" } : Jvm.MethodName) prog_11_method_16_code (4 : Nat) (Option.some Jvm.ClassFile.FieldType.boolean)) ∈ GT := GT_m (ck5 (m8 (m8 (m8 (m8 (m8 (m8 (m8 (m8 (m8 (m8 (m8 (m8 (m8 (List.Mem.tail _ (List.Mem.tail _ (List.Mem.tail _ (List.Mem.tail _ (List.Mem.tail _ (List.Mem.tail _ (List.Mem.head _))))))))))))))))))))) rfl
set_option maxRecDepth 4000 in
theorem tw1071 : (Jvm.Cond.methodLink "OneBackLaw" (121 : Nat) ({ cls := "OneBack", name := "wealth", desc := "(IIIII)I" } : Jvm.MethodName)) ∈ GT := GT_m (ck5 (m8 (m8 (m8 (m8 (m8 (m8 (m8 (m8 (m8 (m8 (m8 (m8 (m8 (List.Mem.tail _ (List.Mem.tail _ (List.Mem.tail _ (List.Mem.tail _ (List.Mem.tail _ (List.Mem.tail _ (List.Mem.tail _ (List.Mem.head _)))))))))))))))))))))) rfl
set_option maxRecDepth 4000 in
theorem tw1072 : (Jvm.Cond.instanceMethod ({ cls := "OneBack", name := "wealth", desc := "(IIIII)I" } : Jvm.MethodName)) ∈ GT := GT_m (ck5 (m8 (m8 (m8 (m8 (m8 (m8 (m8 (m8 (m8 (m8 (m8 (m8 (m8 (m8 (List.Mem.head _)))))))))))))))) rfl
set_option maxRecDepth 4000 in
theorem tw1073 : (Jvm.Cond.selects "OneBack" ({ cls := "OneBack", name := "wealth", desc := "(IIIII)I" } : Jvm.MethodName) ({ cls := "OneBack", name := "wealth", desc := "(IIIII)I" } : Jvm.MethodName)) ∈ GT := GT_m (ck5 (m8 (m8 (m8 (m8 (m8 (m8 (m8 (m8 (m8 (m8 (m8 (m8 (m8 (m8 (List.Mem.tail _ (List.Mem.head _))))))))))))))))) rfl
set_option maxRecDepth 4000 in
theorem tw1074 : (Jvm.Cond.code ({ cls := "OneBack", name := "wealth", desc := "(IIIII)I" } : Jvm.MethodName) prog_1_method_27_code (6 : Nat) (Option.some Jvm.ClassFile.FieldType.int)) ∈ GT := GT_m (ck5 (m8 (m8 (m8 (m8 (m8 (m8 (m8 (m8 (m8 (m8 (m8 (m8 (m8 (m8 (List.Mem.tail _ (List.Mem.tail _ (List.Mem.head _)))))))))))))))))) rfl
set_option maxRecDepth 4000 in
theorem tw1075 : (Jvm.Cond.methodLink "OneBack" (308 : Nat) ({ cls := "OneBack$Views", name := "rich", desc := "(LOneBack$Walk;I)I" } : Jvm.MethodName)) ∈ GT := GT_m (ck5 (m8 (m8 (m8 (m8 (m8 (m8 (m8 (m8 (m8 (m8 (m8 (m8 (m8 (m8 (List.Mem.tail _ (List.Mem.tail _ (List.Mem.tail _ (List.Mem.head _))))))))))))))))))) rfl
set_option maxRecDepth 4000 in
theorem tw1076 : (Jvm.Cond.static ({ cls := "OneBack$Views", name := "rich", desc := "(LOneBack$Walk;I)I" } : Jvm.MethodName)) ∈ GT := GT_m (ck5 (m8 (m8 (m8 (m8 (m8 (m8 (m8 (m8 (m8 (m8 (m8 (m8 (m8 (m8 (List.Mem.tail _ (List.Mem.tail _ (List.Mem.tail _ (List.Mem.tail _ (List.Mem.head _)))))))))))))))))))) rfl
set_option maxRecDepth 4000 in
theorem tw1077 : (Jvm.Cond.code ({ cls := "OneBack$Views", name := "rich", desc := "(LOneBack$Walk;I)I" } : Jvm.MethodName) prog_10_method_11_code (2 : Nat) (Option.some Jvm.ClassFile.FieldType.int)) ∈ GT := GT_m (ck5 (m8 (m8 (m8 (m8 (m8 (m8 (m8 (m8 (m8 (m8 (m8 (m8 (m8 (m8 (List.Mem.tail _ (List.Mem.tail _ (List.Mem.tail _ (List.Mem.tail _ (List.Mem.tail _ (List.Mem.head _))))))))))))))))))))) rfl
set_option maxRecDepth 4000 in
theorem tw1078 : (Jvm.Cond.methodLink "OneBack$Views" (98 : Nat) ({ cls := "OneBack$Views", name := "settle", desc := "(LOneBack$Walk;)I" } : Jvm.MethodName)) ∈ GT := GT_m (ck5 (m8 (m8 (m8 (m8 (m8 (m8 (m8 (m8 (m8 (m8 (m8 (m8 (m8 (m8 (List.Mem.tail _ (List.Mem.tail _ (List.Mem.tail _ (List.Mem.tail _ (List.Mem.tail _ (List.Mem.tail _ (List.Mem.head _)))))))))))))))))))))) rfl
set_option maxRecDepth 4000 in
theorem tw1079 : (Jvm.Cond.static ({ cls := "OneBack$Views", name := "settle", desc := "(LOneBack$Walk;)I" } : Jvm.MethodName)) ∈ GT := GT_m (ck5 (m8 (m8 (m8 (m8 (m8 (m8 (m8 (m8 (m8 (m8 (m8 (m8 (m8 (m8 (List.Mem.tail _ (List.Mem.tail _ (List.Mem.tail _ (List.Mem.tail _ (List.Mem.tail _ (List.Mem.tail _ (List.Mem.tail _ (List.Mem.head _))))))))))))))))))))))) rfl
set_option maxRecDepth 4000 in
theorem tw1080 : (Jvm.Cond.code ({ cls := "OneBack$Views", name := "settle", desc := "(LOneBack$Walk;)I" } : Jvm.MethodName) prog_10_method_13_code (3 : Nat) (Option.some Jvm.ClassFile.FieldType.int)) ∈ GT := GT_m (ck5 (m8 (m8 (m8 (m8 (m8 (m8 (m8 (m8 (m8 (m8 (m8 (m8 (m8 (m8 (m8 (List.Mem.head _))))))))))))))))) rfl
set_option maxRecDepth 4000 in
theorem tw1081 : (Jvm.Cond.methodLink "OneBack$Views" (123 : Nat) ({ cls := "OneBack$Views", name := "cut", desc := "(LOneBack$Walk;I)I" } : Jvm.MethodName)) ∈ GT := GT_m (ck5 (m8 (m8 (m8 (m8 (m8 (m8 (m8 (m8 (m8 (m8 (m8 (m8 (m8 (m8 (m8 (List.Mem.tail _ (List.Mem.head _)))))))))))))))))) rfl
set_option maxRecDepth 4000 in
theorem tw1082 : (Jvm.Cond.static ({ cls := "OneBack$Views", name := "cut", desc := "(LOneBack$Walk;I)I" } : Jvm.MethodName)) ∈ GT := GT_m (ck5 (m8 (m8 (m8 (m8 (m8 (m8 (m8 (m8 (m8 (m8 (m8 (m8 (m8 (m8 (m8 (List.Mem.tail _ (List.Mem.tail _ (List.Mem.head _))))))))))))))))))) rfl
set_option maxRecDepth 4000 in
theorem tw1083 : (Jvm.Cond.code ({ cls := "OneBack$Views", name := "cut", desc := "(LOneBack$Walk;I)I" } : Jvm.MethodName) prog_10_method_14_code (5 : Nat) (Option.some Jvm.ClassFile.FieldType.int)) ∈ GT := GT_m (ck5 (m8 (m8 (m8 (m8 (m8 (m8 (m8 (m8 (m8 (m8 (m8 (m8 (m8 (m8 (m8 (List.Mem.tail _ (List.Mem.tail _ (List.Mem.tail _ (List.Mem.head _)))))))))))))))))))) rfl
set_option maxRecDepth 4000 in
theorem tw1084 : (Jvm.Cond.methodLink "OneBack$Views" (131 : Nat) ({ cls := "OneBack$Walk", name := "isFree", desc := "(I)Z" } : Jvm.MethodName)) ∈ GT := GT_m (ck5 (m8 (m8 (m8 (m8 (m8 (m8 (m8 (m8 (m8 (m8 (m8 (m8 (m8 (m8 (m8 (List.Mem.tail _ (List.Mem.tail _ (List.Mem.tail _ (List.Mem.tail _ (List.Mem.head _))))))))))))))))))))) rfl
set_option maxRecDepth 4000 in
theorem tw1085 : (Jvm.Cond.methodLink "OneBack$Views" (134 : Nat) ({ cls := "OneBack$Views", name := "isReached", desc := "(LOneBack$Walk;II)Z" } : Jvm.MethodName)) ∈ GT := GT_m (ck5 (m8 (m8 (m8 (m8 (m8 (m8 (m8 (m8 (m8 (m8 (m8 (m8 (m8 (m8 (m8 (List.Mem.tail _ (List.Mem.tail _ (List.Mem.tail _ (List.Mem.tail _ (List.Mem.tail _ (List.Mem.head _)))))))))))))))))))))) rfl
set_option maxRecDepth 4000 in
theorem tw1086 : (Jvm.Cond.static ({ cls := "OneBack$Views", name := "isReached", desc := "(LOneBack$Walk;II)Z" } : Jvm.MethodName)) ∈ GT := GT_m (ck5 (m8 (m8 (m8 (m8 (m8 (m8 (m8 (m8 (m8 (m8 (m8 (m8 (m8 (m8 (m8 (List.Mem.tail _ (List.Mem.tail _ (List.Mem.tail _ (List.Mem.tail _ (List.Mem.tail _ (List.Mem.tail _ (List.Mem.head _))))))))))))))))))))))) rfl
set_option maxRecDepth 4000 in
theorem tw1087 : (Jvm.Cond.code ({ cls := "OneBack$Views", name := "isReached", desc := "(LOneBack$Walk;II)Z" } : Jvm.MethodName) prog_10_method_15_code (5 : Nat) (Option.some Jvm.ClassFile.FieldType.boolean)) ∈ GT := GT_m (ck5 (m8 (m8 (m8 (m8 (m8 (m8 (m8 (m8 (m8 (m8 (m8 (m8 (m8 (m8 (m8 (List.Mem.tail _ (List.Mem.tail _ (List.Mem.tail _ (List.Mem.tail _ (List.Mem.tail _ (List.Mem.tail _ (List.Mem.tail _ (List.Mem.head _)))))))))))))))))))))))) rfl
set_option maxRecDepth 4000 in
theorem tw1088 : (Jvm.Cond.methodLink "OneBack$Views" (138 : Nat) ({ cls := "OneBack$Town", name := "areKin", desc := "(II)Z" } : Jvm.MethodName)) ∈ GT := GT_m (ck5 (m8 (m8 (m8 (m8 (m8 (m8 (m8 (m8 (m8 (m8 (m8 (m8 (m8 (m8 (m8 (m8 (List.Mem.head _)))))))))))))))))) rfl
set_option maxRecDepth 4000 in
theorem tw1089 : (Jvm.Cond.methodLink "OneBack$Views" (126 : Nat) ({ cls := "java/lang/Math", name := "min", desc := "(II)I" } : Jvm.MethodName)) ∈ GT := GT_m (ck5 (m8 (m8 (m8 (m8 (m8 (m8 (m8 (m8 (m8 (m8 (m8 (m8 (m8 (m8 (m8 (m8 (List.Mem.tail _ (List.Mem.head _))))))))))))))))))) rfl
set_option maxRecDepth 4000 in
theorem tw1090 : (Jvm.Cond.methodLink "OneBack$Views" (101 : Nat) ({ cls := "OneBack$Views", name := "gap", desc := "(LOneBack$Walk;)I" } : Jvm.MethodName)) ∈ GT := GT_m (ck5 (m8 (m8 (m8 (m8 (m8 (m8 (m8 (m8 (m8 (m8 (m8 (m8 (m8 (m8 (m8 (m8 (List.Mem.tail _ (List.Mem.tail _ (List.Mem.head _)))))))))))))))))))) rfl
set_option maxRecDepth 4000 in
theorem tw1091 : (Jvm.Cond.static ({ cls := "OneBack$Views", name := "gap", desc := "(LOneBack$Walk;)I" } : Jvm.MethodName)) ∈ GT := GT_m (ck5 (m8 (m8 (m8 (m8 (m8 (m8 (m8 (m8 (m8 (m8 (m8 (m8 (m8 (m8 (m8 (m8 (List.Mem.tail _ (List.Mem.tail _ (List.Mem.tail _ (List.Mem.head _))))))))))))))))))))) rfl
set_option maxRecDepth 4000 in
theorem tw1092 : (Jvm.Cond.code ({ cls := "OneBack$Views", name := "gap", desc := "(LOneBack$Walk;)I" } : Jvm.MethodName) prog_10_method_18_code (4 : Nat) (Option.some Jvm.ClassFile.FieldType.int)) ∈ GT := GT_m (ck5 (m8 (m8 (m8 (m8 (m8 (m8 (m8 (m8 (m8 (m8 (m8 (m8 (m8 (m8 (m8 (m8 (List.Mem.tail _ (List.Mem.tail _ (List.Mem.tail _ (List.Mem.tail _ (List.Mem.head _)))))))))))))))))))))) rfl
set_option maxRecDepth 4000 in
theorem tw1093 : (Jvm.Cond.methodLink "OneBack$Views" (117 : Nat) ({ cls := "OneBack$Views", name := "wealthOf", desc := "(LOneBack$Walk;I)I" } : Jvm.MethodName)) ∈ GT := GT_m (ck5 (m8 (m8 (m8 (m8 (m8 (m8 (m8 (m8 (m8 (m8 (m8 (m8 (m8 (m8 (m8 (m8 (List.Mem.tail _ (List.Mem.tail _ (List.Mem.tail _ (List.Mem.tail _ (List.Mem.tail _ (List.Mem.head _))))))))))))))))))))))) rfl
set_option maxRecDepth 4000 in
theorem tw1094 : (Jvm.Cond.static ({ cls := "OneBack$Views", name := "wealthOf", desc := "(LOneBack$Walk;I)I" } : Jvm.MethodName)) ∈ GT := GT_m (ck5 (m8 (m8 (m8 (m8 (m8 (m8 (m8 (m8 (m8 (m8 (m8 (m8 (m8 (m8 (m8 (m8 (List.Mem.tail _ (List.Mem.tail _ (List.Mem.tail _ (List.Mem.tail _ (List.Mem.tail _ (List.Mem.tail _ (List.Mem.head _)))))))))))))))))))))))) rfl
set_option maxRecDepth 4000 in
theorem tw1095 : (Jvm.Cond.code ({ cls := "OneBack$Views", name := "wealthOf", desc := "(LOneBack$Walk;I)I" } : Jvm.MethodName) prog_10_method_17_code (2 : Nat) (Option.some Jvm.ClassFile.FieldType.int)) ∈ GT := GT_m (ck5 (m8 (m8 (m8 (m8 (m8 (m8 (m8 (m8 (m8 (m8 (m8 (m8 (m8 (m8 (m8 (m8 (List.Mem.tail _ (List.Mem.tail _ (List.Mem.tail _ (List.Mem.tail _ (List.Mem.tail _ (List.Mem.tail _ (List.Mem.tail _ (List.Mem.head _))))))))))))))))))))))))) rfl
set_option maxRecDepth 4000 in
theorem tw1096 : (Jvm.Cond.methodLink "OneBack$Views" (152 : Nat) ({ cls := "OneBack$Town", name := "worthIn", desc := "([II)I" } : Jvm.MethodName)) ∈ GT := GT_m (ck5 (m8 (m8 (m8 (m8 (m8 (m8 (m8 (m8 (m8 (m8 (m8 (m8 (m8 (m8 (m8 (m8 (m8 (List.Mem.head _))))))))))))))))))) rfl
set_option maxRecDepth 4000 in
theorem tw1097 : (Jvm.Cond.methodLink "OneBack$Views" (156 : Nat) ({ cls := "java/lang/Math", name := "max", desc := "(II)I" } : Jvm.MethodName)) ∈ GT := GT_m (ck5 (m8 (m8 (m8 (m8 (m8 (m8 (m8 (m8 (m8 (m8 (m8 (m8 (m8 (m8 (m8 (m8 (m8 (List.Mem.tail _ (List.Mem.head _)))))))))))))))))))) rfl
set_option maxRecDepth 4000 in
theorem tw1098 : (Jvm.Cond.methodLink "OneBack$Views" (104 : Nat) ({ cls := "OneBack$Views", name := "unlike", desc := "(LOneBack$Walk;Z)I" } : Jvm.MethodName)) ∈ GT := GT_m (ck5 (m8 (m8 (m8 (m8 (m8 (m8 (m8 (m8 (m8 (m8 (m8 (m8 (m8 (m8 (m8 (m8 (m8 (List.Mem.tail _ (List.Mem.tail _ (List.Mem.head _))))))))))))))))))))) rfl
set_option maxRecDepth 4000 in
theorem tw1099 : (Jvm.Cond.static ({ cls := "OneBack$Views", name := "unlike", desc := "(LOneBack$Walk;Z)I" } : Jvm.MethodName)) ∈ GT := GT_m (ck5 (m8 (m8 (m8 (m8 (m8 (m8 (m8 (m8 (m8 (m8 (m8 (m8 (m8 (m8 (m8 (m8 (m8 (List.Mem.tail _ (List.Mem.tail _ (List.Mem.tail _ (List.Mem.head _)))))))))))))))))))))) rfl
set_option maxRecDepth 4000 in
theorem tw1100 : (Jvm.Cond.code ({ cls := "OneBack$Views", name := "unlike", desc := "(LOneBack$Walk;Z)I" } : Jvm.MethodName) prog_10_method_21_code (7 : Nat) (Option.some Jvm.ClassFile.FieldType.int)) ∈ GT := GT_m (ck5 (m8 (m8 (m8 (m8 (m8 (m8 (m8 (m8 (m8 (m8 (m8 (m8 (m8 (m8 (m8 (m8 (m8 (List.Mem.tail _ (List.Mem.tail _ (List.Mem.tail _ (List.Mem.tail _ (List.Mem.head _))))))))))))))))))))))) rfl
set_option maxRecDepth 4000 in
theorem tw1101 : (Jvm.Cond.methodLink "OneBack$Views" (162 : Nat) ({ cls := "java/lang/Math", name := "abs", desc := "(I)I" } : Jvm.MethodName)) ∈ GT := GT_m (ck5 (m8 (m8 (m8 (m8 (m8 (m8 (m8 (m8 (m8 (m8 (m8 (m8 (m8 (m8 (m8 (m8 (m8 (List.Mem.tail _ (List.Mem.tail _ (List.Mem.tail _ (List.Mem.tail _ (List.Mem.tail _ (List.Mem.head _)))))))))))))))))))))))) rfl
set_option maxRecDepth 4000 in
theorem tw1103 : (Jvm.Cond.methodLink "OneBack$Views" (108 : Nat) ({ cls := "OneBack$Views", name := "robbed", desc := "(LOneBack$Walk;)I" } : Jvm.MethodName)) ∈ GT := GT_m (ck5 (m8 (m8 (m8 (m8 (m8 (m8 (m8 (m8 (m8 (m8 (m8 (m8 (m8 (m8 (m8 (m8 (m8 (List.Mem.tail _ (List.Mem.tail _ (List.Mem.tail _ (List.Mem.tail _ (List.Mem.tail _ (List.Mem.tail _ (List.Mem.tail _ (List.Mem.head _)))))))))))))))))))))))))) rfl
set_option maxRecDepth 4000 in
theorem tw1104 : (Jvm.Cond.static ({ cls := "OneBack$Views", name := "robbed", desc := "(LOneBack$Walk;)I" } : Jvm.MethodName)) ∈ GT := GT_m (ck5 (m8 (m8 (m8 (m8 (m8 (m8 (m8 (m8 (m8 (m8 (m8 (m8 (m8 (m8 (m8 (m8 (m8 (m8 (List.Mem.head _)))))))))))))))))))) rfl
set_option maxRecDepth 4000 in
theorem tw1105 : (Jvm.Cond.code ({ cls := "OneBack$Views", name := "robbed", desc := "(LOneBack$Walk;)I" } : Jvm.MethodName) prog_10_method_22_code (5 : Nat) (Option.some Jvm.ClassFile.FieldType.int)) ∈ GT := GT_m (ck5 (m8 (m8 (m8 (m8 (m8 (m8 (m8 (m8 (m8 (m8 (m8 (m8 (m8 (m8 (m8 (m8 (m8 (m8 (List.Mem.tail _ (List.Mem.head _))))))))))))))))))))) rfl
set_option maxRecDepth 4000 in
theorem tw1106 : (Jvm.Cond.methodLink "OneBack$Views" (111 : Nat) ({ cls := "OneBack$Views", name := "richOf", desc := "(LOneBack$Walk;II)I" } : Jvm.MethodName)) ∈ GT := GT_m (ck5 (m8 (m8 (m8 (m8 (m8 (m8 (m8 (m8 (m8 (m8 (m8 (m8 (m8 (m8 (m8 (m8 (m8 (m8 (List.Mem.tail _ (List.Mem.tail _ (List.Mem.head _)))))))))))))))))))))) rfl
set_option maxRecDepth 4000 in
theorem tw1107 : (Jvm.Cond.static ({ cls := "OneBack$Views", name := "richOf", desc := "(LOneBack$Walk;II)I" } : Jvm.MethodName)) ∈ GT := GT_m (ck5 (m8 (m8 (m8 (m8 (m8 (m8 (m8 (m8 (m8 (m8 (m8 (m8 (m8 (m8 (m8 (m8 (m8 (m8 (List.Mem.tail _ (List.Mem.tail _ (List.Mem.tail _ (List.Mem.head _))))))))))))))))))))))) rfl
set_option maxRecDepth 4000 in
theorem tw1108 : (Jvm.Cond.code ({ cls := "OneBack$Views", name := "richOf", desc := "(LOneBack$Walk;II)I" } : Jvm.MethodName) prog_10_method_12_code (3 : Nat) (Option.some Jvm.ClassFile.FieldType.int)) ∈ GT := GT_m (ck5 (m8 (m8 (m8 (m8 (m8 (m8 (m8 (m8 (m8 (m8 (m8 (m8 (m8 (m8 (m8 (m8 (m8 (m8 (List.Mem.tail _ (List.Mem.tail _ (List.Mem.tail _ (List.Mem.tail _ (List.Mem.head _)))))))))))))))))))))))) rfl
set_option maxRecDepth 4000 in
theorem tw1109 : (Jvm.Cond.methodLink "OneBack$Views" (114 : Nat) ({ cls := "OneBack$Views", name := "can", desc := "(LOneBack$Walk;I)I" } : Jvm.MethodName)) ∈ GT := GT_m (ck5 (m8 (m8 (m8 (m8 (m8 (m8 (m8 (m8 (m8 (m8 (m8 (m8 (m8 (m8 (m8 (m8 (m8 (m8 (List.Mem.tail _ (List.Mem.tail _ (List.Mem.tail _ (List.Mem.tail _ (List.Mem.tail _ (List.Mem.head _))))))))))))))))))))))))) rfl
set_option maxRecDepth 4000 in
theorem tw1110 : (Jvm.Cond.static ({ cls := "OneBack$Views", name := "can", desc := "(LOneBack$Walk;I)I" } : Jvm.MethodName)) ∈ GT := GT_m (ck5 (m8 (m8 (m8 (m8 (m8 (m8 (m8 (m8 (m8 (m8 (m8 (m8 (m8 (m8 (m8 (m8 (m8 (m8 (List.Mem.tail _ (List.Mem.tail _ (List.Mem.tail _ (List.Mem.tail _ (List.Mem.tail _ (List.Mem.tail _ (List.Mem.head _)))))))))))))))))))))))))) rfl
set_option maxRecDepth 4000 in
theorem tw1111 : (Jvm.Cond.code ({ cls := "OneBack$Views", name := "can", desc := "(LOneBack$Walk;I)I" } : Jvm.MethodName) prog_10_method_16_code (6 : Nat) (Option.some Jvm.ClassFile.FieldType.int)) ∈ GT := GT_m (ck5 (m8 (m8 (m8 (m8 (m8 (m8 (m8 (m8 (m8 (m8 (m8 (m8 (m8 (m8 (m8 (m8 (m8 (m8 (List.Mem.tail _ (List.Mem.tail _ (List.Mem.tail _ (List.Mem.tail _ (List.Mem.tail _ (List.Mem.tail _ (List.Mem.tail _ (List.Mem.head _))))))))))))))))))))))))))) rfl
set_option maxRecDepth 4000 in
theorem tw1112 : (Jvm.Cond.methodLink "OneBack$Views" (142 : Nat) ({ cls := "OneBack$Walk", name := "takesGift", desc := "(III)Z" } : Jvm.MethodName)) ∈ GT := GT_m (ck5 (m8 (m8 (m8 (m8 (m8 (m8 (m8 (m8 (m8 (m8 (m8 (m8 (m8 (m8 (m8 (m8 (m8 (m8 (m8 (List.Mem.head _))))))))))))))))))))) rfl
set_option maxRecDepth 4000 in
theorem tw1113 : (Jvm.Cond.methodLink "OneBack$Views" (120 : Nat) ({ cls := "OneBack$Views", name := "ranked", desc := "(LOneBack$Walk;I)I" } : Jvm.MethodName)) ∈ GT := GT_m (ck5 (m8 (m8 (m8 (m8 (m8 (m8 (m8 (m8 (m8 (m8 (m8 (m8 (m8 (m8 (m8 (m8 (m8 (m8 (m8 (List.Mem.tail _ (List.Mem.head _)))))))))))))))))))))) rfl
set_option maxRecDepth 4000 in
theorem tw1114 : (Jvm.Cond.static ({ cls := "OneBack$Views", name := "ranked", desc := "(LOneBack$Walk;I)I" } : Jvm.MethodName)) ∈ GT := GT_m (ck5 (m8 (m8 (m8 (m8 (m8 (m8 (m8 (m8 (m8 (m8 (m8 (m8 (m8 (m8 (m8 (m8 (m8 (m8 (m8 (List.Mem.tail _ (List.Mem.tail _ (List.Mem.head _))))))))))))))))))))))) rfl
set_option maxRecDepth 4000 in
theorem tw1115 : (Jvm.Cond.code ({ cls := "OneBack$Views", name := "ranked", desc := "(LOneBack$Walk;I)I" } : Jvm.MethodName) prog_10_method_19_code (3 : Nat) (Option.some Jvm.ClassFile.FieldType.int)) ∈ GT := GT_m (ck5 (m8 (m8 (m8 (m8 (m8 (m8 (m8 (m8 (m8 (m8 (m8 (m8 (m8 (m8 (m8 (m8 (m8 (m8 (m8 (List.Mem.tail _ (List.Mem.tail _ (List.Mem.tail _ (List.Mem.head _)))))))))))))))))))))))) rfl
set_option maxRecDepth 4000 in
theorem tw1116 : (Jvm.Cond.methodLink "OneBack$Views" (159 : Nat) ({ cls := "OneBack$Views", name := "rankOf", desc := "(LOneBack$Walk;I)I" } : Jvm.MethodName)) ∈ GT := GT_m (ck5 (m8 (m8 (m8 (m8 (m8 (m8 (m8 (m8 (m8 (m8 (m8 (m8 (m8 (m8 (m8 (m8 (m8 (m8 (m8 (List.Mem.tail _ (List.Mem.tail _ (List.Mem.tail _ (List.Mem.tail _ (List.Mem.head _))))))))))))))))))))))))) rfl
set_option maxRecDepth 4000 in
theorem tw1117 : (Jvm.Cond.static ({ cls := "OneBack$Views", name := "rankOf", desc := "(LOneBack$Walk;I)I" } : Jvm.MethodName)) ∈ GT := GT_m (ck5 (m8 (m8 (m8 (m8 (m8 (m8 (m8 (m8 (m8 (m8 (m8 (m8 (m8 (m8 (m8 (m8 (m8 (m8 (m8 (List.Mem.tail _ (List.Mem.tail _ (List.Mem.tail _ (List.Mem.tail _ (List.Mem.tail _ (List.Mem.head _)))))))))))))))))))))))))) rfl
set_option maxRecDepth 4000 in
theorem tw1118 : (Jvm.Cond.code ({ cls := "OneBack$Views", name := "rankOf", desc := "(LOneBack$Walk;I)I" } : Jvm.MethodName) prog_10_method_20_code (6 : Nat) (Option.some Jvm.ClassFile.FieldType.int)) ∈ GT := GT_m (ck5 (m8 (m8 (m8 (m8 (m8 (m8 (m8 (m8 (m8 (m8 (m8 (m8 (m8 (m8 (m8 (m8 (m8 (m8 (m8 (List.Mem.tail _ (List.Mem.tail _ (List.Mem.tail _ (List.Mem.tail _ (List.Mem.tail _ (List.Mem.tail _ (List.Mem.head _))))))))))))))))))))))))))) rfl
set_option maxRecDepth 4000 in
theorem tw1119 : (Jvm.Cond.methodLink "OneBackLaw" (125 : Nat) ({ cls := "OneBack", name := "haul", desc := "(IIIII)I" } : Jvm.MethodName)) ∈ GT := GT_m (ck5 (m8 (m8 (m8 (m8 (m8 (m8 (m8 (m8 (m8 (m8 (m8 (m8 (m8 (m8 (m8 (m8 (m8 (m8 (m8 (List.Mem.tail _ (List.Mem.tail _ (List.Mem.tail _ (List.Mem.tail _ (List.Mem.tail _ (List.Mem.tail _ (List.Mem.tail _ (List.Mem.head _)))))))))))))))))))))))))))) rfl
set_option maxRecDepth 4000 in
theorem tw1120 : (Jvm.Cond.instanceMethod ({ cls := "OneBack", name := "haul", desc := "(IIIII)I" } : Jvm.MethodName)) ∈ GT := GT_m (ck5 (m8 (m8 (m8 (m8 (m8 (m8 (m8 (m8 (m8 (m8 (m8 (m8 (m8 (m8 (m8 (m8 (m8 (m8 (m8 (m8 (List.Mem.head _)))))))))))))))))))))) rfl
set_option maxRecDepth 4000 in
theorem tw1121 : (Jvm.Cond.selects "OneBack" ({ cls := "OneBack", name := "haul", desc := "(IIIII)I" } : Jvm.MethodName) ({ cls := "OneBack", name := "haul", desc := "(IIIII)I" } : Jvm.MethodName)) ∈ GT := GT_m (ck5 (m8 (m8 (m8 (m8 (m8 (m8 (m8 (m8 (m8 (m8 (m8 (m8 (m8 (m8 (m8 (m8 (m8 (m8 (m8 (m8 (List.Mem.tail _ (List.Mem.head _))))))))))))))))))))))) rfl
set_option maxRecDepth 4000 in
theorem tw1122 : (Jvm.Cond.code ({ cls := "OneBack", name := "haul", desc := "(IIIII)I" } : Jvm.MethodName) prog_1_method_28_code (7 : Nat) (Option.some Jvm.ClassFile.FieldType.int)) ∈ GT := GT_m (ck5 (m8 (m8 (m8 (m8 (m8 (m8 (m8 (m8 (m8 (m8 (m8 (m8 (m8 (m8 (m8 (m8 (m8 (m8 (m8 (m8 (List.Mem.tail _ (List.Mem.tail _ (List.Mem.head _)))))))))))))))))))))))) rfl
set_option maxRecDepth 4000 in
theorem tw1123 : (Jvm.Cond.methodLink "OneBack" (311 : Nat) ({ cls := "OneBack$Porter", name := "choose", desc := "(LOneBack$Town;III)V" } : Jvm.MethodName)) ∈ GT := GT_m (ck5 (m8 (m8 (m8 (m8 (m8 (m8 (m8 (m8 (m8 (m8 (m8 (m8 (m8 (m8 (m8 (m8 (m8 (m8 (m8 (m8 (List.Mem.tail _ (List.Mem.tail _ (List.Mem.tail _ (List.Mem.head _))))))))))))))))))))))))) rfl
set_option maxRecDepth 4000 in
theorem tw1124 : (Jvm.Cond.instanceMethod ({ cls := "OneBack$Porter", name := "choose", desc := "(LOneBack$Town;III)V" } : Jvm.MethodName)) ∈ GT := GT_m (ck5 (m8 (m8 (m8 (m8 (m8 (m8 (m8 (m8 (m8 (m8 (m8 (m8 (m8 (m8 (m8 (m8 (m8 (m8 (m8 (m8 (List.Mem.tail _ (List.Mem.tail _ (List.Mem.tail _ (List.Mem.tail _ (List.Mem.head _)))))))))))))))))))))))))) rfl
set_option maxRecDepth 4000 in
theorem tw1125 : (Jvm.Cond.selects "OneBack$Porter" ({ cls := "OneBack$Porter", name := "choose", desc := "(LOneBack$Town;III)V" } : Jvm.MethodName) ({ cls := "OneBack$Porter", name := "choose", desc := "(LOneBack$Town;III)V" } : Jvm.MethodName)) ∈ GT := GT_m (ck5 (m8 (m8 (m8 (m8 (m8 (m8 (m8 (m8 (m8 (m8 (m8 (m8 (m8 (m8 (m8 (m8 (m8 (m8 (m8 (m8 (List.Mem.tail _ (List.Mem.tail _ (List.Mem.tail _ (List.Mem.tail _ (List.Mem.tail _ (List.Mem.head _))))))))))))))))))))))))))) rfl
set_option maxRecDepth 4000 in
theorem tw1126 : (Jvm.Cond.code ({ cls := "OneBack$Porter", name := "choose", desc := "(LOneBack$Town;III)V" } : Jvm.MethodName) prog_4_method_2_code (5 : Nat) (Option.none : Option Jvm.ClassFile.FieldType)) ∈ GT := GT_m (ck5 (m8 (m8 (m8 (m8 (m8 (m8 (m8 (m8 (m8 (m8 (m8 (m8 (m8 (m8 (m8 (m8 (m8 (m8 (m8 (m8 (List.Mem.tail _ (List.Mem.tail _ (List.Mem.tail _ (List.Mem.tail _ (List.Mem.tail _ (List.Mem.tail _ (List.Mem.head _)))))))))))))))))))))))))))) rfl
set_option maxRecDepth 4000 in
theorem tw1128 : (Jvm.Cond.methodLink "OneBack$Porter" (33 : Nat) ({ cls := "OneBack$Porter", name := "pick", desc := "(LOneBack$Porter;IIII)V" } : Jvm.MethodName)) ∈ GT := GT_m (ck5 (m8 (m8 (m8 (m8 (m8 (m8 (m8 (m8 (m8 (m8 (m8 (m8 (m8 (m8 (m8 (m8 (m8 (m8 (m8 (m8 (m8 (List.Mem.head _))))))))))))))))))))))) rfl
set_option maxRecDepth 4000 in
theorem tw1129 : (Jvm.Cond.static ({ cls := "OneBack$Porter", name := "pick", desc := "(LOneBack$Porter;IIII)V" } : Jvm.MethodName)) ∈ GT := GT_m (ck5 (m8 (m8 (m8 (m8 (m8 (m8 (m8 (m8 (m8 (m8 (m8 (m8 (m8 (m8 (m8 (m8 (m8 (m8 (m8 (m8 (m8 (List.Mem.tail _ (List.Mem.head _)))))))))))))))))))))))) rfl
set_option maxRecDepth 4000 in
theorem tw1130 : (Jvm.Cond.code ({ cls := "OneBack$Porter", name := "pick", desc := "(LOneBack$Porter;IIII)V" } : Jvm.MethodName) prog_4_method_3_code (8 : Nat) (Option.none : Option Jvm.ClassFile.FieldType)) ∈ GT := GT_m (ck5 (m8 (m8 (m8 (m8 (m8 (m8 (m8 (m8 (m8 (m8 (m8 (m8 (m8 (m8 (m8 (m8 (m8 (m8 (m8 (m8 (m8 (List.Mem.tail _ (List.Mem.tail _ (List.Mem.head _))))))))))))))))))))))))) rfl
set_option maxRecDepth 4000 in
theorem tw1131 : (Jvm.Cond.methodLink "OneBack$Porter" (37 : Nat) ({ cls := "OneBack$Porter", name := "keepBetter", desc := "(I)V" } : Jvm.MethodName)) ∈ GT := GT_m (ck5 (m8 (m8 (m8 (m8 (m8 (m8 (m8 (m8 (m8 (m8 (m8 (m8 (m8 (m8 (m8 (m8 (m8 (m8 (m8 (m8 (m8 (List.Mem.tail _ (List.Mem.tail _ (List.Mem.tail _ (List.Mem.head _)))))))))))))))))))))))))) rfl
set_option maxRecDepth 4000 in
theorem tw1133 : (Jvm.Cond.instanceMethod ({ cls := "OneBack$Porter", name := "keepBetter", desc := "(I)V" } : Jvm.MethodName)) ∈ GT := GT_m (ck5 (m8 (m8 (m8 (m8 (m8 (m8 (m8 (m8 (m8 (m8 (m8 (m8 (m8 (m8 (m8 (m8 (m8 (m8 (m8 (m8 (m8 (List.Mem.tail _ (List.Mem.tail _ (List.Mem.tail _ (List.Mem.tail _ (List.Mem.tail _ (List.Mem.head _)))))))))))))))))))))))))))) rfl
set_option maxRecDepth 4000 in
theorem tw1134 : (Jvm.Cond.code ({ cls := "OneBack$Porter", name := "keepBetter", desc := "(I)V" } : Jvm.MethodName) prog_4_method_4_code (2 : Nat) (Option.none : Option Jvm.ClassFile.FieldType)) ∈ GT := GT_m (ck5 (m8 (m8 (m8 (m8 (m8 (m8 (m8 (m8 (m8 (m8 (m8 (m8 (m8 (m8 (m8 (m8 (m8 (m8 (m8 (m8 (m8 (List.Mem.tail _ (List.Mem.tail _ (List.Mem.tail _ (List.Mem.tail _ (List.Mem.tail _ (List.Mem.tail _ (List.Mem.head _))))))))))))))))))))))))))))) rfl
set_option maxRecDepth 4000 in
theorem tw1137 : (Jvm.Cond.methodLink "OneBack$Porter" (50 : Nat) ({ cls := "java/lang/Math", name := "min", desc := "(II)I" } : Jvm.MethodName)) ∈ GT := GT_m (ck5 (m8 (m8 (m8 (m8 (m8 (m8 (m8 (m8 (m8 (m8 (m8 (m8 (m8 (m8 (m8 (m8 (m8 (m8 (m8 (m8 (m8 (m8 (List.Mem.tail _ (List.Mem.head _))))))))))))))))))))))))) rfl
set_option maxRecDepth 4000 in
theorem tw1138 : (Jvm.Cond.methodLink "OneBackLaw" (129 : Nat) ({ cls := "OneBack", name := "crew", desc := "(IIZ)I" } : Jvm.MethodName)) ∈ GT := GT_m (ck5 (m8 (m8 (m8 (m8 (m8 (m8 (m8 (m8 (m8 (m8 (m8 (m8 (m8 (m8 (m8 (m8 (m8 (m8 (m8 (m8 (m8 (m8 (List.Mem.tail _ (List.Mem.tail _ (List.Mem.head _)))))))))))))))))))))))))) rfl
set_option maxRecDepth 4000 in
theorem tw1139 : (Jvm.Cond.instanceMethod ({ cls := "OneBack", name := "crew", desc := "(IIZ)I" } : Jvm.MethodName)) ∈ GT := GT_m (ck5 (m8 (m8 (m8 (m8 (m8 (m8 (m8 (m8 (m8 (m8 (m8 (m8 (m8 (m8 (m8 (m8 (m8 (m8 (m8 (m8 (m8 (m8 (List.Mem.tail _ (List.Mem.tail _ (List.Mem.tail _ (List.Mem.head _))))))))))))))))))))))))))) rfl
set_option maxRecDepth 4000 in
theorem tw1140 : (Jvm.Cond.selects "OneBack" ({ cls := "OneBack", name := "crew", desc := "(IIZ)I" } : Jvm.MethodName) ({ cls := "OneBack", name := "crew", desc := "(IIZ)I" } : Jvm.MethodName)) ∈ GT := GT_m (ck5 (m8 (m8 (m8 (m8 (m8 (m8 (m8 (m8 (m8 (m8 (m8 (m8 (m8 (m8 (m8 (m8 (m8 (m8 (m8 (m8 (m8 (m8 (List.Mem.tail _ (List.Mem.tail _ (List.Mem.tail _ (List.Mem.tail _ (List.Mem.head _)))))))))))))))))))))))))))) rfl
set_option maxRecDepth 4000 in
theorem tw1141 : (Jvm.Cond.code ({ cls := "OneBack", name := "crew", desc := "(IIZ)I" } : Jvm.MethodName) prog_1_method_29_code (6 : Nat) (Option.some Jvm.ClassFile.FieldType.int)) ∈ GT := GT_m (ck5 (m8 (m8 (m8 (m8 (m8 (m8 (m8 (m8 (m8 (m8 (m8 (m8 (m8 (m8 (m8 (m8 (m8 (m8 (m8 (m8 (m8 (m8 (List.Mem.tail _ (List.Mem.tail _ (List.Mem.tail _ (List.Mem.tail _ (List.Mem.tail _ (List.Mem.head _))))))))))))))))))))))))))))) rfl
set_option maxRecDepth 4000 in
theorem tw1142 : (Jvm.Cond.methodLink "OneBack" (321 : Nat) ({ cls := "OneBack$Town", name := "crewFor", desc := "(I)I" } : Jvm.MethodName)) ∈ GT := GT_m (ck5 (m8 (m8 (m8 (m8 (m8 (m8 (m8 (m8 (m8 (m8 (m8 (m8 (m8 (m8 (m8 (m8 (m8 (m8 (m8 (m8 (m8 (m8 (List.Mem.tail _ (List.Mem.tail _ (List.Mem.tail _ (List.Mem.tail _ (List.Mem.tail _ (List.Mem.tail _ (List.Mem.head _)))))))))))))))))))))))))))))) rfl
set_option maxRecDepth 4000 in
theorem tw1143 : (Jvm.Cond.instanceMethod ({ cls := "OneBack$Town", name := "crewFor", desc := "(I)I" } : Jvm.MethodName)) ∈ GT := GT_m (ck5 (m8 (m8 (m8 (m8 (m8 (m8 (m8 (m8 (m8 (m8 (m8 (m8 (m8 (m8 (m8 (m8 (m8 (m8 (m8 (m8 (m8 (m8 (List.Mem.tail _ (List.Mem.tail _ (List.Mem.tail _ (List.Mem.tail _ (List.Mem.tail _ (List.Mem.tail _ (List.Mem.tail _ (List.Mem.head _))))))))))))))))))))))))))))))) rfl
set_option maxRecDepth 4000 in
theorem tw1144 : (Jvm.Cond.selects "OneBack$Town" ({ cls := "OneBack$Town", name := "crewFor", desc := "(I)I" } : Jvm.MethodName) ({ cls := "OneBack$Town", name := "crewFor", desc := "(I)I" } : Jvm.MethodName)) ∈ GT := GT_m (ck5 (m8 (m8 (m8 (m8 (m8 (m8 (m8 (m8 (m8 (m8 (m8 (m8 (m8 (m8 (m8 (m8 (m8 (m8 (m8 (m8 (m8 (m8 (m8 (List.Mem.head _))))))))))))))))))))))))) rfl
set_option maxRecDepth 4000 in
theorem tw1145 : (Jvm.Cond.code ({ cls := "OneBack$Town", name := "crewFor", desc := "(I)I" } : Jvm.MethodName) prog_9_method_15_code (5 : Nat) (Option.some Jvm.ClassFile.FieldType.int)) ∈ GT := GT_m (ck5 (m8 (m8 (m8 (m8 (m8 (m8 (m8 (m8 (m8 (m8 (m8 (m8 (m8 (m8 (m8 (m8 (m8 (m8 (m8 (m8 (m8 (m8 (m8 (List.Mem.tail _ (List.Mem.head _)))))))))))))))))))))))))) rfl
set_option maxRecDepth 4000 in
theorem tw1146 : (Jvm.Cond.methodLink "OneBack$Town" (72 : Nat) ({ cls := "java/lang/Integer", name := "bitCount", desc := "(I)I" } : Jvm.MethodName)) ∈ GT := GT_m (ck5 (m8 (m8 (m8 (m8 (m8 (m8 (m8 (m8 (m8 (m8 (m8 (m8 (m8 (m8 (m8 (m8 (m8 (m8 (m8 (m8 (m8 (m8 (m8 (List.Mem.tail _ (List.Mem.tail _ (List.Mem.head _))))))))))))))))))))))))))) rfl
set_option maxRecDepth 4000 in
theorem tw1147 : (Jvm.Cond.static ({ cls := "java/lang/Integer", name := "bitCount", desc := "(I)I" } : Jvm.MethodName)) ∈ GT := GT_m (ck5 (m8 (m8 (m8 (m8 (m8 (m8 (m8 (m8 (m8 (m8 (m8 (m8 (m8 (m8 (m8 (m8 (m8 (m8 (m8 (m8 (m8 (m8 (m8 (List.Mem.tail _ (List.Mem.tail _ (List.Mem.tail _ (List.Mem.head _)))))))))))))))))))))))))))) rfl
set_option maxRecDepth 4000 in
theorem tw1148 : (Jvm.Cond.code ({ cls := "java/lang/Integer", name := "bitCount", desc := "(I)I" } : Jvm.MethodName) prog_14_method_49_code (1 : Nat) (Option.some Jvm.ClassFile.FieldType.int)) ∈ GT := GT_m (ck5 (m8 (m8 (m8 (m8 (m8 (m8 (m8 (m8 (m8 (m8 (m8 (m8 (m8 (m8 (m8 (m8 (m8 (m8 (m8 (m8 (m8 (m8 (m8 (List.Mem.tail _ (List.Mem.tail _ (List.Mem.tail _ (List.Mem.tail _ (List.Mem.head _))))))))))))))))))))))))))))) rfl
set_option maxRecDepth 4000 in
theorem tw1149 : (Jvm.Cond.constant "java/lang/Integer" (265 : Nat) (1431655765 : Int32)) ∈ GT := GT_m (ck5 (m8 (m8 (m8 (m8 (m8 (m8 (m8 (m8 (m8 (m8 (m8 (m8 (m8 (m8 (m8 (m8 (m8 (m8 (m8 (m8 (m8 (m8 (m8 (List.Mem.tail _ (List.Mem.tail _ (List.Mem.tail _ (List.Mem.tail _ (List.Mem.tail _ (List.Mem.head _)))))))))))))))))))))))))))))) rfl
set_option maxRecDepth 4000 in
theorem tw1150 : (Jvm.Cond.constant "java/lang/Integer" (266 : Nat) (858993459 : Int32)) ∈ GT := GT_m (ck5 (m8 (m8 (m8 (m8 (m8 (m8 (m8 (m8 (m8 (m8 (m8 (m8 (m8 (m8 (m8 (m8 (m8 (m8 (m8 (m8 (m8 (m8 (m8 (List.Mem.tail _ (List.Mem.tail _ (List.Mem.tail _ (List.Mem.tail _ (List.Mem.tail _ (List.Mem.tail _ (List.Mem.head _))))))))))))))))))))))))))))))) rfl
set_option maxRecDepth 4000 in
theorem tw1151 : (Jvm.Cond.constant "java/lang/Integer" (267 : Nat) (252645135 : Int32)) ∈ GT := GT_m (ck5 (m8 (m8 (m8 (m8 (m8 (m8 (m8 (m8 (m8 (m8 (m8 (m8 (m8 (m8 (m8 (m8 (m8 (m8 (m8 (m8 (m8 (m8 (m8 (List.Mem.tail _ (List.Mem.tail _ (List.Mem.tail _ (List.Mem.tail _ (List.Mem.tail _ (List.Mem.tail _ (List.Mem.tail _ (List.Mem.head _)))))))))))))))))))))))))))))))) rfl
set_option maxRecDepth 4000 in
theorem tw1152 : (Jvm.Cond.methodLink "OneBack$Town" (78 : Nat) ({ cls := "OneBack$Town", name := "limitOf", desc := "(I)I" } : Jvm.MethodName)) ∈ GT := GT_m (ck5 (m8 (m8 (m8 (m8 (m8 (m8 (m8 (m8 (m8 (m8 (m8 (m8 (m8 (m8 (m8 (m8 (m8 (m8 (m8 (m8 (m8 (m8 (m8 (m8 (List.Mem.head _)))))))))))))))))))))))))) rfl
set_option maxRecDepth 4000 in
theorem tw1153 : (Jvm.Cond.instanceMethod ({ cls := "OneBack$Town", name := "limitOf", desc := "(I)I" } : Jvm.MethodName)) ∈ GT := GT_m (ck5 (m8 (m8 (m8 (m8 (m8 (m8 (m8 (m8 (m8 (m8 (m8 (m8 (m8 (m8 (m8 (m8 (m8 (m8 (m8 (m8 (m8 (m8 (m8 (m8 (List.Mem.tail _ (List.Mem.head _))))))))))))))))))))))))))) rfl
set_option maxRecDepth 4000 in
theorem tw1154 : (Jvm.Cond.selects "OneBack$Town" ({ cls := "OneBack$Town", name := "limitOf", desc := "(I)I" } : Jvm.MethodName) ({ cls := "OneBack$Town", name := "limitOf", desc := "(I)I" } : Jvm.MethodName)) ∈ GT := GT_m (ck5 (m8 (m8 (m8 (m8 (m8 (m8 (m8 (m8 (m8 (m8 (m8 (m8 (m8 (m8 (m8 (m8 (m8 (m8 (m8 (m8 (m8 (m8 (m8 (m8 (List.Mem.tail _ (List.Mem.tail _ (List.Mem.head _)))))))))))))))))))))))))))) rfl
set_option maxRecDepth 4000 in
theorem tw1155 : (Jvm.Cond.code ({ cls := "OneBack$Town", name := "limitOf", desc := "(I)I" } : Jvm.MethodName) prog_9_method_16_code (4 : Nat) (Option.some Jvm.ClassFile.FieldType.int)) ∈ GT := GT_m (ck5 (m8 (m8 (m8 (m8 (m8 (m8 (m8 (m8 (m8 (m8 (m8 (m8 (m8 (m8 (m8 (m8 (m8 (m8 (m8 (m8 (m8 (m8 (m8 (m8 (List.Mem.tail _ (List.Mem.tail _ (List.Mem.tail _ (List.Mem.head _))))))))))))))))))))))))))))) rfl
set_option maxRecDepth 4000 in
theorem tw1156 : (Jvm.Cond.methodLink "OneBack" (324 : Nat) ({ cls := "java/lang/Integer", name := "bitCount", desc := "(I)I" } : Jvm.MethodName)) ∈ GT := GT_m (ck5 (m8 (m8 (m8 (m8 (m8 (m8 (m8 (m8 (m8 (m8 (m8 (m8 (m8 (m8 (m8 (m8 (m8 (m8 (m8 (m8 (m8 (m8 (m8 (m8 (List.Mem.tail _ (List.Mem.tail _ (List.Mem.tail _ (List.Mem.tail _ (List.Mem.head _)))))))))))))))))))))))))))))) rfl
set_option maxRecDepth 4000 in
theorem tw1157 : (Jvm.Cond.methodLink "OneBackLaw" (133 : Nat) ({ cls := "OneBack", name := "pairs", desc := "(II)I" } : Jvm.MethodName)) ∈ GT := GT_m (ck5 (m8 (m8 (m8 (m8 (m8 (m8 (m8 (m8 (m8 (m8 (m8 (m8 (m8 (m8 (m8 (m8 (m8 (m8 (m8 (m8 (m8 (m8 (m8 (m8 (List.Mem.tail _ (List.Mem.tail _ (List.Mem.tail _ (List.Mem.tail _ (List.Mem.tail _ (List.Mem.head _))))))))))))))))))))))))))))))) rfl
set_option maxRecDepth 4000 in
theorem tw1158 : (Jvm.Cond.instanceMethod ({ cls := "OneBack", name := "pairs", desc := "(II)I" } : Jvm.MethodName)) ∈ GT := GT_m (ck5 (m8 (m8 (m8 (m8 (m8 (m8 (m8 (m8 (m8 (m8 (m8 (m8 (m8 (m8 (m8 (m8 (m8 (m8 (m8 (m8 (m8 (m8 (m8 (m8 (List.Mem.tail _ (List.Mem.tail _ (List.Mem.tail _ (List.Mem.tail _ (List.Mem.tail _ (List.Mem.tail _ (List.Mem.head _)))))))))))))))))))))))))))))))) rfl
set_option maxRecDepth 4000 in
theorem tw1159 : (Jvm.Cond.selects "OneBack" ({ cls := "OneBack", name := "pairs", desc := "(II)I" } : Jvm.MethodName) ({ cls := "OneBack", name := "pairs", desc := "(II)I" } : Jvm.MethodName)) ∈ GT := GT_m (ck5 (m8 (m8 (m8 (m8 (m8 (m8 (m8 (m8 (m8 (m8 (m8 (m8 (m8 (m8 (m8 (m8 (m8 (m8 (m8 (m8 (m8 (m8 (m8 (m8 (List.Mem.tail _ (List.Mem.tail _ (List.Mem.tail _ (List.Mem.tail _ (List.Mem.tail _ (List.Mem.tail _ (List.Mem.tail _ (List.Mem.head _))))))))))))))))))))))))))))))))) rfl
set_option maxRecDepth 4000 in
theorem tw1160 : (Jvm.Cond.code ({ cls := "OneBack", name := "pairs", desc := "(II)I" } : Jvm.MethodName) prog_1_method_30_code (4 : Nat) (Option.some Jvm.ClassFile.FieldType.int)) ∈ GT := GT_m (ck5 (m8 (m8 (m8 (m8 (m8 (m8 (m8 (m8 (m8 (m8 (m8 (m8 (m8 (m8 (m8 (m8 (m8 (m8 (m8 (m8 (m8 (m8 (m8 (m8 (m8 (List.Mem.head _))))))))))))))))))))))))))) rfl
set_option maxRecDepth 4000 in
theorem tw1161 : (Jvm.Cond.methodLink "OneBack" (329 : Nat) ({ cls := "OneBack$Town", name := "pairAt", desc := "(I)I" } : Jvm.MethodName)) ∈ GT := GT_m (ck5 (m8 (m8 (m8 (m8 (m8 (m8 (m8 (m8 (m8 (m8 (m8 (m8 (m8 (m8 (m8 (m8 (m8 (m8 (m8 (m8 (m8 (m8 (m8 (m8 (m8 (List.Mem.tail _ (List.Mem.head _)))))))))))))))))))))))))))) rfl
set_option maxRecDepth 4000 in
theorem tw1162 : (Jvm.Cond.instanceMethod ({ cls := "OneBack$Town", name := "pairAt", desc := "(I)I" } : Jvm.MethodName)) ∈ GT := GT_m (ck5 (m8 (m8 (m8 (m8 (m8 (m8 (m8 (m8 (m8 (m8 (m8 (m8 (m8 (m8 (m8 (m8 (m8 (m8 (m8 (m8 (m8 (m8 (m8 (m8 (m8 (List.Mem.tail _ (List.Mem.tail _ (List.Mem.head _))))))))))))))))))))))))))))) rfl
set_option maxRecDepth 4000 in
theorem tw1163 : (Jvm.Cond.selects "OneBack$Town" ({ cls := "OneBack$Town", name := "pairAt", desc := "(I)I" } : Jvm.MethodName) ({ cls := "OneBack$Town", name := "pairAt", desc := "(I)I" } : Jvm.MethodName)) ∈ GT := GT_m (ck5 (m8 (m8 (m8 (m8 (m8 (m8 (m8 (m8 (m8 (m8 (m8 (m8 (m8 (m8 (m8 (m8 (m8 (m8 (m8 (m8 (m8 (m8 (m8 (m8 (m8 (List.Mem.tail _ (List.Mem.tail _ (List.Mem.tail _ (List.Mem.head _)))))))))))))))))))))))))))))) rfl
set_option maxRecDepth 4000 in
theorem tw1164 : (Jvm.Cond.code ({ cls := "OneBack$Town", name := "pairAt", desc := "(I)I" } : Jvm.MethodName) prog_9_method_17_code (5 : Nat) (Option.some Jvm.ClassFile.FieldType.int)) ∈ GT := GT_m (ck5 (m8 (m8 (m8 (m8 (m8 (m8 (m8 (m8 (m8 (m8 (m8 (m8 (m8 (m8 (m8 (m8 (m8 (m8 (m8 (m8 (m8 (m8 (m8 (m8 (m8 (List.Mem.tail _ (List.Mem.tail _ (List.Mem.tail _ (List.Mem.tail _ (List.Mem.head _))))))))))))))))))))))))))))))) rfl
set_option maxRecDepth 4000 in
theorem tw1165 : (Jvm.Cond.methodLink "OneBack$Town" (81 : Nat) ({ cls := "OneBack$Town", name := "helps", desc := "(II)Z" } : Jvm.MethodName)) ∈ GT := GT_m (ck5 (m8 (m8 (m8 (m8 (m8 (m8 (m8 (m8 (m8 (m8 (m8 (m8 (m8 (m8 (m8 (m8 (m8 (m8 (m8 (m8 (m8 (m8 (m8 (m8 (m8 (List.Mem.tail _ (List.Mem.tail _ (List.Mem.tail _ (List.Mem.tail _ (List.Mem.tail _ (List.Mem.head _)))))))))))))))))))))))))))))))) rfl
set_option maxRecDepth 4000 in
theorem tw1166 : (Jvm.Cond.instanceMethod ({ cls := "OneBack$Town", name := "helps", desc := "(II)Z" } : Jvm.MethodName)) ∈ GT := GT_m (ck5 (m8 (m8 (m8 (m8 (m8 (m8 (m8 (m8 (m8 (m8 (m8 (m8 (m8 (m8 (m8 (m8 (m8 (m8 (m8 (m8 (m8 (m8 (m8 (m8 (m8 (List.Mem.tail _ (List.Mem.tail _ (List.Mem.tail _ (List.Mem.tail _ (List.Mem.tail _ (List.Mem.tail _ (List.Mem.head _))))))))))))))))))))))))))))))))) rfl
set_option maxRecDepth 4000 in
theorem tw1167 : (Jvm.Cond.selects "OneBack$Town" ({ cls := "OneBack$Town", name := "helps", desc := "(II)Z" } : Jvm.MethodName) ({ cls := "OneBack$Town", name := "helps", desc := "(II)Z" } : Jvm.MethodName)) ∈ GT := GT_m (ck5 (m8 (m8 (m8 (m8 (m8 (m8 (m8 (m8 (m8 (m8 (m8 (m8 (m8 (m8 (m8 (m8 (m8 (m8 (m8 (m8 (m8 (m8 (m8 (m8 (m8 (List.Mem.tail _ (List.Mem.tail _ (List.Mem.tail _ (List.Mem.tail _ (List.Mem.tail _ (List.Mem.tail _ (List.Mem.tail _ (List.Mem.head _)))))))))))))))))))))))))))))))))) rfl
set_option maxRecDepth 4000 in
theorem tw1168 : (Jvm.Cond.code ({ cls := "OneBack$Town", name := "helps", desc := "(II)Z" } : Jvm.MethodName) prog_9_method_18_code (4 : Nat) (Option.some Jvm.ClassFile.FieldType.boolean)) ∈ GT := GT_m (ck5 (m8 (m8 (m8 (m8 (m8 (m8 (m8 (m8 (m8 (m8 (m8 (m8 (m8 (m8 (m8 (m8 (m8 (m8 (m8 (m8 (m8 (m8 (m8 (m8 (m8 (m8 (List.Mem.head _)))))))))))))))))))))))))))) rfl
set_option maxRecDepth 4000 in
theorem tw1169 : (Jvm.Cond.methodLink "OneBackLaw" (137 : Nat) ({ cls := "OneBack", name := "count", desc := "(I)I" } : Jvm.MethodName)) ∈ GT := GT_m (ck5 (m8 (m8 (m8 (m8 (m8 (m8 (m8 (m8 (m8 (m8 (m8 (m8 (m8 (m8 (m8 (m8 (m8 (m8 (m8 (m8 (m8 (m8 (m8 (m8 (m8 (m8 (List.Mem.tail _ (List.Mem.head _))))))))))))))))))))))))))))) rfl
set_option maxRecDepth 4000 in
theorem tw1170 : (Jvm.Cond.instanceMethod ({ cls := "OneBack", name := "count", desc := "(I)I" } : Jvm.MethodName)) ∈ GT := GT_m (ck5 (m8 (m8 (m8 (m8 (m8 (m8 (m8 (m8 (m8 (m8 (m8 (m8 (m8 (m8 (m8 (m8 (m8 (m8 (m8 (m8 (m8 (m8 (m8 (m8 (m8 (m8 (List.Mem.tail _ (List.Mem.tail _ (List.Mem.head _)))))))))))))))))))))))))))))) rfl
set_option maxRecDepth 4000 in
theorem tw1171 : (Jvm.Cond.selects "OneBack" ({ cls := "OneBack", name := "count", desc := "(I)I" } : Jvm.MethodName) ({ cls := "OneBack", name := "count", desc := "(I)I" } : Jvm.MethodName)) ∈ GT := GT_m (ck5 (m8 (m8 (m8 (m8 (m8 (m8 (m8 (m8 (m8 (m8 (m8 (m8 (m8 (m8 (m8 (m8 (m8 (m8 (m8 (m8 (m8 (m8 (m8 (m8 (m8 (m8 (List.Mem.tail _ (List.Mem.tail _ (List.Mem.tail _ (List.Mem.head _))))))))))))))))))))))))))))))) rfl
set_option maxRecDepth 4000 in
theorem tw1172 : (Jvm.Cond.code ({ cls := "OneBack", name := "count", desc := "(I)I" } : Jvm.MethodName) prog_1_method_31_code (2 : Nat) (Option.some Jvm.ClassFile.FieldType.int)) ∈ GT := GT_m (ck5 (m8 (m8 (m8 (m8 (m8 (m8 (m8 (m8 (m8 (m8 (m8 (m8 (m8 (m8 (m8 (m8 (m8 (m8 (m8 (m8 (m8 (m8 (m8 (m8 (m8 (m8 (List.Mem.tail _ (List.Mem.tail _ (List.Mem.tail _ (List.Mem.tail _ (List.Mem.head _)))))))))))))))))))))))))))))))) rfl
set_option maxRecDepth 4000 in
theorem tw1173 : (Jvm.Cond.methodLink "OneBackLaw" (141 : Nat) ({ cls := "OneBack", name := "image", desc := "(I)Z" } : Jvm.MethodName)) ∈ GT := GT_m (ck5 (m8 (m8 (m8 (m8 (m8 (m8 (m8 (m8 (m8 (m8 (m8 (m8 (m8 (m8 (m8 (m8 (m8 (m8 (m8 (m8 (m8 (m8 (m8 (m8 (m8 (m8 (List.Mem.tail _ (List.Mem.tail _ (List.Mem.tail _ (List.Mem.tail _ (List.Mem.tail _ (List.Mem.head _))))))))))))))))))))))))))))))))) rfl
set_option maxRecDepth 4000 in
theorem tw1174 : (Jvm.Cond.instanceMethod ({ cls := "OneBack", name := "image", desc := "(I)Z" } : Jvm.MethodName)) ∈ GT := GT_m (ck5 (m8 (m8 (m8 (m8 (m8 (m8 (m8 (m8 (m8 (m8 (m8 (m8 (m8 (m8 (m8 (m8 (m8 (m8 (m8 (m8 (m8 (m8 (m8 (m8 (m8 (m8 (List.Mem.tail _ (List.Mem.tail _ (List.Mem.tail _ (List.Mem.tail _ (List.Mem.tail _ (List.Mem.tail _ (List.Mem.head _)))))))))))))))))))))))))))))))))) rfl
set_option maxRecDepth 4000 in
theorem tw1175 : (Jvm.Cond.selects "OneBack" ({ cls := "OneBack", name := "image", desc := "(I)Z" } : Jvm.MethodName) ({ cls := "OneBack", name := "image", desc := "(I)Z" } : Jvm.MethodName)) ∈ GT := GT_m (ck5 (m8 (m8 (m8 (m8 (m8 (m8 (m8 (m8 (m8 (m8 (m8 (m8 (m8 (m8 (m8 (m8 (m8 (m8 (m8 (m8 (m8 (m8 (m8 (m8 (m8 (m8 (List.Mem.tail _ (List.Mem.tail _ (List.Mem.tail _ (List.Mem.tail _ (List.Mem.tail _ (List.Mem.tail _ (List.Mem.tail _ (List.Mem.head _))))))))))))))))))))))))))))))))))) rfl
set_option maxRecDepth 4000 in
theorem tw1176 : (Jvm.Cond.code ({ cls := "OneBack", name := "image", desc := "(I)Z" } : Jvm.MethodName) prog_1_method_32_code (2 : Nat) (Option.some Jvm.ClassFile.FieldType.boolean)) ∈ GT := GT_m (ck5 (m8 (m8 (m8 (m8 (m8 (m8 (m8 (m8 (m8 (m8 (m8 (m8 (m8 (m8 (m8 (m8 (m8 (m8 (m8 (m8 (m8 (m8 (m8 (m8 (m8 (m8 (m8 (List.Mem.head _))))))))))))))))))))))))))))) rfl
set_option maxRecDepth 4000 in
theorem tw1177 : (Jvm.Cond.methodLink "OneBack" (334 : Nat) ({ cls := "OneBack$Told", name := "copy", desc := "(LOneBack$Told;)V" } : Jvm.MethodName)) ∈ GT := GT_m (ck5 (m8 (m8 (m8 (m8 (m8 (m8 (m8 (m8 (m8 (m8 (m8 (m8 (m8 (m8 (m8 (m8 (m8 (m8 (m8 (m8 (m8 (m8 (m8 (m8 (m8 (m8 (m8 (List.Mem.tail _ (List.Mem.head _)))))))))))))))))))))))))))))) rfl
set_option maxRecDepth 4000 in
theorem tw1178 : (Jvm.Cond.instanceMethod ({ cls := "OneBack$Told", name := "copy", desc := "(LOneBack$Told;)V" } : Jvm.MethodName)) ∈ GT := GT_m (ck5 (m8 (m8 (m8 (m8 (m8 (m8 (m8 (m8 (m8 (m8 (m8 (m8 (m8 (m8 (m8 (m8 (m8 (m8 (m8 (m8 (m8 (m8 (m8 (m8 (m8 (m8 (m8 (List.Mem.tail _ (List.Mem.tail _ (List.Mem.head _))))))))))))))))))))))))))))))) rfl
set_option maxRecDepth 4000 in
theorem tw1179 : (Jvm.Cond.selects "OneBack$Told" ({ cls := "OneBack$Told", name := "copy", desc := "(LOneBack$Told;)V" } : Jvm.MethodName) ({ cls := "OneBack$Told", name := "copy", desc := "(LOneBack$Told;)V" } : Jvm.MethodName)) ∈ GT := GT_m (ck5 (m8 (m8 (m8 (m8 (m8 (m8 (m8 (m8 (m8 (m8 (m8 (m8 (m8 (m8 (m8 (m8 (m8 (m8 (m8 (m8 (m8 (m8 (m8 (m8 (m8 (m8 (m8 (List.Mem.tail _ (List.Mem.tail _ (List.Mem.tail _ (List.Mem.head _)))))))))))))))))))))))))))))))) rfl
set_option maxRecDepth 4000 in
theorem tw1180 : (Jvm.Cond.code ({ cls := "OneBack$Told", name := "copy", desc := "(LOneBack$Told;)V" } : Jvm.MethodName) prog_8_method_10_code (3 : Nat) (Option.none : Option Jvm.ClassFile.FieldType)) ∈ GT := GT_m (ck5 (m8 (m8 (m8 (m8 (m8 (m8 (m8 (m8 (m8 (m8 (m8 (m8 (m8 (m8 (m8 (m8 (m8 (m8 (m8 (m8 (m8 (m8 (m8 (m8 (m8 (m8 (m8 (List.Mem.tail _ (List.Mem.tail _ (List.Mem.tail _ (List.Mem.tail _ (List.Mem.head _))))))))))))))))))))))))))))))))) rfl
set_option maxRecDepth 4000 in
theorem tw1181 : (Jvm.Cond.methodLink "OneBack$Told" (97 : Nat) ({ cls := "java/lang/System", name := "arraycopy", desc := "(Ljava/lang/Object;ILjava/lang/Object;II)V" } : Jvm.MethodName)) ∈ GT := GT_m (ck5 (m8 (m8 (m8 (m8 (m8 (m8 (m8 (m8 (m8 (m8 (m8 (m8 (m8 (m8 (m8 (m8 (m8 (m8 (m8 (m8 (m8 (m8 (m8 (m8 (m8 (m8 (m8 (List.Mem.tail _ (List.Mem.tail _ (List.Mem.tail _ (List.Mem.tail _ (List.Mem.tail _ (List.Mem.head _)))))))))))))))))))))))))))))))))) rfl
set_option maxRecDepth 4000 in
theorem tw1183 : (Jvm.Cond.methodLink "OneBackLaw" (146 : Nat) ({ cls := "OneBack", name := "again", desc := "(I)Z" } : Jvm.MethodName)) ∈ GT := GT_m (ck5 (m8 (m8 (m8 (m8 (m8 (m8 (m8 (m8 (m8 (m8 (m8 (m8 (m8 (m8 (m8 (m8 (m8 (m8 (m8 (m8 (m8 (m8 (m8 (m8 (m8 (m8 (m8 (List.Mem.tail _ (List.Mem.tail _ (List.Mem.tail _ (List.Mem.tail _ (List.Mem.tail _ (List.Mem.tail _ (List.Mem.tail _ (List.Mem.head _)))))))))))))))))))))))))))))))))))) rfl
set_option maxRecDepth 4000 in
theorem tw1184 : (Jvm.Cond.instanceMethod ({ cls := "OneBack", name := "again", desc := "(I)Z" } : Jvm.MethodName)) ∈ GT := GT_m (ck5 (m8 (m8 (m8 (m8 (m8 (m8 (m8 (m8 (m8 (m8 (m8 (m8 (m8 (m8 (m8 (m8 (m8 (m8 (m8 (m8 (m8 (m8 (m8 (m8 (m8 (m8 (m8 (m8 (List.Mem.head _)))))))))))))))))))))))))))))) rfl
set_option maxRecDepth 4000 in
theorem tw1185 : (Jvm.Cond.selects "OneBack" ({ cls := "OneBack", name := "again", desc := "(I)Z" } : Jvm.MethodName) ({ cls := "OneBack", name := "again", desc := "(I)Z" } : Jvm.MethodName)) ∈ GT := GT_m (ck5 (m8 (m8 (m8 (m8 (m8 (m8 (m8 (m8 (m8 (m8 (m8 (m8 (m8 (m8 (m8 (m8 (m8 (m8 (m8 (m8 (m8 (m8 (m8 (m8 (m8 (m8 (m8 (m8 (List.Mem.tail _ (List.Mem.head _))))))))))))))))))))))))))))))) rfl
set_option maxRecDepth 4000 in
theorem tw1186 : (Jvm.Cond.code ({ cls := "OneBack", name := "again", desc := "(I)Z" } : Jvm.MethodName) prog_1_method_33_code (2 : Nat) (Option.some Jvm.ClassFile.FieldType.boolean)) ∈ GT := GT_m (ck5 (m8 (m8 (m8 (m8 (m8 (m8 (m8 (m8 (m8 (m8 (m8 (m8 (m8 (m8 (m8 (m8 (m8 (m8 (m8 (m8 (m8 (m8 (m8 (m8 (m8 (m8 (m8 (m8 (List.Mem.tail _ (List.Mem.tail _ (List.Mem.head _)))))))))))))))))))))))))))))))) rfl
set_option maxRecDepth 4000 in
theorem tw1187 : (Jvm.Cond.classLink "OneBackLaw" (10 : Nat) "OneBackModel") ∈ GT := GT_m (ck5 (m8 (m8 (m8 (m8 (m8 (m8 (m8 (m8 (m8 (m8 (m8 (m8 (m8 (m8 (m8 (m8 (m8 (m8 (m8 (m8 (m8 (m8 (m8 (m8 (m8 (m8 (m8 (m8 (List.Mem.tail _ (List.Mem.tail _ (List.Mem.tail _ (List.Mem.head _))))))))))))))))))))))))))))))))) rfl
set_option maxRecDepth 4000 in
theorem tw1188 : (Jvm.Cond.instantiable "OneBackModel" (51 : Nat)) ∈ GT := GT_m (ck5 (m8 (m8 (m8 (m8 (m8 (m8 (m8 (m8 (m8 (m8 (m8 (m8 (m8 (m8 (m8 (m8 (m8 (m8 (m8 (m8 (m8 (m8 (m8 (m8 (m8 (m8 (m8 (m8 (List.Mem.tail _ (List.Mem.tail _ (List.Mem.tail _ (List.Mem.tail _ (List.Mem.head _)))))))))))))))))))))))))))))))))) rfl
set_option maxRecDepth 4000 in
theorem tw1189 : (Jvm.Cond.methodLink "OneBackLaw" (12 : Nat) ({ cls := "OneBackModel", name := "<init>", desc := "()V" } : Jvm.MethodName)) ∈ GT := GT_m (ck5 (m8 (m8 (m8 (m8 (m8 (m8 (m8 (m8 (m8 (m8 (m8 (m8 (m8 (m8 (m8 (m8 (m8 (m8 (m8 (m8 (m8 (m8 (m8 (m8 (m8 (m8 (m8 (m8 (List.Mem.tail _ (List.Mem.tail _ (List.Mem.tail _ (List.Mem.tail _ (List.Mem.tail _ (List.Mem.head _))))))))))))))))))))))))))))))))))) rfl
set_option maxRecDepth 4000 in
theorem tw1190 : (Jvm.Cond.instanceMethod ({ cls := "OneBackModel", name := "<init>", desc := "()V" } : Jvm.MethodName)) ∈ GT := GT_m (ck5 (m8 (m8 (m8 (m8 (m8 (m8 (m8 (m8 (m8 (m8 (m8 (m8 (m8 (m8 (m8 (m8 (m8 (m8 (m8 (m8 (m8 (m8 (m8 (m8 (m8 (m8 (m8 (m8 (List.Mem.tail _ (List.Mem.tail _ (List.Mem.tail _ (List.Mem.tail _ (List.Mem.tail _ (List.Mem.tail _ (List.Mem.head _)))))))))))))))))))))))))))))))))))) rfl
set_option maxRecDepth 4000 in
theorem tw1191 : (Jvm.Cond.code ({ cls := "OneBackModel", name := "<init>", desc := "()V" } : Jvm.MethodName) prog_13_method_1_code (1 : Nat) (Option.none : Option Jvm.ClassFile.FieldType)) ∈ GT := GT_m (ck5 (m8 (m8 (m8 (m8 (m8 (m8 (m8 (m8 (m8 (m8 (m8 (m8 (m8 (m8 (m8 (m8 (m8 (m8 (m8 (m8 (m8 (m8 (m8 (m8 (m8 (m8 (m8 (m8 (List.Mem.tail _ (List.Mem.tail _ (List.Mem.tail _ (List.Mem.tail _ (List.Mem.tail _ (List.Mem.tail _ (List.Mem.tail _ (List.Mem.head _))))))))))))))))))))))))))))))))))))) rfl
set_option maxRecDepth 4000 in
theorem tw1192 : (Jvm.Cond.methodLink "OneBackModel" (1 : Nat) ({ cls := "java/lang/Object", name := "<init>", desc := "()V" } : Jvm.MethodName)) ∈ GT := GT_m (ck5 (m8 (m8 (m8 (m8 (m8 (m8 (m8 (m8 (m8 (m8 (m8 (m8 (m8 (m8 (m8 (m8 (m8 (m8 (m8 (m8 (m8 (m8 (m8 (m8 (m8 (m8 (m8 (m8 (m8 (List.Mem.head _))))))))))))))))))))))))))))))) rfl
set_option maxRecDepth 4000 in
theorem tw1193 : (Jvm.Cond.fieldLink "OneBackModel" (90 : Nat) "OneBackModel" "code" "I") ∈ GT := GT_m (ck5 (m8 (m8 (m8 (m8 (m8 (m8 (m8 (m8 (m8 (m8 (m8 (m8 (m8 (m8 (m8 (m8 (m8 (m8 (m8 (m8 (m8 (m8 (m8 (m8 (m8 (m8 (m8 (m8 (m8 (List.Mem.tail _ (List.Mem.head _)))))))))))))))))))))))))))))))) rfl
set_option maxRecDepth 4000 in
theorem tw1194 : (Jvm.Cond.fieldLink "OneBackModel" (7 : Nat) "OneBackModel" "tape" "[B") ∈ GT := GT_m (ck5 (m8 (m8 (m8 (m8 (m8 (m8 (m8 (m8 (m8 (m8 (m8 (m8 (m8 (m8 (m8 (m8 (m8 (m8 (m8 (m8 (m8 (m8 (m8 (m8 (m8 (m8 (m8 (m8 (m8 (List.Mem.tail _ (List.Mem.tail _ (List.Mem.head _))))))))))))))))))))))))))))))))) rfl
set_option maxRecDepth 4000 in
theorem tw1195 : (Jvm.Cond.fieldLink "OneBackModel" (13 : Nat) "OneBackModel" "size" "[I") ∈ GT := GT_m (ck5 (m8 (m8 (m8 (m8 (m8 (m8 (m8 (m8 (m8 (m8 (m8 (m8 (m8 (m8 (m8 (m8 (m8 (m8 (m8 (m8 (m8 (m8 (m8 (m8 (m8 (m8 (m8 (m8 (m8 (List.Mem.tail _ (List.Mem.tail _ (List.Mem.tail _ (List.Mem.head _)))))))))))))))))))))))))))))))))) rfl
set_option maxRecDepth 4000 in
theorem tw1196 : (Jvm.Cond.fieldLink "OneBackModel" (17 : Nat) "OneBackModel" "fault" "[I") ∈ GT := GT_m (ck5 (m8 (m8 (m8 (m8 (m8 (m8 (m8 (m8 (m8 (m8 (m8 (m8 (m8 (m8 (m8 (m8 (m8 (m8 (m8 (m8 (m8 (m8 (m8 (m8 (m8 (m8 (m8 (m8 (m8 (List.Mem.tail _ (List.Mem.tail _ (List.Mem.tail _ (List.Mem.tail _ (List.Mem.head _))))))))))))))))))))))))))))))))))) rfl
set_option maxRecDepth 4000 in
theorem tw1197 : (Jvm.Cond.fieldLink "OneBackModel" (20 : Nat) "OneBackModel" "faultPlace" "[I") ∈ GT := GT_m (ck5 (m8 (m8 (m8 (m8 (m8 (m8 (m8 (m8 (m8 (m8 (m8 (m8 (m8 (m8 (m8 (m8 (m8 (m8 (m8 (m8 (m8 (m8 (m8 (m8 (m8 (m8 (m8 (m8 (m8 (List.Mem.tail _ (List.Mem.tail _ (List.Mem.tail _ (List.Mem.tail _ (List.Mem.tail _ (List.Mem.head _)))))))))))))))))))))))))))))))))))) rfl
set_option maxRecDepth 4000 in
theorem tw1198 : (Jvm.Cond.fieldLink "OneBackModel" (23 : Nat) "OneBackModel" "many" "[I") ∈ GT := GT_m (ck5 (m8 (m8 (m8 (m8 (m8 (m8 (m8 (m8 (m8 (m8 (m8 (m8 (m8 (m8 (m8 (m8 (m8 (m8 (m8 (m8 (m8 (m8 (m8 (m8 (m8 (m8 (m8 (m8 (m8 (List.Mem.tail _ (List.Mem.tail _ (List.Mem.tail _ (List.Mem.tail _ (List.Mem.tail _ (List.Mem.tail _ (List.Mem.head _))))))))))))))))))))))))))))))))))))) rfl
set_option maxRecDepth 4000 in
theorem tw1199 : (Jvm.Cond.fieldLink "OneBackModel" (26 : Nat) "OneBackModel" "towns" "[I") ∈ GT := GT_m (ck5 (m8 (m8 (m8 (m8 (m8 (m8 (m8 (m8 (m8 (m8 (m8 (m8 (m8 (m8 (m8 (m8 (m8 (m8 (m8 (m8 (m8 (m8 (m8 (m8 (m8 (m8 (m8 (m8 (m8 (List.Mem.tail _ (List.Mem.tail _ (List.Mem.tail _ (List.Mem.tail _ (List.Mem.tail _ (List.Mem.tail _ (List.Mem.tail _ (List.Mem.head _)))))))))))))))))))))))))))))))))))))) rfl
set_option maxRecDepth 4000 in
theorem tw1200 : (Jvm.Cond.fieldLink "OneBackModel" (29 : Nat) "OneBackModel" "laws" "[I") ∈ GT := GT_m (ck6 (List.Mem.head _)) rfl
set_option maxRecDepth 4000 in
theorem tw1201 : (Jvm.Cond.fieldLink "OneBackModel" (32 : Nat) "OneBackModel" "nights" "[I") ∈ GT := GT_m (ck6 (List.Mem.tail _ (List.Mem.head _))) rfl
set_option maxRecDepth 4000 in
theorem tw1202 : (Jvm.Cond.fieldLink "OneBackModel" (35 : Nat) "OneBackModel" "sights" "[I") ∈ GT := GT_m (ck6 (List.Mem.tail _ (List.Mem.tail _ (List.Mem.head _)))) rfl
set_option maxRecDepth 4000 in
theorem tw1203 : (Jvm.Cond.fieldLink "OneBackModel" (106 : Nat) "OneBackModel" "reached" "I") ∈ GT := GT_m (ck6 (List.Mem.tail _ (List.Mem.tail _ (List.Mem.tail _ (List.Mem.head _))))) rfl
set_option maxRecDepth 4000 in
theorem tw1204 : (Jvm.Cond.fieldLink "OneBackModel" (109 : Nat) "OneBackModel" "length" "I") ∈ GT := GT_m (ck6 (List.Mem.tail _ (List.Mem.tail _ (List.Mem.tail _ (List.Mem.tail _ (List.Mem.head _)))))) rfl
set_option maxRecDepth 4000 in
theorem tw1205 : (Jvm.Cond.fieldLink "OneBackModel" (116 : Nat) "OneBackModel" "begins" "I") ∈ GT := GT_m (ck6 (List.Mem.tail _ (List.Mem.tail _ (List.Mem.tail _ (List.Mem.tail _ (List.Mem.tail _ (List.Mem.head _))))))) rfl
set_option maxRecDepth 4000 in
theorem tw1206 : (Jvm.Cond.fieldLink "OneBackModel" (123 : Nat) "OneBackModel" "sort" "I") ∈ GT := GT_m (ck6 (List.Mem.tail _ (List.Mem.tail _ (List.Mem.tail _ (List.Mem.tail _ (List.Mem.tail _ (List.Mem.tail _ (List.Mem.head _)))))))) rfl
set_option maxRecDepth 4000 in
theorem tw1207 : (Jvm.Cond.fieldLink "OneBackModel" (126 : Nat) "OneBackModel" "value" "I") ∈ GT := GT_m (ck6 (List.Mem.tail _ (List.Mem.tail _ (List.Mem.tail _ (List.Mem.tail _ (List.Mem.tail _ (List.Mem.tail _ (List.Mem.tail _ (List.Mem.head _))))))))) rfl
set_option maxRecDepth 4000 in
theorem tw1208 : (Jvm.Cond.fieldLink "OneBackModel" (119 : Nat) "OneBackModel" "word" "J") ∈ GT := GT_m (ck6 (m8 (List.Mem.head _))) rfl
set_option maxRecDepth 4000 in
theorem tw1209 : (Jvm.Cond.fieldLink "OneBackModel" (129 : Nat) "OneBackModel" "wrongAt" "I") ∈ GT := GT_m (ck6 (m8 (List.Mem.tail _ (List.Mem.head _)))) rfl
set_option maxRecDepth 4000 in
theorem tw1210 : (Jvm.Cond.fieldLink "OneBackModel" (132 : Nat) "OneBackModel" "laterFault" "I") ∈ GT := GT_m (ck6 (m8 (List.Mem.tail _ (List.Mem.tail _ (List.Mem.head _))))) rfl
set_option maxRecDepth 4000 in
theorem tw1211 : (Jvm.Cond.fieldLink "OneBackModel" (135 : Nat) "OneBackModel" "laterPlace" "I") ∈ GT := GT_m (ck6 (m8 (List.Mem.tail _ (List.Mem.tail _ (List.Mem.tail _ (List.Mem.head _)))))) rfl
set_option maxRecDepth 4000 in
theorem tw1212 : (Jvm.Cond.fieldLink "OneBackModel" (38 : Nat) "OneBackModel" "told" "[I") ∈ GT := GT_m (ck6 (m8 (List.Mem.tail _ (List.Mem.tail _ (List.Mem.tail _ (List.Mem.tail _ (List.Mem.head _))))))) rfl
set_option maxRecDepth 4000 in
theorem tw1213 : (Jvm.Cond.fieldLink "OneBackModel" (41 : Nat) "OneBackModel" "read" "[I") ∈ GT := GT_m (ck6 (m8 (List.Mem.tail _ (List.Mem.tail _ (List.Mem.tail _ (List.Mem.tail _ (List.Mem.tail _ (List.Mem.head _)))))))) rfl
set_option maxRecDepth 4000 in
theorem tw1214 : (Jvm.Cond.fieldLink "OneBackModel" (160 : Nat) "OneBackModel" "farHouse" "I") ∈ GT := GT_m (ck6 (m8 (List.Mem.tail _ (List.Mem.tail _ (List.Mem.tail _ (List.Mem.tail _ (List.Mem.tail _ (List.Mem.tail _ (List.Mem.head _))))))))) rfl
set_option maxRecDepth 4000 in
theorem tw1215 : (Jvm.Cond.fieldLink "OneBackModel" (174 : Nat) "OneBackModel" "farThief" "I") ∈ GT := GT_m (ck6 (m8 (List.Mem.tail _ (List.Mem.tail _ (List.Mem.tail _ (List.Mem.tail _ (List.Mem.tail _ (List.Mem.tail _ (List.Mem.tail _ (List.Mem.head _)))))))))) rfl
set_option maxRecDepth 4000 in
theorem tw1216 : (Jvm.Cond.fieldLink "OneBackModel" (146 : Nat) "OneBackModel" "good" "Z") ∈ GT := GT_m (ck6 (m8 (m8 (List.Mem.head _)))) rfl
set_option maxRecDepth 4000 in
theorem tw1217 : (Jvm.Cond.fieldLink "OneBackModel" (274 : Nat) "OneBackModel" "town" "I") ∈ GT := GT_m (ck6 (m8 (m8 (List.Mem.tail _ (List.Mem.head _))))) rfl
set_option maxRecDepth 4000 in
theorem tw1218 : (Jvm.Cond.fieldLink "OneBackModel" (281 : Nat) "OneBackModel" "houses" "I") ∈ GT := GT_m (ck6 (m8 (m8 (List.Mem.tail _ (List.Mem.tail _ (List.Mem.head _)))))) rfl
set_option maxRecDepth 4000 in
theorem tw1219 : (Jvm.Cond.fieldLink "OneBackModel" (284 : Nat) "OneBackModel" "thieves" "I") ∈ GT := GT_m (ck6 (m8 (m8 (List.Mem.tail _ (List.Mem.tail _ (List.Mem.tail _ (List.Mem.head _))))))) rfl
set_option maxRecDepth 4000 in
theorem tw1220 : (Jvm.Cond.fieldLink "OneBackModel" (305 : Nat) "OneBackModel" "law" "I") ∈ GT := GT_m (ck6 (m8 (m8 (List.Mem.tail _ (List.Mem.tail _ (List.Mem.tail _ (List.Mem.tail _ (List.Mem.head _)))))))) rfl
set_option maxRecDepth 4000 in
theorem tw1221 : (Jvm.Cond.fieldLink "OneBackModel" (320 : Nat) "OneBackModel" "row" "I") ∈ GT := GT_m (ck6 (m8 (m8 (List.Mem.tail _ (List.Mem.tail _ (List.Mem.tail _ (List.Mem.tail _ (List.Mem.tail _ (List.Mem.head _))))))))) rfl
set_option maxRecDepth 4000 in
theorem tw1222 : (Jvm.Cond.fieldLink "OneBackModel" (44 : Nat) "OneBackModel" "stock" "[I") ∈ GT := GT_m (ck6 (m8 (m8 (List.Mem.tail _ (List.Mem.tail _ (List.Mem.tail _ (List.Mem.tail _ (List.Mem.tail _ (List.Mem.tail _ (List.Mem.head _)))))))))) rfl
set_option maxRecDepth 4000 in
theorem tw1223 : (Jvm.Cond.fieldLink "OneBackModel" (47 : Nat) "OneBackModel" "bag" "[I") ∈ GT := GT_m (ck6 (m8 (m8 (List.Mem.tail _ (List.Mem.tail _ (List.Mem.tail _ (List.Mem.tail _ (List.Mem.tail _ (List.Mem.tail _ (List.Mem.tail _ (List.Mem.head _))))))))))) rfl
set_option maxRecDepth 4000 in
theorem tw1224 : (Jvm.Cond.fieldLink "OneBackModel" (50 : Nat) "OneBackModel" "took" "[I") ∈ GT := GT_m (ck6 (m8 (m8 (m8 (List.Mem.head _))))) rfl
set_option maxRecDepth 4000 in
theorem tw1225 : (Jvm.Cond.fieldLink "OneBackModel" (53 : Nat) "OneBackModel" "gave" "[I") ∈ GT := GT_m (ck6 (m8 (m8 (m8 (List.Mem.tail _ (List.Mem.head _)))))) rfl
set_option maxRecDepth 4000 in
theorem tw1226 : (Jvm.Cond.fieldLink "OneBackModel" (56 : Nat) "OneBackModel" "tonight" "[I") ∈ GT := GT_m (ck6 (m8 (m8 (m8 (List.Mem.tail _ (List.Mem.tail _ (List.Mem.head _))))))) rfl
set_option maxRecDepth 4000 in
theorem tw1227 : (Jvm.Cond.fieldLink "OneBackModel" (59 : Nat) "OneBackModel" "watched" "[I") ∈ GT := GT_m (ck6 (m8 (m8 (m8 (List.Mem.tail _ (List.Mem.tail _ (List.Mem.tail _ (List.Mem.head _)))))))) rfl
set_option maxRecDepth 4000 in
theorem tw1228 : (Jvm.Cond.fieldLink "OneBackModel" (62 : Nat) "OneBackModel" "taken" "[I") ∈ GT := GT_m (ck6 (m8 (m8 (m8 (List.Mem.tail _ (List.Mem.tail _ (List.Mem.tail _ (List.Mem.tail _ (List.Mem.head _))))))))) rfl
set_option maxRecDepth 4000 in
theorem tw1229 : (Jvm.Cond.fieldLink "OneBackModel" (65 : Nat) "OneBackModel" "given" "[I") ∈ GT := GT_m (ck6 (m8 (m8 (m8 (List.Mem.tail _ (List.Mem.tail _ (List.Mem.tail _ (List.Mem.tail _ (List.Mem.tail _ (List.Mem.head _)))))))))) rfl
set_option maxRecDepth 4000 in
theorem tw1230 : (Jvm.Cond.fieldLink "OneBackModel" (68 : Nat) "OneBackModel" "trace" "[I") ∈ GT := GT_m (ck6 (m8 (m8 (m8 (List.Mem.tail _ (List.Mem.tail _ (List.Mem.tail _ (List.Mem.tail _ (List.Mem.tail _ (List.Mem.tail _ (List.Mem.head _))))))))))) rfl
set_option maxRecDepth 4000 in
theorem tw1231 : (Jvm.Cond.fieldLink "OneBackModel" (71 : Nat) "OneBackModel" "lastTake" "[I") ∈ GT := GT_m (ck6 (m8 (m8 (m8 (List.Mem.tail _ (List.Mem.tail _ (List.Mem.tail _ (List.Mem.tail _ (List.Mem.tail _ (List.Mem.tail _ (List.Mem.tail _ (List.Mem.head _)))))))))))) rfl
set_option maxRecDepth 4000 in
theorem tw1232 : (Jvm.Cond.fieldLink "OneBackModel" (74 : Nat) "OneBackModel" "lost" "[I") ∈ GT := GT_m (ck6 (m8 (m8 (m8 (m8 (List.Mem.head _)))))) rfl
set_option maxRecDepth 4000 in
theorem tw1233 : (Jvm.Cond.fieldLink "OneBackModel" (332 : Nat) "OneBackModel" "night" "I") ∈ GT := GT_m (ck6 (m8 (m8 (m8 (m8 (List.Mem.tail _ (List.Mem.head _))))))) rfl
set_option maxRecDepth 4000 in
theorem tw1234 : (Jvm.Cond.fieldLink "OneBackModel" (335 : Nat) "OneBackModel" "caught" "I") ∈ GT := GT_m (ck6 (m8 (m8 (m8 (m8 (List.Mem.tail _ (List.Mem.tail _ (List.Mem.head _)))))))) rfl
set_option maxRecDepth 4000 in
theorem tw1235 : (Jvm.Cond.fieldLink "OneBackModel" (338 : Nat) "OneBackModel" "clock" "I") ∈ GT := GT_m (ck6 (m8 (m8 (m8 (m8 (List.Mem.tail _ (List.Mem.tail _ (List.Mem.tail _ (List.Mem.head _))))))))) rfl
set_option maxRecDepth 4000 in
theorem tw1236 : (Jvm.Cond.fieldLink "OneBackModel" (77 : Nat) "OneBackModel" "aided" "[I") ∈ GT := GT_m (ck6 (m8 (m8 (m8 (m8 (List.Mem.tail _ (List.Mem.tail _ (List.Mem.tail _ (List.Mem.tail _ (List.Mem.head _)))))))))) rfl
set_option maxRecDepth 4000 in
theorem tw1237 : (Jvm.Cond.fieldLink "OneBackModel" (402 : Nat) "OneBackModel" "aidCost" "I") ∈ GT := GT_m (ck6 (m8 (m8 (m8 (m8 (List.Mem.tail _ (List.Mem.tail _ (List.Mem.tail _ (List.Mem.tail _ (List.Mem.tail _ (List.Mem.head _))))))))))) rfl
set_option maxRecDepth 4000 in
theorem tw1238 : (Jvm.Cond.fieldLink "OneBackModel" (405 : Nat) "OneBackModel" "aidMany" "I") ∈ GT := GT_m (ck6 (m8 (m8 (m8 (m8 (List.Mem.tail _ (List.Mem.tail _ (List.Mem.tail _ (List.Mem.tail _ (List.Mem.tail _ (List.Mem.tail _ (List.Mem.head _)))))))))))) rfl
set_option maxRecDepth 4000 in
theorem tw1239 : (Jvm.Cond.fieldLink "OneBackModel" (80 : Nat) "OneBackModel" "carried" "[I") ∈ GT := GT_m (ck6 (m8 (m8 (m8 (m8 (List.Mem.tail _ (List.Mem.tail _ (List.Mem.tail _ (List.Mem.tail _ (List.Mem.tail _ (List.Mem.tail _ (List.Mem.tail _ (List.Mem.head _))))))))))))) rfl
set_option maxRecDepth 4000 in
theorem tw1240 : (Jvm.Cond.fieldLink "OneBackModel" (83 : Nat) "OneBackModel" "then" "[I") ∈ GT := GT_m (ck6 (m8 (m8 (m8 (m8 (m8 (List.Mem.head _))))))) rfl
set_option maxRecDepth 4000 in
theorem tw1241 : (Jvm.Cond.fieldLink "OneBackModel" (432 : Nat) "OneBackModel" "sight" "I") ∈ GT := GT_m (ck6 (m8 (m8 (m8 (m8 (m8 (List.Mem.tail _ (List.Mem.head _)))))))) rfl
set_option maxRecDepth 4000 in
theorem tw1242 : (Jvm.Cond.fieldLink "OneBackModel" (476 : Nat) "OneBackModel" "seed" "I") ∈ GT := GT_m (ck6 (m8 (m8 (m8 (m8 (m8 (List.Mem.tail _ (List.Mem.tail _ (List.Mem.head _))))))))) rfl
set_option maxRecDepth 4000 in
theorem tw1243 : (Jvm.Cond.fieldLink "OneBackModel" (86 : Nat) "OneBackModel" "kept" "[Z") ∈ GT := GT_m (ck6 (m8 (m8 (m8 (m8 (m8 (List.Mem.tail _ (List.Mem.tail _ (List.Mem.tail _ (List.Mem.head _)))))))))) rfl
set_option maxRecDepth 4000 in
theorem tw1347 : (Jvm.Cond.arrayClass Jvm.ClassFile.FieldType.boolean) ∈ GT := GT_m (ck6 (m8 (m8 (m8 (m8 (m8 (m8 (m8 (m8 (m8 (m8 (m8 (m8 (m8 (m8 (m8 (m8 (m8 (m8 (List.Mem.tail _ (List.Mem.tail _ (List.Mem.tail _ (List.Mem.head _))))))))))))))))))))))) rfl
set_option maxRecDepth 4000 in
theorem tw1348 : (Jvm.Cond.methodLink "OneBackLaw" (17 : Nat) ({ cls := "OneBackModel", name := "feed", desc := "(IIIII)I" } : Jvm.MethodName)) ∈ GT := GT_m (ck6 (m8 (m8 (m8 (m8 (m8 (m8 (m8 (m8 (m8 (m8 (m8 (m8 (m8 (m8 (m8 (m8 (m8 (m8 (List.Mem.tail _ (List.Mem.tail _ (List.Mem.tail _ (List.Mem.tail _ (List.Mem.head _)))))))))))))))))))))))) rfl
set_option maxRecDepth 4000 in
theorem tw1349 : (Jvm.Cond.instanceMethod ({ cls := "OneBackModel", name := "feed", desc := "(IIIII)I" } : Jvm.MethodName)) ∈ GT := GT_m (ck6 (m8 (m8 (m8 (m8 (m8 (m8 (m8 (m8 (m8 (m8 (m8 (m8 (m8 (m8 (m8 (m8 (m8 (m8 (List.Mem.tail _ (List.Mem.tail _ (List.Mem.tail _ (List.Mem.tail _ (List.Mem.tail _ (List.Mem.head _))))))))))))))))))))))))) rfl
set_option maxRecDepth 4000 in
theorem tw1350 : (Jvm.Cond.selects "OneBackModel" ({ cls := "OneBackModel", name := "feed", desc := "(IIIII)I" } : Jvm.MethodName) ({ cls := "OneBackModel", name := "feed", desc := "(IIIII)I" } : Jvm.MethodName)) ∈ GT := GT_m (ck6 (m8 (m8 (m8 (m8 (m8 (m8 (m8 (m8 (m8 (m8 (m8 (m8 (m8 (m8 (m8 (m8 (m8 (m8 (List.Mem.tail _ (List.Mem.tail _ (List.Mem.tail _ (List.Mem.tail _ (List.Mem.tail _ (List.Mem.tail _ (List.Mem.head _)))))))))))))))))))))))))) rfl
set_option maxRecDepth 4000 in
theorem tw1351 : (Jvm.Cond.code ({ cls := "OneBackModel", name := "feed", desc := "(IIIII)I" } : Jvm.MethodName) prog_13_method_11_code (6 : Nat) (Option.some Jvm.ClassFile.FieldType.int)) ∈ GT := GT_m (ck6 (m8 (m8 (m8 (m8 (m8 (m8 (m8 (m8 (m8 (m8 (m8 (m8 (m8 (m8 (m8 (m8 (m8 (m8 (List.Mem.tail _ (List.Mem.tail _ (List.Mem.tail _ (List.Mem.tail _ (List.Mem.tail _ (List.Mem.tail _ (List.Mem.tail _ (List.Mem.head _))))))))))))))))))))))))))) rfl
set_option maxRecDepth 4000 in
theorem tw1352 : (Jvm.Cond.methodLink "OneBackModel" (102 : Nat) ({ cls := "OneBackModel", name := "four", desc := "(I)V" } : Jvm.MethodName)) ∈ GT := GT_m (ck6 (m8 (m8 (m8 (m8 (m8 (m8 (m8 (m8 (m8 (m8 (m8 (m8 (m8 (m8 (m8 (m8 (m8 (m8 (m8 (List.Mem.head _))))))))))))))))))))) rfl
set_option maxRecDepth 4000 in
theorem tw1354 : (Jvm.Cond.instanceMethod ({ cls := "OneBackModel", name := "four", desc := "(I)V" } : Jvm.MethodName)) ∈ GT := GT_m (ck6 (m8 (m8 (m8 (m8 (m8 (m8 (m8 (m8 (m8 (m8 (m8 (m8 (m8 (m8 (m8 (m8 (m8 (m8 (m8 (List.Mem.tail _ (List.Mem.tail _ (List.Mem.head _))))))))))))))))))))))) rfl
set_option maxRecDepth 4000 in
theorem tw1355 : (Jvm.Cond.code ({ cls := "OneBackModel", name := "four", desc := "(I)V" } : Jvm.MethodName) prog_13_method_12_code (3 : Nat) (Option.none : Option Jvm.ClassFile.FieldType)) ∈ GT := GT_m (ck6 (m8 (m8 (m8 (m8 (m8 (m8 (m8 (m8 (m8 (m8 (m8 (m8 (m8 (m8 (m8 (m8 (m8 (m8 (m8 (List.Mem.tail _ (List.Mem.tail _ (List.Mem.tail _ (List.Mem.head _)))))))))))))))))))))))) rfl
set_option maxRecDepth 4000 in
theorem tw1356 : (Jvm.Cond.methodLink "OneBackLaw" (22 : Nat) ({ cls := "OneBackModel", name := "end", desc := "(I)I" } : Jvm.MethodName)) ∈ GT := GT_m (ck6 (m8 (m8 (m8 (m8 (m8 (m8 (m8 (m8 (m8 (m8 (m8 (m8 (m8 (m8 (m8 (m8 (m8 (m8 (m8 (List.Mem.tail _ (List.Mem.tail _ (List.Mem.tail _ (List.Mem.tail _ (List.Mem.head _))))))))))))))))))))))))) rfl
set_option maxRecDepth 4000 in
theorem tw1357 : (Jvm.Cond.instanceMethod ({ cls := "OneBackModel", name := "end", desc := "(I)I" } : Jvm.MethodName)) ∈ GT := GT_m (ck6 (m8 (m8 (m8 (m8 (m8 (m8 (m8 (m8 (m8 (m8 (m8 (m8 (m8 (m8 (m8 (m8 (m8 (m8 (m8 (List.Mem.tail _ (List.Mem.tail _ (List.Mem.tail _ (List.Mem.tail _ (List.Mem.tail _ (List.Mem.head _)))))))))))))))))))))))))) rfl
set_option maxRecDepth 4000 in
theorem tw1358 : (Jvm.Cond.selects "OneBackModel" ({ cls := "OneBackModel", name := "end", desc := "(I)I" } : Jvm.MethodName) ({ cls := "OneBackModel", name := "end", desc := "(I)I" } : Jvm.MethodName)) ∈ GT := GT_m (ck6 (m8 (m8 (m8 (m8 (m8 (m8 (m8 (m8 (m8 (m8 (m8 (m8 (m8 (m8 (m8 (m8 (m8 (m8 (m8 (List.Mem.tail _ (List.Mem.tail _ (List.Mem.tail _ (List.Mem.tail _ (List.Mem.tail _ (List.Mem.tail _ (List.Mem.head _))))))))))))))))))))))))))) rfl
set_option maxRecDepth 4000 in
theorem tw1359 : (Jvm.Cond.code ({ cls := "OneBackModel", name := "end", desc := "(I)I" } : Jvm.MethodName) prog_13_method_13_code (2 : Nat) (Option.some Jvm.ClassFile.FieldType.int)) ∈ GT := GT_m (ck6 (m8 (m8 (m8 (m8 (m8 (m8 (m8 (m8 (m8 (m8 (m8 (m8 (m8 (m8 (m8 (m8 (m8 (m8 (m8 (List.Mem.tail _ (List.Mem.tail _ (List.Mem.tail _ (List.Mem.tail _ (List.Mem.tail _ (List.Mem.tail _ (List.Mem.tail _ (List.Mem.head _)))))))))))))))))))))))))))) rfl
set_option maxRecDepth 4000 in
theorem tw1360 : (Jvm.Cond.methodLink "OneBackModel" (98 : Nat) ({ cls := "OneBackModel", name := "in", desc := "(III)Z" } : Jvm.MethodName)) ∈ GT := GT_m (ck6 (m8 (m8 (m8 (m8 (m8 (m8 (m8 (m8 (m8 (m8 (m8 (m8 (m8 (m8 (m8 (m8 (m8 (m8 (m8 (m8 (List.Mem.head _)))))))))))))))))))))) rfl
set_option maxRecDepth 4000 in
theorem tw1361 : (Jvm.Cond.static ({ cls := "OneBackModel", name := "in", desc := "(III)Z" } : Jvm.MethodName)) ∈ GT := GT_m (ck6 (m8 (m8 (m8 (m8 (m8 (m8 (m8 (m8 (m8 (m8 (m8 (m8 (m8 (m8 (m8 (m8 (m8 (m8 (m8 (m8 (List.Mem.tail _ (List.Mem.head _))))))))))))))))))))))) rfl
set_option maxRecDepth 4000 in
theorem tw1362 : (Jvm.Cond.code ({ cls := "OneBackModel", name := "in", desc := "(III)Z" } : Jvm.MethodName) prog_13_method_3_code (3 : Nat) (Option.some Jvm.ClassFile.FieldType.boolean)) ∈ GT := GT_m (ck6 (m8 (m8 (m8 (m8 (m8 (m8 (m8 (m8 (m8 (m8 (m8 (m8 (m8 (m8 (m8 (m8 (m8 (m8 (m8 (m8 (List.Mem.tail _ (List.Mem.tail _ (List.Mem.head _)))))))))))))))))))))))) rfl
set_option maxRecDepth 4000 in
theorem tw1363 : (Jvm.Cond.methodLink "OneBackLaw" (27 : Nat) ({ cls := "OneBackModel", name := "text", desc := "(II)I" } : Jvm.MethodName)) ∈ GT := GT_m (ck6 (m8 (m8 (m8 (m8 (m8 (m8 (m8 (m8 (m8 (m8 (m8 (m8 (m8 (m8 (m8 (m8 (m8 (m8 (m8 (m8 (List.Mem.tail _ (List.Mem.tail _ (List.Mem.tail _ (List.Mem.head _))))))))))))))))))))))))) rfl
set_option maxRecDepth 4000 in
theorem tw1364 : (Jvm.Cond.instanceMethod ({ cls := "OneBackModel", name := "text", desc := "(II)I" } : Jvm.MethodName)) ∈ GT := GT_m (ck6 (m8 (m8 (m8 (m8 (m8 (m8 (m8 (m8 (m8 (m8 (m8 (m8 (m8 (m8 (m8 (m8 (m8 (m8 (m8 (m8 (List.Mem.tail _ (List.Mem.tail _ (List.Mem.tail _ (List.Mem.tail _ (List.Mem.head _)))))))))))))))))))))))))) rfl
set_option maxRecDepth 4000 in
theorem tw1365 : (Jvm.Cond.selects "OneBackModel" ({ cls := "OneBackModel", name := "text", desc := "(II)I" } : Jvm.MethodName) ({ cls := "OneBackModel", name := "text", desc := "(II)I" } : Jvm.MethodName)) ∈ GT := GT_m (ck6 (m8 (m8 (m8 (m8 (m8 (m8 (m8 (m8 (m8 (m8 (m8 (m8 (m8 (m8 (m8 (m8 (m8 (m8 (m8 (m8 (List.Mem.tail _ (List.Mem.tail _ (List.Mem.tail _ (List.Mem.tail _ (List.Mem.tail _ (List.Mem.head _))))))))))))))))))))))))))) rfl
set_option maxRecDepth 4000 in
theorem tw1366 : (Jvm.Cond.code ({ cls := "OneBackModel", name := "text", desc := "(II)I" } : Jvm.MethodName) prog_13_method_39_code (4 : Nat) (Option.some Jvm.ClassFile.FieldType.int)) ∈ GT := GT_m (ck6 (m8 (m8 (m8 (m8 (m8 (m8 (m8 (m8 (m8 (m8 (m8 (m8 (m8 (m8 (m8 (m8 (m8 (m8 (m8 (m8 (List.Mem.tail _ (List.Mem.tail _ (List.Mem.tail _ (List.Mem.tail _ (List.Mem.tail _ (List.Mem.tail _ (List.Mem.head _)))))))))))))))))))))))))))) rfl
set_option maxRecDepth 4000 in
theorem tw1367 : (Jvm.Cond.methodLink "OneBackModel" (264 : Nat) ({ cls := "OneBackModel", name := "is", desc := "(II)Z" } : Jvm.MethodName)) ∈ GT := GT_m (ck6 (m8 (m8 (m8 (m8 (m8 (m8 (m8 (m8 (m8 (m8 (m8 (m8 (m8 (m8 (m8 (m8 (m8 (m8 (m8 (m8 (List.Mem.tail _ (List.Mem.tail _ (List.Mem.tail _ (List.Mem.tail _ (List.Mem.tail _ (List.Mem.tail _ (List.Mem.tail _ (List.Mem.head _))))))))))))))))))))))))))))) rfl
set_option maxRecDepth 4000 in
theorem tw1369 : (Jvm.Cond.instanceMethod ({ cls := "OneBackModel", name := "is", desc := "(II)Z" } : Jvm.MethodName)) ∈ GT := GT_m (ck6 (m8 (m8 (m8 (m8 (m8 (m8 (m8 (m8 (m8 (m8 (m8 (m8 (m8 (m8 (m8 (m8 (m8 (m8 (m8 (m8 (m8 (List.Mem.tail _ (List.Mem.head _)))))))))))))))))))))))) rfl
set_option maxRecDepth 4000 in
theorem tw1370 : (Jvm.Cond.code ({ cls := "OneBackModel", name := "is", desc := "(II)Z" } : Jvm.MethodName) prog_13_method_10_code (3 : Nat) (Option.some Jvm.ClassFile.FieldType.boolean)) ∈ GT := GT_m (ck6 (m8 (m8 (m8 (m8 (m8 (m8 (m8 (m8 (m8 (m8 (m8 (m8 (m8 (m8 (m8 (m8 (m8 (m8 (m8 (m8 (m8 (List.Mem.tail _ (List.Mem.tail _ (List.Mem.head _))))))))))))))))))))))))) rfl
set_option maxRecDepth 4000 in
theorem tw1371 : (Jvm.Cond.methodLink "OneBackModel" (268 : Nat) ({ cls := "OneBackModel", name := "readText", desc := "(I)Z" } : Jvm.MethodName)) ∈ GT := GT_m (ck6 (m8 (m8 (m8 (m8 (m8 (m8 (m8 (m8 (m8 (m8 (m8 (m8 (m8 (m8 (m8 (m8 (m8 (m8 (m8 (m8 (m8 (List.Mem.tail _ (List.Mem.tail _ (List.Mem.tail _ (List.Mem.head _)))))))))))))))))))))))))) rfl
set_option maxRecDepth 4000 in
theorem tw1373 : (Jvm.Cond.instanceMethod ({ cls := "OneBackModel", name := "readText", desc := "(I)Z" } : Jvm.MethodName)) ∈ GT := GT_m (ck6 (m8 (m8 (m8 (m8 (m8 (m8 (m8 (m8 (m8 (m8 (m8 (m8 (m8 (m8 (m8 (m8 (m8 (m8 (m8 (m8 (m8 (List.Mem.tail _ (List.Mem.tail _ (List.Mem.tail _ (List.Mem.tail _ (List.Mem.tail _ (List.Mem.head _)))))))))))))))))))))))))))) rfl
set_option maxRecDepth 4000 in
theorem tw1374 : (Jvm.Cond.code ({ cls := "OneBackModel", name := "readText", desc := "(I)Z" } : Jvm.MethodName) prog_13_method_36_code (3 : Nat) (Option.some Jvm.ClassFile.FieldType.boolean)) ∈ GT := GT_m (ck6 (m8 (m8 (m8 (m8 (m8 (m8 (m8 (m8 (m8 (m8 (m8 (m8 (m8 (m8 (m8 (m8 (m8 (m8 (m8 (m8 (m8 (List.Mem.tail _ (List.Mem.tail _ (List.Mem.tail _ (List.Mem.tail _ (List.Mem.tail _ (List.Mem.tail _ (List.Mem.head _))))))))))))))))))))))))))))) rfl
set_option maxRecDepth 4000 in
theorem tw1375 : (Jvm.Cond.methodLink "OneBackModel" (254 : Nat) ({ cls := "OneBackModel", name := "blank", desc := "(I)V" } : Jvm.MethodName)) ∈ GT := GT_m (ck6 (m8 (m8 (m8 (m8 (m8 (m8 (m8 (m8 (m8 (m8 (m8 (m8 (m8 (m8 (m8 (m8 (m8 (m8 (m8 (m8 (m8 (List.Mem.tail _ (List.Mem.tail _ (List.Mem.tail _ (List.Mem.tail _ (List.Mem.tail _ (List.Mem.tail _ (List.Mem.tail _ (List.Mem.head _)))))))))))))))))))))))))))))) rfl
set_option maxRecDepth 4000 in
theorem tw1377 : (Jvm.Cond.instanceMethod ({ cls := "OneBackModel", name := "blank", desc := "(I)V" } : Jvm.MethodName)) ∈ GT := GT_m (ck6 (m8 (m8 (m8 (m8 (m8 (m8 (m8 (m8 (m8 (m8 (m8 (m8 (m8 (m8 (m8 (m8 (m8 (m8 (m8 (m8 (m8 (m8 (List.Mem.tail _ (List.Mem.head _))))))))))))))))))))))))) rfl
set_option maxRecDepth 4000 in
theorem tw1378 : (Jvm.Cond.code ({ cls := "OneBackModel", name := "blank", desc := "(I)V" } : Jvm.MethodName) prog_13_method_35_code (3 : Nat) (Option.none : Option Jvm.ClassFile.FieldType)) ∈ GT := GT_m (ck6 (m8 (m8 (m8 (m8 (m8 (m8 (m8 (m8 (m8 (m8 (m8 (m8 (m8 (m8 (m8 (m8 (m8 (m8 (m8 (m8 (m8 (m8 (List.Mem.tail _ (List.Mem.tail _ (List.Mem.head _)))))))))))))))))))))))))) rfl
set_option maxRecDepth 4000 in
theorem tw1379 : (Jvm.Cond.methodLink "OneBackModel" (251 : Nat) ({ cls := "OneBackModel", name := "blankTown", desc := "()V" } : Jvm.MethodName)) ∈ GT := GT_m (ck6 (m8 (m8 (m8 (m8 (m8 (m8 (m8 (m8 (m8 (m8 (m8 (m8 (m8 (m8 (m8 (m8 (m8 (m8 (m8 (m8 (m8 (m8 (List.Mem.tail _ (List.Mem.tail _ (List.Mem.tail _ (List.Mem.head _))))))))))))))))))))))))))) rfl
set_option maxRecDepth 4000 in
theorem tw1381 : (Jvm.Cond.instanceMethod ({ cls := "OneBackModel", name := "blankTown", desc := "()V" } : Jvm.MethodName)) ∈ GT := GT_m (ck6 (m8 (m8 (m8 (m8 (m8 (m8 (m8 (m8 (m8 (m8 (m8 (m8 (m8 (m8 (m8 (m8 (m8 (m8 (m8 (m8 (m8 (m8 (List.Mem.tail _ (List.Mem.tail _ (List.Mem.tail _ (List.Mem.tail _ (List.Mem.tail _ (List.Mem.head _))))))))))))))))))))))))))))) rfl
set_option maxRecDepth 4000 in
theorem tw1382 : (Jvm.Cond.code ({ cls := "OneBackModel", name := "blankTown", desc := "()V" } : Jvm.MethodName) prog_13_method_34_code (2 : Nat) (Option.none : Option Jvm.ClassFile.FieldType)) ∈ GT := GT_m (ck6 (m8 (m8 (m8 (m8 (m8 (m8 (m8 (m8 (m8 (m8 (m8 (m8 (m8 (m8 (m8 (m8 (m8 (m8 (m8 (m8 (m8 (m8 (List.Mem.tail _ (List.Mem.tail _ (List.Mem.tail _ (List.Mem.tail _ (List.Mem.tail _ (List.Mem.tail _ (List.Mem.head _)))))))))))))))))))))))))))))) rfl
set_option maxRecDepth 4000 in
theorem tw1383 : (Jvm.Cond.methodLink "OneBackModel" (150 : Nat) ({ cls := "OneBackModel", name := "token", desc := "()V" } : Jvm.MethodName)) ∈ GT := GT_m (ck6 (m8 (m8 (m8 (m8 (m8 (m8 (m8 (m8 (m8 (m8 (m8 (m8 (m8 (m8 (m8 (m8 (m8 (m8 (m8 (m8 (m8 (m8 (List.Mem.tail _ (List.Mem.tail _ (List.Mem.tail _ (List.Mem.tail _ (List.Mem.tail _ (List.Mem.tail _ (List.Mem.tail _ (List.Mem.head _))))))))))))))))))))))))))))))) rfl
set_option maxRecDepth 4000 in
theorem tw1385 : (Jvm.Cond.instanceMethod ({ cls := "OneBackModel", name := "token", desc := "()V" } : Jvm.MethodName)) ∈ GT := GT_m (ck6 (m8 (m8 (m8 (m8 (m8 (m8 (m8 (m8 (m8 (m8 (m8 (m8 (m8 (m8 (m8 (m8 (m8 (m8 (m8 (m8 (m8 (m8 (m8 (List.Mem.tail _ (List.Mem.head _)))))))))))))))))))))))))) rfl
set_option maxRecDepth 4000 in
theorem tw1386 : (Jvm.Cond.code ({ cls := "OneBackModel", name := "token", desc := "()V" } : Jvm.MethodName) prog_13_method_15_code (3 : Nat) (Option.none : Option Jvm.ClassFile.FieldType)) ∈ GT := GT_m (ck6 (m8 (m8 (m8 (m8 (m8 (m8 (m8 (m8 (m8 (m8 (m8 (m8 (m8 (m8 (m8 (m8 (m8 (m8 (m8 (m8 (m8 (m8 (m8 (List.Mem.tail _ (List.Mem.tail _ (List.Mem.head _))))))))))))))))))))))))))) rfl
set_option maxRecDepth 4000 in
theorem tw1387 : (Jvm.Cond.methodLink "OneBackModel" (112 : Nat) ({ cls := "OneBackModel", name := "see", desc := "()I" } : Jvm.MethodName)) ∈ GT := GT_m (ck6 (m8 (m8 (m8 (m8 (m8 (m8 (m8 (m8 (m8 (m8 (m8 (m8 (m8 (m8 (m8 (m8 (m8 (m8 (m8 (m8 (m8 (m8 (m8 (List.Mem.tail _ (List.Mem.tail _ (List.Mem.tail _ (List.Mem.head _)))))))))))))))))))))))))))) rfl
set_option maxRecDepth 4000 in
theorem tw1389 : (Jvm.Cond.instanceMethod ({ cls := "OneBackModel", name := "see", desc := "()I" } : Jvm.MethodName)) ∈ GT := GT_m (ck6 (m8 (m8 (m8 (m8 (m8 (m8 (m8 (m8 (m8 (m8 (m8 (m8 (m8 (m8 (m8 (m8 (m8 (m8 (m8 (m8 (m8 (m8 (m8 (List.Mem.tail _ (List.Mem.tail _ (List.Mem.tail _ (List.Mem.tail _ (List.Mem.tail _ (List.Mem.head _)))))))))))))))))))))))))))))) rfl
set_option maxRecDepth 4000 in
theorem tw1390 : (Jvm.Cond.code ({ cls := "OneBackModel", name := "see", desc := "()I" } : Jvm.MethodName) prog_13_method_14_code (1 : Nat) (Option.some Jvm.ClassFile.FieldType.int)) ∈ GT := GT_m (ck6 (m8 (m8 (m8 (m8 (m8 (m8 (m8 (m8 (m8 (m8 (m8 (m8 (m8 (m8 (m8 (m8 (m8 (m8 (m8 (m8 (m8 (m8 (m8 (List.Mem.tail _ (List.Mem.tail _ (List.Mem.tail _ (List.Mem.tail _ (List.Mem.tail _ (List.Mem.tail _ (List.Mem.head _))))))))))))))))))))))))))))))) rfl
set_option maxRecDepth 4000 in
theorem tw1391 : (Jvm.Cond.methodLink "OneBackModel" (257 : Nat) ({ cls := "OneBackModel", name := "lines", desc := "(I)Z" } : Jvm.MethodName)) ∈ GT := GT_m (ck6 (m8 (m8 (m8 (m8 (m8 (m8 (m8 (m8 (m8 (m8 (m8 (m8 (m8 (m8 (m8 (m8 (m8 (m8 (m8 (m8 (m8 (m8 (m8 (List.Mem.tail _ (List.Mem.tail _ (List.Mem.tail _ (List.Mem.tail _ (List.Mem.tail _ (List.Mem.tail _ (List.Mem.tail _ (List.Mem.head _)))))))))))))))))))))))))))))))) rfl
set_option maxRecDepth 4000 in
theorem tw1393 : (Jvm.Cond.instanceMethod ({ cls := "OneBackModel", name := "lines", desc := "(I)Z" } : Jvm.MethodName)) ∈ GT := GT_m (ck6 (m8 (m8 (m8 (m8 (m8 (m8 (m8 (m8 (m8 (m8 (m8 (m8 (m8 (m8 (m8 (m8 (m8 (m8 (m8 (m8 (m8 (m8 (m8 (m8 (List.Mem.tail _ (List.Mem.head _))))))))))))))))))))))))))) rfl
set_option maxRecDepth 4000 in
theorem tw1394 : (Jvm.Cond.code ({ cls := "OneBackModel", name := "lines", desc := "(I)Z" } : Jvm.MethodName) prog_13_method_33_code (4 : Nat) (Option.some Jvm.ClassFile.FieldType.boolean)) ∈ GT := GT_m (ck6 (m8 (m8 (m8 (m8 (m8 (m8 (m8 (m8 (m8 (m8 (m8 (m8 (m8 (m8 (m8 (m8 (m8 (m8 (m8 (m8 (m8 (m8 (m8 (m8 (List.Mem.tail _ (List.Mem.tail _ (List.Mem.head _)))))))))))))))))))))))))))) rfl
set_option maxRecDepth 4000 in
theorem tw1395 : (Jvm.Cond.methodLink "OneBackModel" (247 : Nat) ({ cls := "OneBackModel", name := "lineOf", desc := "(IJI)Z" } : Jvm.MethodName)) ∈ GT := GT_m (ck6 (m8 (m8 (m8 (m8 (m8 (m8 (m8 (m8 (m8 (m8 (m8 (m8 (m8 (m8 (m8 (m8 (m8 (m8 (m8 (m8 (m8 (m8 (m8 (m8 (List.Mem.tail _ (List.Mem.tail _ (List.Mem.tail _ (List.Mem.head _))))))))))))))))))))))))))))) rfl
set_option maxRecDepth 4000 in
theorem tw1397 : (Jvm.Cond.instanceMethod ({ cls := "OneBackModel", name := "lineOf", desc := "(IJI)Z" } : Jvm.MethodName)) ∈ GT := GT_m (ck6 (m8 (m8 (m8 (m8 (m8 (m8 (m8 (m8 (m8 (m8 (m8 (m8 (m8 (m8 (m8 (m8 (m8 (m8 (m8 (m8 (m8 (m8 (m8 (m8 (List.Mem.tail _ (List.Mem.tail _ (List.Mem.tail _ (List.Mem.tail _ (List.Mem.tail _ (List.Mem.head _))))))))))))))))))))))))))))))) rfl
set_option maxRecDepth 4000 in
theorem tw1398 : (Jvm.Cond.code ({ cls := "OneBackModel", name := "lineOf", desc := "(IJI)Z" } : Jvm.MethodName) prog_13_method_32_code (5 : Nat) (Option.some Jvm.ClassFile.FieldType.boolean)) ∈ GT := GT_m (ck6 (m8 (m8 (m8 (m8 (m8 (m8 (m8 (m8 (m8 (m8 (m8 (m8 (m8 (m8 (m8 (m8 (m8 (m8 (m8 (m8 (m8 (m8 (m8 (m8 (List.Mem.tail _ (List.Mem.tail _ (List.Mem.tail _ (List.Mem.tail _ (List.Mem.tail _ (List.Mem.tail _ (List.Mem.head _)))))))))))))))))))))))))))))))) rfl
set_option maxRecDepth 4000 in
theorem tw1399 : (Jvm.Cond.methodLink "OneBackModel" (234 : Nat) ({ cls := "OneBackModel", name := "townLine", desc := "(JI)Z" } : Jvm.MethodName)) ∈ GT := GT_m (ck6 (m8 (m8 (m8 (m8 (m8 (m8 (m8 (m8 (m8 (m8 (m8 (m8 (m8 (m8 (m8 (m8 (m8 (m8 (m8 (m8 (m8 (m8 (m8 (m8 (List.Mem.tail _ (List.Mem.tail _ (List.Mem.tail _ (List.Mem.tail _ (List.Mem.tail _ (List.Mem.tail _ (List.Mem.tail _ (List.Mem.head _))))))))))))))))))))))))))))))))) rfl
set_option maxRecDepth 4000 in
theorem tw1401 : (Jvm.Cond.instanceMethod ({ cls := "OneBackModel", name := "townLine", desc := "(JI)Z" } : Jvm.MethodName)) ∈ GT := GT_m (ck6 (m8 (m8 (m8 (m8 (m8 (m8 (m8 (m8 (m8 (m8 (m8 (m8 (m8 (m8 (m8 (m8 (m8 (m8 (m8 (m8 (m8 (m8 (m8 (m8 (m8 (List.Mem.tail _ (List.Mem.head _)))))))))))))))))))))))))))) rfl
set_option maxRecDepth 4000 in
theorem tw1402 : (Jvm.Cond.code ({ cls := "OneBackModel", name := "townLine", desc := "(JI)Z" } : Jvm.MethodName) prog_13_method_28_code (4 : Nat) (Option.some Jvm.ClassFile.FieldType.boolean)) ∈ GT := GT_m (ck6 (m8 (m8 (m8 (m8 (m8 (m8 (m8 (m8 (m8 (m8 (m8 (m8 (m8 (m8 (m8 (m8 (m8 (m8 (m8 (m8 (m8 (m8 (m8 (m8 (m8 (List.Mem.tail _ (List.Mem.tail _ (List.Mem.head _))))))))))))))))))))))))))))) rfl
set_option maxRecDepth 4000 in
theorem tw1403 : (Jvm.Cond.constantLong "OneBackModel" (181 : Nat) (114827921155443 : Int64)) ∈ GT := GT_m (ck6 (m8 (m8 (m8 (m8 (m8 (m8 (m8 (m8 (m8 (m8 (m8 (m8 (m8 (m8 (m8 (m8 (m8 (m8 (m8 (m8 (m8 (m8 (m8 (m8 (m8 (List.Mem.tail _ (List.Mem.tail _ (List.Mem.tail _ (List.Mem.head _)))))))))))))))))))))))))))))) rfl
set_option maxRecDepth 4000 in
theorem tw1404 : (Jvm.Cond.constantLong "OneBackModel" (183 : Nat) (6840691 : Int64)) ∈ GT := GT_m (ck6 (m8 (m8 (m8 (m8 (m8 (m8 (m8 (m8 (m8 (m8 (m8 (m8 (m8 (m8 (m8 (m8 (m8 (m8 (m8 (m8 (m8 (m8 (m8 (m8 (m8 (List.Mem.tail _ (List.Mem.tail _ (List.Mem.tail _ (List.Mem.tail _ (List.Mem.head _))))))))))))))))))))))))))))))) rfl
set_option maxRecDepth 4000 in
theorem tw1405 : (Jvm.Cond.constantLong "OneBackModel" (185 : Nat) (474147546227 : Int64)) ∈ GT := GT_m (ck6 (m8 (m8 (m8 (m8 (m8 (m8 (m8 (m8 (m8 (m8 (m8 (m8 (m8 (m8 (m8 (m8 (m8 (m8 (m8 (m8 (m8 (m8 (m8 (m8 (m8 (List.Mem.tail _ (List.Mem.tail _ (List.Mem.tail _ (List.Mem.tail _ (List.Mem.tail _ (List.Mem.head _)))))))))))))))))))))))))))))))) rfl
set_option maxRecDepth 4000 in
theorem tw1406 : (Jvm.Cond.constantLong "OneBackModel" (177 : Nat) (512736125800 : Int64)) ∈ GT := GT_m (ck6 (m8 (m8 (m8 (m8 (m8 (m8 (m8 (m8 (m8 (m8 (m8 (m8 (m8 (m8 (m8 (m8 (m8 (m8 (m8 (m8 (m8 (m8 (m8 (m8 (m8 (List.Mem.tail _ (List.Mem.tail _ (List.Mem.tail _ (List.Mem.tail _ (List.Mem.tail _ (List.Mem.tail _ (List.Mem.head _))))))))))))))))))))))))))))))))) rfl
set_option maxRecDepth 4000 in
theorem tw1407 : (Jvm.Cond.constantLong "OneBackModel" (187 : Nat) (123563851081075 : Int64)) ∈ GT := GT_m (ck6 (m8 (m8 (m8 (m8 (m8 (m8 (m8 (m8 (m8 (m8 (m8 (m8 (m8 (m8 (m8 (m8 (m8 (m8 (m8 (m8 (m8 (m8 (m8 (m8 (m8 (List.Mem.tail _ (List.Mem.tail _ (List.Mem.tail _ (List.Mem.tail _ (List.Mem.tail _ (List.Mem.tail _ (List.Mem.tail _ (List.Mem.head _)))))))))))))))))))))))))))))))))) rfl
set_option maxRecDepth 4000 in
theorem tw1408 : (Jvm.Cond.constantLong "OneBackModel" (179 : Nat) (131277443786868 : Int64)) ∈ GT := GT_m (ck6 (m8 (m8 (m8 (m8 (m8 (m8 (m8 (m8 (m8 (m8 (m8 (m8 (m8 (m8 (m8 (m8 (m8 (m8 (m8 (m8 (m8 (m8 (m8 (m8 (m8 (m8 (List.Mem.head _)))))))))))))))))))))))))))) rfl
set_option maxRecDepth 4000 in
theorem tw1409 : (Jvm.Cond.constantLong "OneBackModel" (189 : Nat) (512970880104 : Int64)) ∈ GT := GT_m (ck6 (m8 (m8 (m8 (m8 (m8 (m8 (m8 (m8 (m8 (m8 (m8 (m8 (m8 (m8 (m8 (m8 (m8 (m8 (m8 (m8 (m8 (m8 (m8 (m8 (m8 (m8 (List.Mem.tail _ (List.Mem.head _))))))))))))))))))))))))))))) rfl
set_option maxRecDepth 4000 in
theorem tw1410 : (Jvm.Cond.constantLong "OneBackModel" (191 : Nat) (7565166 : Int64)) ∈ GT := GT_m (ck6 (m8 (m8 (m8 (m8 (m8 (m8 (m8 (m8 (m8 (m8 (m8 (m8 (m8 (m8 (m8 (m8 (m8 (m8 (m8 (m8 (m8 (m8 (m8 (m8 (m8 (m8 (List.Mem.tail _ (List.Mem.tail _ (List.Mem.head _)))))))))))))))))))))))))))))) rfl
set_option maxRecDepth 4000 in
theorem tw1411 : (Jvm.Cond.constantLong "OneBackModel" (193 : Nat) (499967944038 : Int64)) ∈ GT := GT_m (ck6 (m8 (m8 (m8 (m8 (m8 (m8 (m8 (m8 (m8 (m8 (m8 (m8 (m8 (m8 (m8 (m8 (m8 (m8 (m8 (m8 (m8 (m8 (m8 (m8 (m8 (m8 (List.Mem.tail _ (List.Mem.tail _ (List.Mem.tail _ (List.Mem.head _))))))))))))))))))))))))))))))) rfl
set_option maxRecDepth 4000 in
theorem tw1412 : (Jvm.Cond.methodLink "OneBackModel" (138 : Nat) ({ cls := "OneBackModel", name := "fails", desc := "()Z" } : Jvm.MethodName)) ∈ GT := GT_m (ck6 (m8 (m8 (m8 (m8 (m8 (m8 (m8 (m8 (m8 (m8 (m8 (m8 (m8 (m8 (m8 (m8 (m8 (m8 (m8 (m8 (m8 (m8 (m8 (m8 (m8 (m8 (List.Mem.tail _ (List.Mem.tail _ (List.Mem.tail _ (List.Mem.tail _ (List.Mem.head _)))))))))))))))))))))))))))))))) rfl
set_option maxRecDepth 4000 in
theorem tw1414 : (Jvm.Cond.instanceMethod ({ cls := "OneBackModel", name := "fails", desc := "()Z" } : Jvm.MethodName)) ∈ GT := GT_m (ck6 (m8 (m8 (m8 (m8 (m8 (m8 (m8 (m8 (m8 (m8 (m8 (m8 (m8 (m8 (m8 (m8 (m8 (m8 (m8 (m8 (m8 (m8 (m8 (m8 (m8 (m8 (List.Mem.tail _ (List.Mem.tail _ (List.Mem.tail _ (List.Mem.tail _ (List.Mem.tail _ (List.Mem.tail _ (List.Mem.head _)))))))))))))))))))))))))))))))))) rfl
set_option maxRecDepth 4000 in
theorem tw1415 : (Jvm.Cond.code ({ cls := "OneBackModel", name := "fails", desc := "()Z" } : Jvm.MethodName) prog_13_method_16_code (1 : Nat) (Option.some Jvm.ClassFile.FieldType.boolean)) ∈ GT := GT_m (ck6 (m8 (m8 (m8 (m8 (m8 (m8 (m8 (m8 (m8 (m8 (m8 (m8 (m8 (m8 (m8 (m8 (m8 (m8 (m8 (m8 (m8 (m8 (m8 (m8 (m8 (m8 (List.Mem.tail _ (List.Mem.tail _ (List.Mem.tail _ (List.Mem.tail _ (List.Mem.tail _ (List.Mem.tail _ (List.Mem.tail _ (List.Mem.head _))))))))))))))))))))))))))))))))))) rfl
set_option maxRecDepth 4000 in
theorem tw1416 : (Jvm.Cond.methodLink "OneBackModel" (195 : Nat) ({ cls := "OneBackModel", name := "full", desc := "(III)V" } : Jvm.MethodName)) ∈ GT := GT_m (ck6 (m8 (m8 (m8 (m8 (m8 (m8 (m8 (m8 (m8 (m8 (m8 (m8 (m8 (m8 (m8 (m8 (m8 (m8 (m8 (m8 (m8 (m8 (m8 (m8 (m8 (m8 (m8 (List.Mem.head _))))))))))))))))))))))))))))) rfl
set_option maxRecDepth 4000 in
theorem tw1418 : (Jvm.Cond.instanceMethod ({ cls := "OneBackModel", name := "full", desc := "(III)V" } : Jvm.MethodName)) ∈ GT := GT_m (ck6 (m8 (m8 (m8 (m8 (m8 (m8 (m8 (m8 (m8 (m8 (m8 (m8 (m8 (m8 (m8 (m8 (m8 (m8 (m8 (m8 (m8 (m8 (m8 (m8 (m8 (m8 (m8 (List.Mem.tail _ (List.Mem.tail _ (List.Mem.head _))))))))))))))))))))))))))))))) rfl
set_option maxRecDepth 4000 in
theorem tw1419 : (Jvm.Cond.code ({ cls := "OneBackModel", name := "full", desc := "(III)V" } : Jvm.MethodName) prog_13_method_21_code (4 : Nat) (Option.none : Option Jvm.ClassFile.FieldType)) ∈ GT := GT_m (ck6 (m8 (m8 (m8 (m8 (m8 (m8 (m8 (m8 (m8 (m8 (m8 (m8 (m8 (m8 (m8 (m8 (m8 (m8 (m8 (m8 (m8 (m8 (m8 (m8 (m8 (m8 (m8 (List.Mem.tail _ (List.Mem.tail _ (List.Mem.tail _ (List.Mem.head _)))))))))))))))))))))))))))))))) rfl
set_option maxRecDepth 4000 in
theorem tw1420 : (Jvm.Cond.methodLink "OneBackModel" (142 : Nat) ({ cls := "OneBackModel", name := "later", desc := "(II)V" } : Jvm.MethodName)) ∈ GT := GT_m (ck6 (m8 (m8 (m8 (m8 (m8 (m8 (m8 (m8 (m8 (m8 (m8 (m8 (m8 (m8 (m8 (m8 (m8 (m8 (m8 (m8 (m8 (m8 (m8 (m8 (m8 (m8 (m8 (List.Mem.tail _ (List.Mem.tail _ (List.Mem.tail _ (List.Mem.tail _ (List.Mem.head _))))))))))))))))))))))))))))))))) rfl
set_option maxRecDepth 4000 in
theorem tw1422 : (Jvm.Cond.instanceMethod ({ cls := "OneBackModel", name := "later", desc := "(II)V" } : Jvm.MethodName)) ∈ GT := GT_m (ck6 (m8 (m8 (m8 (m8 (m8 (m8 (m8 (m8 (m8 (m8 (m8 (m8 (m8 (m8 (m8 (m8 (m8 (m8 (m8 (m8 (m8 (m8 (m8 (m8 (m8 (m8 (m8 (List.Mem.tail _ (List.Mem.tail _ (List.Mem.tail _ (List.Mem.tail _ (List.Mem.tail _ (List.Mem.tail _ (List.Mem.head _))))))))))))))))))))))))))))))))))) rfl
set_option maxRecDepth 4000 in
theorem tw1423 : (Jvm.Cond.code ({ cls := "OneBackModel", name := "later", desc := "(II)V" } : Jvm.MethodName) prog_13_method_17_code (3 : Nat) (Option.none : Option Jvm.ClassFile.FieldType)) ∈ GT := GT_m (ck6 (m8 (m8 (m8 (m8 (m8 (m8 (m8 (m8 (m8 (m8 (m8 (m8 (m8 (m8 (m8 (m8 (m8 (m8 (m8 (m8 (m8 (m8 (m8 (m8 (m8 (m8 (m8 (List.Mem.tail _ (List.Mem.tail _ (List.Mem.tail _ (List.Mem.tail _ (List.Mem.tail _ (List.Mem.tail _ (List.Mem.tail _ (List.Mem.head _)))))))))))))))))))))))))))))))))))) rfl
set_option maxRecDepth 4000 in
theorem tw1424 : (Jvm.Cond.methodLink "OneBackModel" (199 : Nat) ({ cls := "OneBackModel", name := "goodsLine", desc := "(I)Z" } : Jvm.MethodName)) ∈ GT := GT_m (ck6 (m8 (m8 (m8 (m8 (m8 (m8 (m8 (m8 (m8 (m8 (m8 (m8 (m8 (m8 (m8 (m8 (m8 (m8 (m8 (m8 (m8 (m8 (m8 (m8 (m8 (m8 (m8 (m8 (List.Mem.head _)))))))))))))))))))))))))))))) rfl
set_option maxRecDepth 4000 in
theorem tw1426 : (Jvm.Cond.instanceMethod ({ cls := "OneBackModel", name := "goodsLine", desc := "(I)Z" } : Jvm.MethodName)) ∈ GT := GT_m (ck6 (m8 (m8 (m8 (m8 (m8 (m8 (m8 (m8 (m8 (m8 (m8 (m8 (m8 (m8 (m8 (m8 (m8 (m8 (m8 (m8 (m8 (m8 (m8 (m8 (m8 (m8 (m8 (m8 (List.Mem.tail _ (List.Mem.tail _ (List.Mem.head _)))))))))))))))))))))))))))))))) rfl
set_option maxRecDepth 4000 in
theorem tw1427 : (Jvm.Cond.code ({ cls := "OneBackModel", name := "goodsLine", desc := "(I)Z" } : Jvm.MethodName) prog_13_method_24_code (2 : Nat) (Option.some Jvm.ClassFile.FieldType.boolean)) ∈ GT := GT_m (ck6 (m8 (m8 (m8 (m8 (m8 (m8 (m8 (m8 (m8 (m8 (m8 (m8 (m8 (m8 (m8 (m8 (m8 (m8 (m8 (m8 (m8 (m8 (m8 (m8 (m8 (m8 (m8 (m8 (List.Mem.tail _ (List.Mem.tail _ (List.Mem.tail _ (List.Mem.head _))))))))))))))))))))))))))))))))) rfl
set_option maxRecDepth 4000 in
theorem tw1428 : (Jvm.Cond.methodLink "OneBackModel" (167 : Nat) ({ cls := "OneBackModel", name := "takeHouse", desc := "(I)Z" } : Jvm.MethodName)) ∈ GT := GT_m (ck6 (m8 (m8 (m8 (m8 (m8 (m8 (m8 (m8 (m8 (m8 (m8 (m8 (m8 (m8 (m8 (m8 (m8 (m8 (m8 (m8 (m8 (m8 (m8 (m8 (m8 (m8 (m8 (m8 (List.Mem.tail _ (List.Mem.tail _ (List.Mem.tail _ (List.Mem.tail _ (List.Mem.head _)))))))))))))))))))))))))))))))))) rfl
set_option maxRecDepth 4000 in
theorem tw1430 : (Jvm.Cond.instanceMethod ({ cls := "OneBackModel", name := "takeHouse", desc := "(I)Z" } : Jvm.MethodName)) ∈ GT := GT_m (ck6 (m8 (m8 (m8 (m8 (m8 (m8 (m8 (m8 (m8 (m8 (m8 (m8 (m8 (m8 (m8 (m8 (m8 (m8 (m8 (m8 (m8 (m8 (m8 (m8 (m8 (m8 (m8 (m8 (List.Mem.tail _ (List.Mem.tail _ (List.Mem.tail _ (List.Mem.tail _ (List.Mem.tail _ (List.Mem.tail _ (List.Mem.head _)))))))))))))))))))))))))))))))))))) rfl
set_option maxRecDepth 4000 in
theorem tw1431 : (Jvm.Cond.code ({ cls := "OneBackModel", name := "takeHouse", desc := "(I)Z" } : Jvm.MethodName) prog_13_method_20_code (2 : Nat) (Option.some Jvm.ClassFile.FieldType.boolean)) ∈ GT := GT_m (ck6 (m8 (m8 (m8 (m8 (m8 (m8 (m8 (m8 (m8 (m8 (m8 (m8 (m8 (m8 (m8 (m8 (m8 (m8 (m8 (m8 (m8 (m8 (m8 (m8 (m8 (m8 (m8 (m8 (List.Mem.tail _ (List.Mem.tail _ (List.Mem.tail _ (List.Mem.tail _ (List.Mem.tail _ (List.Mem.tail _ (List.Mem.tail _ (List.Mem.head _))))))))))))))))))))))))))))))))))))) rfl
set_option maxRecDepth 4000 in
theorem tw1432 : (Jvm.Cond.methodLink "OneBackModel" (157 : Nat) ({ cls := "OneBackModel", name := "take", desc := "(III)Z" } : Jvm.MethodName)) ∈ GT := GT_m (ck6 (m8 (m8 (m8 (m8 (m8 (m8 (m8 (m8 (m8 (m8 (m8 (m8 (m8 (m8 (m8 (m8 (m8 (m8 (m8 (m8 (m8 (m8 (m8 (m8 (m8 (m8 (m8 (m8 (m8 (List.Mem.head _))))))))))))))))))))))))))))))) rfl
set_option maxRecDepth 4000 in
theorem tw1434 : (Jvm.Cond.instanceMethod ({ cls := "OneBackModel", name := "take", desc := "(III)Z" } : Jvm.MethodName)) ∈ GT := GT_m (ck6 (m8 (m8 (m8 (m8 (m8 (m8 (m8 (m8 (m8 (m8 (m8 (m8 (m8 (m8 (m8 (m8 (m8 (m8 (m8 (m8 (m8 (m8 (m8 (m8 (m8 (m8 (m8 (m8 (m8 (List.Mem.tail _ (List.Mem.tail _ (List.Mem.head _))))))))))))))))))))))))))))))))) rfl
set_option maxRecDepth 4000 in
theorem tw1435 : (Jvm.Cond.code ({ cls := "OneBackModel", name := "take", desc := "(III)Z" } : Jvm.MethodName) prog_13_method_19_code (4 : Nat) (Option.some Jvm.ClassFile.FieldType.boolean)) ∈ GT := GT_m (ck6 (m8 (m8 (m8 (m8 (m8 (m8 (m8 (m8 (m8 (m8 (m8 (m8 (m8 (m8 (m8 (m8 (m8 (m8 (m8 (m8 (m8 (m8 (m8 (m8 (m8 (m8 (m8 (m8 (m8 (List.Mem.tail _ (List.Mem.tail _ (List.Mem.tail _ (List.Mem.head _)))))))))))))))))))))))))))))))))) rfl
set_option maxRecDepth 4000 in
theorem tw1436 : (Jvm.Cond.methodLink "OneBackModel" (153 : Nat) ({ cls := "OneBackModel", name := "takeBut", desc := "(IIII)Z" } : Jvm.MethodName)) ∈ GT := GT_m (ck6 (m8 (m8 (m8 (m8 (m8 (m8 (m8 (m8 (m8 (m8 (m8 (m8 (m8 (m8 (m8 (m8 (m8 (m8 (m8 (m8 (m8 (m8 (m8 (m8 (m8 (m8 (m8 (m8 (m8 (List.Mem.tail _ (List.Mem.tail _ (List.Mem.tail _ (List.Mem.tail _ (List.Mem.head _))))))))))))))))))))))))))))))))))) rfl
set_option maxRecDepth 4000 in
theorem tw1438 : (Jvm.Cond.instanceMethod ({ cls := "OneBackModel", name := "takeBut", desc := "(IIII)Z" } : Jvm.MethodName)) ∈ GT := GT_m (ck6 (m8 (m8 (m8 (m8 (m8 (m8 (m8 (m8 (m8 (m8 (m8 (m8 (m8 (m8 (m8 (m8 (m8 (m8 (m8 (m8 (m8 (m8 (m8 (m8 (m8 (m8 (m8 (m8 (m8 (List.Mem.tail _ (List.Mem.tail _ (List.Mem.tail _ (List.Mem.tail _ (List.Mem.tail _ (List.Mem.tail _ (List.Mem.head _))))))))))))))))))))))))))))))))))))) rfl
set_option maxRecDepth 4000 in
theorem tw1439 : (Jvm.Cond.code ({ cls := "OneBackModel", name := "takeBut", desc := "(IIII)Z" } : Jvm.MethodName) prog_13_method_18_code (5 : Nat) (Option.some Jvm.ClassFile.FieldType.boolean)) ∈ GT := GT_m (ck6 (m8 (m8 (m8 (m8 (m8 (m8 (m8 (m8 (m8 (m8 (m8 (m8 (m8 (m8 (m8 (m8 (m8 (m8 (m8 (m8 (m8 (m8 (m8 (m8 (m8 (m8 (m8 (m8 (m8 (List.Mem.tail _ (List.Mem.tail _ (List.Mem.tail _ (List.Mem.tail _ (List.Mem.tail _ (List.Mem.tail _ (List.Mem.tail _ (List.Mem.head _)))))))))))))))))))))))))))))))))))))) rfl
set_option maxRecDepth 4000 in
theorem tw1440 : (Jvm.Cond.methodLink "OneBackModel" (163 : Nat) ({ cls := "OneBackModel", name := "greater", desc := "(II)I" } : Jvm.MethodName)) ∈ GT := GT_m (ck7 (List.Mem.head _)) rfl
set_option maxRecDepth 4000 in
theorem tw1441 : (Jvm.Cond.static ({ cls := "OneBackModel", name := "greater", desc := "(II)I" } : Jvm.MethodName)) ∈ GT := GT_m (ck7 (List.Mem.tail _ (List.Mem.head _))) rfl
set_option maxRecDepth 4000 in
theorem tw1442 : (Jvm.Cond.code ({ cls := "OneBackModel", name := "greater", desc := "(II)I" } : Jvm.MethodName) prog_13_method_5_code (2 : Nat) (Option.some Jvm.ClassFile.FieldType.int)) ∈ GT := GT_m (ck7 (List.Mem.tail _ (List.Mem.tail _ (List.Mem.head _)))) rfl
set_option maxRecDepth 4000 in
theorem tw1443 : (Jvm.Cond.methodLink "OneBackModel" (171 : Nat) ({ cls := "OneBackModel", name := "lay", desc := "(II)V" } : Jvm.MethodName)) ∈ GT := GT_m (ck7 (List.Mem.tail _ (List.Mem.tail _ (List.Mem.tail _ (List.Mem.head _))))) rfl
set_option maxRecDepth 4000 in
theorem tw1445 : (Jvm.Cond.instanceMethod ({ cls := "OneBackModel", name := "lay", desc := "(II)V" } : Jvm.MethodName)) ∈ GT := GT_m (ck7 (List.Mem.tail _ (List.Mem.tail _ (List.Mem.tail _ (List.Mem.tail _ (List.Mem.tail _ (List.Mem.head _))))))) rfl
set_option maxRecDepth 4000 in
theorem tw1446 : (Jvm.Cond.code ({ cls := "OneBackModel", name := "lay", desc := "(II)V" } : Jvm.MethodName) prog_13_method_23_code (3 : Nat) (Option.none : Option Jvm.ClassFile.FieldType)) ∈ GT := GT_m (ck7 (List.Mem.tail _ (List.Mem.tail _ (List.Mem.tail _ (List.Mem.tail _ (List.Mem.tail _ (List.Mem.tail _ (List.Mem.head _)))))))) rfl
set_option maxRecDepth 4000 in
theorem tw1447 : (Jvm.Cond.methodLink "OneBackModel" (202 : Nat) ({ cls := "OneBackModel", name := "houseLine", desc := "(J)Z" } : Jvm.MethodName)) ∈ GT := GT_m (ck7 (List.Mem.tail _ (List.Mem.tail _ (List.Mem.tail _ (List.Mem.tail _ (List.Mem.tail _ (List.Mem.tail _ (List.Mem.tail _ (List.Mem.head _))))))))) rfl
set_option maxRecDepth 4000 in
theorem tw1449 : (Jvm.Cond.instanceMethod ({ cls := "OneBackModel", name := "houseLine", desc := "(J)Z" } : Jvm.MethodName)) ∈ GT := GT_m (ck7 (m8 (List.Mem.tail _ (List.Mem.head _)))) rfl
set_option maxRecDepth 4000 in
theorem tw1450 : (Jvm.Cond.code ({ cls := "OneBackModel", name := "houseLine", desc := "(J)Z" } : Jvm.MethodName) prog_13_method_26_code (3 : Nat) (Option.some Jvm.ClassFile.FieldType.boolean)) ∈ GT := GT_m (ck7 (m8 (List.Mem.tail _ (List.Mem.tail _ (List.Mem.head _))))) rfl
set_option maxRecDepth 4000 in
theorem tw1451 : (Jvm.Cond.methodLink "OneBackModel" (206 : Nat) ({ cls := "OneBackModel", name := "goodLine", desc := "(J)Z" } : Jvm.MethodName)) ∈ GT := GT_m (ck7 (m8 (List.Mem.tail _ (List.Mem.tail _ (List.Mem.tail _ (List.Mem.head _)))))) rfl
set_option maxRecDepth 4000 in
theorem tw1453 : (Jvm.Cond.instanceMethod ({ cls := "OneBackModel", name := "goodLine", desc := "(J)Z" } : Jvm.MethodName)) ∈ GT := GT_m (ck7 (m8 (List.Mem.tail _ (List.Mem.tail _ (List.Mem.tail _ (List.Mem.tail _ (List.Mem.tail _ (List.Mem.head _)))))))) rfl
set_option maxRecDepth 4000 in
theorem tw1454 : (Jvm.Cond.code ({ cls := "OneBackModel", name := "goodLine", desc := "(J)Z" } : Jvm.MethodName) prog_13_method_27_code (3 : Nat) (Option.some Jvm.ClassFile.FieldType.boolean)) ∈ GT := GT_m (ck7 (m8 (List.Mem.tail _ (List.Mem.tail _ (List.Mem.tail _ (List.Mem.tail _ (List.Mem.tail _ (List.Mem.tail _ (List.Mem.head _))))))))) rfl
set_option maxRecDepth 4000 in
theorem tw1455 : (Jvm.Cond.methodLink "OneBackModel" (209 : Nat) ({ cls := "OneBackModel", name := "sonLine", desc := "()Z" } : Jvm.MethodName)) ∈ GT := GT_m (ck7 (m8 (List.Mem.tail _ (List.Mem.tail _ (List.Mem.tail _ (List.Mem.tail _ (List.Mem.tail _ (List.Mem.tail _ (List.Mem.tail _ (List.Mem.head _)))))))))) rfl
set_option maxRecDepth 4000 in
theorem tw1457 : (Jvm.Cond.instanceMethod ({ cls := "OneBackModel", name := "sonLine", desc := "()Z" } : Jvm.MethodName)) ∈ GT := GT_m (ck7 (m8 (m8 (List.Mem.tail _ (List.Mem.head _))))) rfl
set_option maxRecDepth 4000 in
theorem tw1458 : (Jvm.Cond.code ({ cls := "OneBackModel", name := "sonLine", desc := "()Z" } : Jvm.MethodName) prog_13_method_25_code (1 : Nat) (Option.some Jvm.ClassFile.FieldType.boolean)) ∈ GT := GT_m (ck7 (m8 (m8 (List.Mem.tail _ (List.Mem.tail _ (List.Mem.head _)))))) rfl
set_option maxRecDepth 4000 in
theorem tw1459 : (Jvm.Cond.methodLink "OneBackModel" (212 : Nat) ({ cls := "OneBackModel", name := "keep", desc := "(IIII)V" } : Jvm.MethodName)) ∈ GT := GT_m (ck7 (m8 (m8 (List.Mem.tail _ (List.Mem.tail _ (List.Mem.tail _ (List.Mem.head _))))))) rfl
set_option maxRecDepth 4000 in
theorem tw1461 : (Jvm.Cond.instanceMethod ({ cls := "OneBackModel", name := "keep", desc := "(IIII)V" } : Jvm.MethodName)) ∈ GT := GT_m (ck7 (m8 (m8 (List.Mem.tail _ (List.Mem.tail _ (List.Mem.tail _ (List.Mem.tail _ (List.Mem.tail _ (List.Mem.head _))))))))) rfl
set_option maxRecDepth 4000 in
theorem tw1462 : (Jvm.Cond.code ({ cls := "OneBackModel", name := "keep", desc := "(IIII)V" } : Jvm.MethodName) prog_13_method_22_code (7 : Nat) (Option.none : Option Jvm.ClassFile.FieldType)) ∈ GT := GT_m (ck7 (m8 (m8 (List.Mem.tail _ (List.Mem.tail _ (List.Mem.tail _ (List.Mem.tail _ (List.Mem.tail _ (List.Mem.tail _ (List.Mem.head _)))))))))) rfl
set_option maxRecDepth 4000 in
theorem tw1463 : (Jvm.Cond.methodLink "OneBackModel" (238 : Nat) ({ cls := "OneBackModel", name := "lawLine", desc := "(J)Z" } : Jvm.MethodName)) ∈ GT := GT_m (ck7 (m8 (m8 (List.Mem.tail _ (List.Mem.tail _ (List.Mem.tail _ (List.Mem.tail _ (List.Mem.tail _ (List.Mem.tail _ (List.Mem.tail _ (List.Mem.head _))))))))))) rfl
set_option maxRecDepth 4000 in
theorem tw1465 : (Jvm.Cond.instanceMethod ({ cls := "OneBackModel", name := "lawLine", desc := "(J)Z" } : Jvm.MethodName)) ∈ GT := GT_m (ck7 (m8 (m8 (m8 (List.Mem.tail _ (List.Mem.head _)))))) rfl
set_option maxRecDepth 4000 in
theorem tw1466 : (Jvm.Cond.code ({ cls := "OneBackModel", name := "lawLine", desc := "(J)Z" } : Jvm.MethodName) prog_13_method_29_code (3 : Nat) (Option.some Jvm.ClassFile.FieldType.boolean)) ∈ GT := GT_m (ck7 (m8 (m8 (m8 (List.Mem.tail _ (List.Mem.tail _ (List.Mem.head _))))))) rfl
set_option maxRecDepth 4000 in
theorem tw1467 : (Jvm.Cond.constantLong "OneBackModel" (216 : Nat) (1918989413 : Int64)) ∈ GT := GT_m (ck7 (m8 (m8 (m8 (List.Mem.tail _ (List.Mem.tail _ (List.Mem.tail _ (List.Mem.head _)))))))) rfl
set_option maxRecDepth 4000 in
theorem tw1468 : (Jvm.Cond.constantLong "OneBackModel" (218 : Nat) (426836779880 : Int64)) ∈ GT := GT_m (ck7 (m8 (m8 (m8 (List.Mem.tail _ (List.Mem.tail _ (List.Mem.tail _ (List.Mem.tail _ (List.Mem.head _))))))))) rfl
set_option maxRecDepth 4000 in
theorem tw1469 : (Jvm.Cond.constantLong "OneBackModel" (220 : Nat) (110429873532005 : Int64)) ∈ GT := GT_m (ck7 (m8 (m8 (m8 (List.Mem.tail _ (List.Mem.tail _ (List.Mem.tail _ (List.Mem.tail _ (List.Mem.tail _ (List.Mem.head _)))))))))) rfl
set_option maxRecDepth 4000 in
theorem tw1470 : (Jvm.Cond.methodLink "OneBackModel" (241 : Nat) ({ cls := "OneBackModel", name := "nightsLine", desc := "(JI)Z" } : Jvm.MethodName)) ∈ GT := GT_m (ck7 (m8 (m8 (m8 (List.Mem.tail _ (List.Mem.tail _ (List.Mem.tail _ (List.Mem.tail _ (List.Mem.tail _ (List.Mem.tail _ (List.Mem.head _))))))))))) rfl
set_option maxRecDepth 4000 in
theorem tw1472 : (Jvm.Cond.instanceMethod ({ cls := "OneBackModel", name := "nightsLine", desc := "(JI)Z" } : Jvm.MethodName)) ∈ GT := GT_m (ck7 (m8 (m8 (m8 (m8 (List.Mem.head _)))))) rfl
set_option maxRecDepth 4000 in
theorem tw1473 : (Jvm.Cond.code ({ cls := "OneBackModel", name := "nightsLine", desc := "(JI)Z" } : Jvm.MethodName) prog_13_method_30_code (5 : Nat) (Option.some Jvm.ClassFile.FieldType.boolean)) ∈ GT := GT_m (ck7 (m8 (m8 (m8 (m8 (List.Mem.tail _ (List.Mem.head _))))))) rfl
set_option maxRecDepth 4000 in
theorem tw1474 : (Jvm.Cond.constantLong "OneBackModel" (222 : Nat) (1952541541 : Int64)) ∈ GT := GT_m (ck7 (m8 (m8 (m8 (m8 (List.Mem.tail _ (List.Mem.tail _ (List.Mem.head _)))))))) rfl
set_option maxRecDepth 4000 in
theorem tw1475 : (Jvm.Cond.constantLong "OneBackModel" (224 : Nat) (1734964837 : Int64)) ∈ GT := GT_m (ck7 (m8 (m8 (m8 (m8 (List.Mem.tail _ (List.Mem.tail _ (List.Mem.tail _ (List.Mem.head _))))))))) rfl
set_option maxRecDepth 4000 in
theorem tw1476 : (Jvm.Cond.constantLong "OneBackModel" (226 : Nat) (7562612 : Int64)) ∈ GT := GT_m (ck7 (m8 (m8 (m8 (m8 (List.Mem.tail _ (List.Mem.tail _ (List.Mem.tail _ (List.Mem.tail _ (List.Mem.head _)))))))))) rfl
set_option maxRecDepth 4000 in
theorem tw1477 : (Jvm.Cond.constantLong "OneBackModel" (228 : Nat) (474214787188 : Int64)) ∈ GT := GT_m (ck7 (m8 (m8 (m8 (m8 (List.Mem.tail _ (List.Mem.tail _ (List.Mem.tail _ (List.Mem.tail _ (List.Mem.tail _ (List.Mem.head _))))))))))) rfl
set_option maxRecDepth 4000 in
theorem tw1478 : (Jvm.Cond.methodLink "OneBackModel" (244 : Nat) ({ cls := "OneBackModel", name := "sightLine", desc := "(JI)Z" } : Jvm.MethodName)) ∈ GT := GT_m (ck7 (m8 (m8 (m8 (m8 (List.Mem.tail _ (List.Mem.tail _ (List.Mem.tail _ (List.Mem.tail _ (List.Mem.tail _ (List.Mem.tail _ (List.Mem.head _)))))))))))) rfl
set_option maxRecDepth 4000 in
theorem tw1480 : (Jvm.Cond.instanceMethod ({ cls := "OneBackModel", name := "sightLine", desc := "(JI)Z" } : Jvm.MethodName)) ∈ GT := GT_m (ck7 (m8 (m8 (m8 (m8 (m8 (List.Mem.head _))))))) rfl
set_option maxRecDepth 4000 in
theorem tw1481 : (Jvm.Cond.code ({ cls := "OneBackModel", name := "sightLine", desc := "(JI)Z" } : Jvm.MethodName) prog_13_method_31_code (4 : Nat) (Option.some Jvm.ClassFile.FieldType.boolean)) ∈ GT := GT_m (ck7 (m8 (m8 (m8 (m8 (m8 (List.Mem.tail _ (List.Mem.head _)))))))) rfl
set_option maxRecDepth 4000 in
theorem tw1482 : (Jvm.Cond.constantLong "OneBackModel" (230 : Nat) (444150998382 : Int64)) ∈ GT := GT_m (ck7 (m8 (m8 (m8 (m8 (m8 (List.Mem.tail _ (List.Mem.tail _ (List.Mem.head _))))))))) rfl
set_option maxRecDepth 4000 in
theorem tw1483 : (Jvm.Cond.constantLong "OneBackModel" (232 : Nat) (1818584692 : Int64)) ∈ GT := GT_m (ck7 (m8 (m8 (m8 (m8 (m8 (List.Mem.tail _ (List.Mem.tail _ (List.Mem.tail _ (List.Mem.head _)))))))))) rfl
set_option maxRecDepth 4000 in
theorem tw1484 : (Jvm.Cond.methodLink "OneBackModel" (271 : Nat) ({ cls := "OneBackModel", name := "storeAll", desc := "(II)V" } : Jvm.MethodName)) ∈ GT := GT_m (ck7 (m8 (m8 (m8 (m8 (m8 (List.Mem.tail _ (List.Mem.tail _ (List.Mem.tail _ (List.Mem.tail _ (List.Mem.head _))))))))))) rfl
set_option maxRecDepth 4000 in
theorem tw1486 : (Jvm.Cond.instanceMethod ({ cls := "OneBackModel", name := "storeAll", desc := "(II)V" } : Jvm.MethodName)) ∈ GT := GT_m (ck7 (m8 (m8 (m8 (m8 (m8 (List.Mem.tail _ (List.Mem.tail _ (List.Mem.tail _ (List.Mem.tail _ (List.Mem.tail _ (List.Mem.tail _ (List.Mem.head _))))))))))))) rfl
set_option maxRecDepth 4000 in
theorem tw1487 : (Jvm.Cond.code ({ cls := "OneBackModel", name := "storeAll", desc := "(II)V" } : Jvm.MethodName) prog_13_method_38_code (3 : Nat) (Option.none : Option Jvm.ClassFile.FieldType)) ∈ GT := GT_m (ck7 (m8 (m8 (m8 (m8 (m8 (List.Mem.tail _ (List.Mem.tail _ (List.Mem.tail _ (List.Mem.tail _ (List.Mem.tail _ (List.Mem.tail _ (List.Mem.tail _ (List.Mem.head _)))))))))))))) rfl
set_option maxRecDepth 4000 in
theorem tw1488 : (Jvm.Cond.methodLink "OneBackModel" (260 : Nat) ({ cls := "OneBackModel", name := "store", desc := "([III)V" } : Jvm.MethodName)) ∈ GT := GT_m (ck7 (m8 (m8 (m8 (m8 (m8 (m8 (List.Mem.head _)))))))) rfl
set_option maxRecDepth 4000 in
theorem tw1490 : (Jvm.Cond.instanceMethod ({ cls := "OneBackModel", name := "store", desc := "([III)V" } : Jvm.MethodName)) ∈ GT := GT_m (ck7 (m8 (m8 (m8 (m8 (m8 (m8 (List.Mem.tail _ (List.Mem.tail _ (List.Mem.head _)))))))))) rfl
set_option maxRecDepth 4000 in
theorem tw1491 : (Jvm.Cond.code ({ cls := "OneBackModel", name := "store", desc := "([III)V" } : Jvm.MethodName) prog_13_method_37_code (5 : Nat) (Option.none : Option Jvm.ClassFile.FieldType)) ∈ GT := GT_m (ck7 (m8 (m8 (m8 (m8 (m8 (m8 (List.Mem.tail _ (List.Mem.tail _ (List.Mem.tail _ (List.Mem.head _))))))))))) rfl
set_option maxRecDepth 4000 in
theorem tw1492 : (Jvm.Cond.methodLink "OneBackLaw" (31 : Nat) ({ cls := "OneBackModel", name := "fault", desc := "(I)I" } : Jvm.MethodName)) ∈ GT := GT_m (ck7 (m8 (m8 (m8 (m8 (m8 (m8 (List.Mem.tail _ (List.Mem.tail _ (List.Mem.tail _ (List.Mem.tail _ (List.Mem.head _)))))))))))) rfl
set_option maxRecDepth 4000 in
theorem tw1493 : (Jvm.Cond.instanceMethod ({ cls := "OneBackModel", name := "fault", desc := "(I)I" } : Jvm.MethodName)) ∈ GT := GT_m (ck7 (m8 (m8 (m8 (m8 (m8 (m8 (List.Mem.tail _ (List.Mem.tail _ (List.Mem.tail _ (List.Mem.tail _ (List.Mem.tail _ (List.Mem.head _))))))))))))) rfl
set_option maxRecDepth 4000 in
theorem tw1494 : (Jvm.Cond.selects "OneBackModel" ({ cls := "OneBackModel", name := "fault", desc := "(I)I" } : Jvm.MethodName) ({ cls := "OneBackModel", name := "fault", desc := "(I)I" } : Jvm.MethodName)) ∈ GT := GT_m (ck7 (m8 (m8 (m8 (m8 (m8 (m8 (List.Mem.tail _ (List.Mem.tail _ (List.Mem.tail _ (List.Mem.tail _ (List.Mem.tail _ (List.Mem.tail _ (List.Mem.head _)))))))))))))) rfl
set_option maxRecDepth 4000 in
theorem tw1495 : (Jvm.Cond.code ({ cls := "OneBackModel", name := "fault", desc := "(I)I" } : Jvm.MethodName) prog_13_method_40_code (2 : Nat) (Option.some Jvm.ClassFile.FieldType.int)) ∈ GT := GT_m (ck7 (m8 (m8 (m8 (m8 (m8 (m8 (List.Mem.tail _ (List.Mem.tail _ (List.Mem.tail _ (List.Mem.tail _ (List.Mem.tail _ (List.Mem.tail _ (List.Mem.tail _ (List.Mem.head _))))))))))))))) rfl
set_option maxRecDepth 4000 in
theorem tw1496 : (Jvm.Cond.methodLink "OneBackLaw" (35 : Nat) ({ cls := "OneBackModel", name := "town", desc := "(II)I" } : Jvm.MethodName)) ∈ GT := GT_m (ck7 (m8 (m8 (m8 (m8 (m8 (m8 (m8 (List.Mem.head _))))))))) rfl
set_option maxRecDepth 4000 in
theorem tw1497 : (Jvm.Cond.instanceMethod ({ cls := "OneBackModel", name := "town", desc := "(II)I" } : Jvm.MethodName)) ∈ GT := GT_m (ck7 (m8 (m8 (m8 (m8 (m8 (m8 (m8 (List.Mem.tail _ (List.Mem.head _)))))))))) rfl
set_option maxRecDepth 4000 in
theorem tw1498 : (Jvm.Cond.selects "OneBackModel" ({ cls := "OneBackModel", name := "town", desc := "(II)I" } : Jvm.MethodName) ({ cls := "OneBackModel", name := "town", desc := "(II)I" } : Jvm.MethodName)) ∈ GT := GT_m (ck7 (m8 (m8 (m8 (m8 (m8 (m8 (m8 (List.Mem.tail _ (List.Mem.tail _ (List.Mem.head _))))))))))) rfl
set_option maxRecDepth 4000 in
theorem tw1499 : (Jvm.Cond.code ({ cls := "OneBackModel", name := "town", desc := "(II)I" } : Jvm.MethodName) prog_13_method_48_code (4 : Nat) (Option.some Jvm.ClassFile.FieldType.int)) ∈ GT := GT_m (ck7 (m8 (m8 (m8 (m8 (m8 (m8 (m8 (List.Mem.tail _ (List.Mem.tail _ (List.Mem.tail _ (List.Mem.head _)))))))))))) rfl
set_option maxRecDepth 4000 in
theorem tw1500 : (Jvm.Cond.methodLink "OneBackModel" (287 : Nat) ({ cls := "OneBackModel", name := "hand", desc := "(I)Z" } : Jvm.MethodName)) ∈ GT := GT_m (ck7 (m8 (m8 (m8 (m8 (m8 (m8 (m8 (List.Mem.tail _ (List.Mem.tail _ (List.Mem.tail _ (List.Mem.tail _ (List.Mem.head _))))))))))))) rfl
set_option maxRecDepth 4000 in
theorem tw1502 : (Jvm.Cond.instanceMethod ({ cls := "OneBackModel", name := "hand", desc := "(I)Z" } : Jvm.MethodName)) ∈ GT := GT_m (ck7 (m8 (m8 (m8 (m8 (m8 (m8 (m8 (List.Mem.tail _ (List.Mem.tail _ (List.Mem.tail _ (List.Mem.tail _ (List.Mem.tail _ (List.Mem.tail _ (List.Mem.head _))))))))))))))) rfl
set_option maxRecDepth 4000 in
theorem tw1503 : (Jvm.Cond.code ({ cls := "OneBackModel", name := "hand", desc := "(I)Z" } : Jvm.MethodName) prog_13_method_42_code (2 : Nat) (Option.some Jvm.ClassFile.FieldType.boolean)) ∈ GT := GT_m (ck7 (m8 (m8 (m8 (m8 (m8 (m8 (m8 (List.Mem.tail _ (List.Mem.tail _ (List.Mem.tail _ (List.Mem.tail _ (List.Mem.tail _ (List.Mem.tail _ (List.Mem.tail _ (List.Mem.head _)))))))))))))))) rfl
set_option maxRecDepth 4000 in
theorem tw1504 : (Jvm.Cond.methodLink "OneBackModel" (277 : Nat) ({ cls := "OneBackModel", name := "of", desc := "(I)I" } : Jvm.MethodName)) ∈ GT := GT_m (ck7 (m8 (m8 (m8 (m8 (m8 (m8 (m8 (m8 (List.Mem.head _)))))))))) rfl
set_option maxRecDepth 4000 in
theorem tw1506 : (Jvm.Cond.instanceMethod ({ cls := "OneBackModel", name := "of", desc := "(I)I" } : Jvm.MethodName)) ∈ GT := GT_m (ck7 (m8 (m8 (m8 (m8 (m8 (m8 (m8 (m8 (List.Mem.tail _ (List.Mem.tail _ (List.Mem.head _)))))))))))) rfl
set_option maxRecDepth 4000 in
theorem tw1507 : (Jvm.Cond.code ({ cls := "OneBackModel", name := "of", desc := "(I)I" } : Jvm.MethodName) prog_13_method_41_code (2 : Nat) (Option.some Jvm.ClassFile.FieldType.int)) ∈ GT := GT_m (ck7 (m8 (m8 (m8 (m8 (m8 (m8 (m8 (m8 (List.Mem.tail _ (List.Mem.tail _ (List.Mem.tail _ (List.Mem.head _))))))))))))) rfl
set_option maxRecDepth 4000 in
theorem tw1508 : (Jvm.Cond.methodLink "OneBackModel" (290 : Nat) ({ cls := "OneBackModel", name := "isHouse", desc := "(I)Z" } : Jvm.MethodName)) ∈ GT := GT_m (ck7 (m8 (m8 (m8 (m8 (m8 (m8 (m8 (m8 (List.Mem.tail _ (List.Mem.tail _ (List.Mem.tail _ (List.Mem.tail _ (List.Mem.head _)))))))))))))) rfl
set_option maxRecDepth 4000 in
theorem tw1510 : (Jvm.Cond.instanceMethod ({ cls := "OneBackModel", name := "isHouse", desc := "(I)Z" } : Jvm.MethodName)) ∈ GT := GT_m (ck7 (m8 (m8 (m8 (m8 (m8 (m8 (m8 (m8 (List.Mem.tail _ (List.Mem.tail _ (List.Mem.tail _ (List.Mem.tail _ (List.Mem.tail _ (List.Mem.tail _ (List.Mem.head _)))))))))))))))) rfl
set_option maxRecDepth 4000 in
theorem tw1511 : (Jvm.Cond.code ({ cls := "OneBackModel", name := "isHouse", desc := "(I)Z" } : Jvm.MethodName) prog_13_method_43_code (2 : Nat) (Option.some Jvm.ClassFile.FieldType.boolean)) ∈ GT := GT_m (ck7 (m8 (m8 (m8 (m8 (m8 (m8 (m8 (m8 (List.Mem.tail _ (List.Mem.tail _ (List.Mem.tail _ (List.Mem.tail _ (List.Mem.tail _ (List.Mem.tail _ (List.Mem.tail _ (List.Mem.head _))))))))))))))))) rfl
set_option maxRecDepth 4000 in
theorem tw1512 : (Jvm.Cond.methodLink "OneBackModel" (293 : Nat) ({ cls := "OneBackModel", name := "isGood", desc := "(I)Z" } : Jvm.MethodName)) ∈ GT := GT_m (ck7 (m8 (m8 (m8 (m8 (m8 (m8 (m8 (m8 (m8 (List.Mem.head _))))))))))) rfl
set_option maxRecDepth 4000 in
theorem tw1513 : (Jvm.Cond.static ({ cls := "OneBackModel", name := "isGood", desc := "(I)Z" } : Jvm.MethodName)) ∈ GT := GT_m (ck7 (m8 (m8 (m8 (m8 (m8 (m8 (m8 (m8 (m8 (List.Mem.tail _ (List.Mem.head _)))))))))))) rfl
set_option maxRecDepth 4000 in
theorem tw1514 : (Jvm.Cond.code ({ cls := "OneBackModel", name := "isGood", desc := "(I)Z" } : Jvm.MethodName) prog_13_method_45_code (1 : Nat) (Option.some Jvm.ClassFile.FieldType.boolean)) ∈ GT := GT_m (ck7 (m8 (m8 (m8 (m8 (m8 (m8 (m8 (m8 (m8 (List.Mem.tail _ (List.Mem.tail _ (List.Mem.head _))))))))))))) rfl
set_option maxRecDepth 4000 in
theorem tw1515 : (Jvm.Cond.methodLink "OneBackModel" (296 : Nat) ({ cls := "OneBackModel", name := "isThief", desc := "(I)Z" } : Jvm.MethodName)) ∈ GT := GT_m (ck7 (m8 (m8 (m8 (m8 (m8 (m8 (m8 (m8 (m8 (List.Mem.tail _ (List.Mem.tail _ (List.Mem.tail _ (List.Mem.head _)))))))))))))) rfl
set_option maxRecDepth 4000 in
theorem tw1517 : (Jvm.Cond.instanceMethod ({ cls := "OneBackModel", name := "isThief", desc := "(I)Z" } : Jvm.MethodName)) ∈ GT := GT_m (ck7 (m8 (m8 (m8 (m8 (m8 (m8 (m8 (m8 (m8 (List.Mem.tail _ (List.Mem.tail _ (List.Mem.tail _ (List.Mem.tail _ (List.Mem.tail _ (List.Mem.head _)))))))))))))))) rfl
set_option maxRecDepth 4000 in
theorem tw1518 : (Jvm.Cond.code ({ cls := "OneBackModel", name := "isThief", desc := "(I)Z" } : Jvm.MethodName) prog_13_method_44_code (2 : Nat) (Option.some Jvm.ClassFile.FieldType.boolean)) ∈ GT := GT_m (ck7 (m8 (m8 (m8 (m8 (m8 (m8 (m8 (m8 (m8 (List.Mem.tail _ (List.Mem.tail _ (List.Mem.tail _ (List.Mem.tail _ (List.Mem.tail _ (List.Mem.tail _ (List.Mem.head _))))))))))))))))) rfl
set_option maxRecDepth 4000 in
theorem tw1519 : (Jvm.Cond.methodLink "OneBackLaw" (40 : Nat) ({ cls := "OneBackModel", name := "house", desc := "(IIII)I" } : Jvm.MethodName)) ∈ GT := GT_m (ck7 (m8 (m8 (m8 (m8 (m8 (m8 (m8 (m8 (m8 (List.Mem.tail _ (List.Mem.tail _ (List.Mem.tail _ (List.Mem.tail _ (List.Mem.tail _ (List.Mem.tail _ (List.Mem.tail _ (List.Mem.head _)))))))))))))))))) rfl
set_option maxRecDepth 4000 in
theorem tw1520 : (Jvm.Cond.instanceMethod ({ cls := "OneBackModel", name := "house", desc := "(IIII)I" } : Jvm.MethodName)) ∈ GT := GT_m (ck7 (m8 (m8 (m8 (m8 (m8 (m8 (m8 (m8 (m8 (m8 (List.Mem.head _)))))))))))) rfl
set_option maxRecDepth 4000 in
theorem tw1521 : (Jvm.Cond.selects "OneBackModel" ({ cls := "OneBackModel", name := "house", desc := "(IIII)I" } : Jvm.MethodName) ({ cls := "OneBackModel", name := "house", desc := "(IIII)I" } : Jvm.MethodName)) ∈ GT := GT_m (ck7 (m8 (m8 (m8 (m8 (m8 (m8 (m8 (m8 (m8 (m8 (List.Mem.tail _ (List.Mem.head _))))))))))))) rfl
set_option maxRecDepth 4000 in
theorem tw1522 : (Jvm.Cond.code ({ cls := "OneBackModel", name := "house", desc := "(IIII)I" } : Jvm.MethodName) prog_13_method_49_code (5 : Nat) (Option.some Jvm.ClassFile.FieldType.int)) ∈ GT := GT_m (ck7 (m8 (m8 (m8 (m8 (m8 (m8 (m8 (m8 (m8 (m8 (List.Mem.tail _ (List.Mem.tail _ (List.Mem.head _)))))))))))))) rfl
set_option maxRecDepth 4000 in
theorem tw1523 : (Jvm.Cond.methodLink "OneBackModel" (299 : Nat) ({ cls := "OneBackModel", name := "spare", desc := "(II)I" } : Jvm.MethodName)) ∈ GT := GT_m (ck7 (m8 (m8 (m8 (m8 (m8 (m8 (m8 (m8 (m8 (m8 (List.Mem.tail _ (List.Mem.tail _ (List.Mem.tail _ (List.Mem.head _))))))))))))))) rfl
set_option maxRecDepth 4000 in
theorem tw1525 : (Jvm.Cond.instanceMethod ({ cls := "OneBackModel", name := "spare", desc := "(II)I" } : Jvm.MethodName)) ∈ GT := GT_m (ck7 (m8 (m8 (m8 (m8 (m8 (m8 (m8 (m8 (m8 (m8 (List.Mem.tail _ (List.Mem.tail _ (List.Mem.tail _ (List.Mem.tail _ (List.Mem.tail _ (List.Mem.head _))))))))))))))))) rfl
set_option maxRecDepth 4000 in
theorem tw1526 : (Jvm.Cond.code ({ cls := "OneBackModel", name := "spare", desc := "(II)I" } : Jvm.MethodName) prog_13_method_46_code (3 : Nat) (Option.some Jvm.ClassFile.FieldType.int)) ∈ GT := GT_m (ck7 (m8 (m8 (m8 (m8 (m8 (m8 (m8 (m8 (m8 (m8 (List.Mem.tail _ (List.Mem.tail _ (List.Mem.tail _ (List.Mem.tail _ (List.Mem.tail _ (List.Mem.tail _ (List.Mem.head _)))))))))))))))))) rfl
set_option maxRecDepth 4000 in
theorem tw1527 : (Jvm.Cond.methodLink "OneBackModel" (302 : Nat) ({ cls := "OneBackModel", name := "lacks", desc := "(II)I" } : Jvm.MethodName)) ∈ GT := GT_m (ck7 (m8 (m8 (m8 (m8 (m8 (m8 (m8 (m8 (m8 (m8 (List.Mem.tail _ (List.Mem.tail _ (List.Mem.tail _ (List.Mem.tail _ (List.Mem.tail _ (List.Mem.tail _ (List.Mem.tail _ (List.Mem.head _))))))))))))))))))) rfl
set_option maxRecDepth 4000 in
theorem tw1529 : (Jvm.Cond.instanceMethod ({ cls := "OneBackModel", name := "lacks", desc := "(II)I" } : Jvm.MethodName)) ∈ GT := GT_m (ck7 (m8 (m8 (m8 (m8 (m8 (m8 (m8 (m8 (m8 (m8 (m8 (List.Mem.tail _ (List.Mem.head _)))))))))))))) rfl
set_option maxRecDepth 4000 in
theorem tw1530 : (Jvm.Cond.code ({ cls := "OneBackModel", name := "lacks", desc := "(II)I" } : Jvm.MethodName) prog_13_method_47_code (3 : Nat) (Option.some Jvm.ClassFile.FieldType.int)) ∈ GT := GT_m (ck7 (m8 (m8 (m8 (m8 (m8 (m8 (m8 (m8 (m8 (m8 (m8 (List.Mem.tail _ (List.Mem.tail _ (List.Mem.head _))))))))))))))) rfl
set_option maxRecDepth 4000 in
theorem tw1531 : (Jvm.Cond.methodLink "OneBackLaw" (44 : Nat) ({ cls := "OneBackModel", name := "law", desc := "(II)I" } : Jvm.MethodName)) ∈ GT := GT_m (ck7 (m8 (m8 (m8 (m8 (m8 (m8 (m8 (m8 (m8 (m8 (m8 (List.Mem.tail _ (List.Mem.tail _ (List.Mem.tail _ (List.Mem.head _)))))))))))))))) rfl
set_option maxRecDepth 4000 in
theorem tw1532 : (Jvm.Cond.instanceMethod ({ cls := "OneBackModel", name := "law", desc := "(II)I" } : Jvm.MethodName)) ∈ GT := GT_m (ck7 (m8 (m8 (m8 (m8 (m8 (m8 (m8 (m8 (m8 (m8 (m8 (List.Mem.tail _ (List.Mem.tail _ (List.Mem.tail _ (List.Mem.tail _ (List.Mem.head _))))))))))))))))) rfl
set_option maxRecDepth 4000 in
theorem tw1533 : (Jvm.Cond.selects "OneBackModel" ({ cls := "OneBackModel", name := "law", desc := "(II)I" } : Jvm.MethodName) ({ cls := "OneBackModel", name := "law", desc := "(II)I" } : Jvm.MethodName)) ∈ GT := GT_m (ck7 (m8 (m8 (m8 (m8 (m8 (m8 (m8 (m8 (m8 (m8 (m8 (List.Mem.tail _ (List.Mem.tail _ (List.Mem.tail _ (List.Mem.tail _ (List.Mem.tail _ (List.Mem.head _)))))))))))))))))) rfl
set_option maxRecDepth 4000 in
theorem tw1534 : (Jvm.Cond.code ({ cls := "OneBackModel", name := "law", desc := "(II)I" } : Jvm.MethodName) prog_13_method_53_code (3 : Nat) (Option.some Jvm.ClassFile.FieldType.int)) ∈ GT := GT_m (ck7 (m8 (m8 (m8 (m8 (m8 (m8 (m8 (m8 (m8 (m8 (m8 (List.Mem.tail _ (List.Mem.tail _ (List.Mem.tail _ (List.Mem.tail _ (List.Mem.tail _ (List.Mem.tail _ (List.Mem.head _))))))))))))))))))) rfl
set_option maxRecDepth 4000 in
theorem tw1535 : (Jvm.Cond.methodLink "OneBackModel" (314 : Nat) ({ cls := "OneBackModel", name := "hasLaw", desc := "(I)Z" } : Jvm.MethodName)) ∈ GT := GT_m (ck7 (m8 (m8 (m8 (m8 (m8 (m8 (m8 (m8 (m8 (m8 (m8 (List.Mem.tail _ (List.Mem.tail _ (List.Mem.tail _ (List.Mem.tail _ (List.Mem.tail _ (List.Mem.tail _ (List.Mem.tail _ (List.Mem.head _)))))))))))))))))))) rfl
set_option maxRecDepth 4000 in
theorem tw1537 : (Jvm.Cond.instanceMethod ({ cls := "OneBackModel", name := "hasLaw", desc := "(I)Z" } : Jvm.MethodName)) ∈ GT := GT_m (ck7 (m8 (m8 (m8 (m8 (m8 (m8 (m8 (m8 (m8 (m8 (m8 (m8 (List.Mem.tail _ (List.Mem.head _))))))))))))))) rfl
set_option maxRecDepth 4000 in
theorem tw1538 : (Jvm.Cond.code ({ cls := "OneBackModel", name := "hasLaw", desc := "(I)Z" } : Jvm.MethodName) prog_13_method_51_code (2 : Nat) (Option.some Jvm.ClassFile.FieldType.boolean)) ∈ GT := GT_m (ck7 (m8 (m8 (m8 (m8 (m8 (m8 (m8 (m8 (m8 (m8 (m8 (m8 (List.Mem.tail _ (List.Mem.tail _ (List.Mem.head _)))))))))))))))) rfl
set_option maxRecDepth 4000 in
theorem tw1539 : (Jvm.Cond.methodLink "OneBackModel" (308 : Nat) ({ cls := "OneBackModel", name := "lawOf", desc := "(I)I" } : Jvm.MethodName)) ∈ GT := GT_m (ck7 (m8 (m8 (m8 (m8 (m8 (m8 (m8 (m8 (m8 (m8 (m8 (m8 (List.Mem.tail _ (List.Mem.tail _ (List.Mem.tail _ (List.Mem.head _))))))))))))))))) rfl
set_option maxRecDepth 4000 in
theorem tw1541 : (Jvm.Cond.instanceMethod ({ cls := "OneBackModel", name := "lawOf", desc := "(I)I" } : Jvm.MethodName)) ∈ GT := GT_m (ck7 (m8 (m8 (m8 (m8 (m8 (m8 (m8 (m8 (m8 (m8 (m8 (m8 (List.Mem.tail _ (List.Mem.tail _ (List.Mem.tail _ (List.Mem.tail _ (List.Mem.tail _ (List.Mem.head _))))))))))))))))))) rfl
set_option maxRecDepth 4000 in
theorem tw1542 : (Jvm.Cond.code ({ cls := "OneBackModel", name := "lawOf", desc := "(I)I" } : Jvm.MethodName) prog_13_method_50_code (2 : Nat) (Option.some Jvm.ClassFile.FieldType.int)) ∈ GT := GT_m (ck7 (m8 (m8 (m8 (m8 (m8 (m8 (m8 (m8 (m8 (m8 (m8 (m8 (List.Mem.tail _ (List.Mem.tail _ (List.Mem.tail _ (List.Mem.tail _ (List.Mem.tail _ (List.Mem.tail _ (List.Mem.head _)))))))))))))))))))) rfl
set_option maxRecDepth 4000 in
theorem tw1543 : (Jvm.Cond.methodLink "OneBackModel" (317 : Nat) ({ cls := "OneBackModel", name := "isDouble", desc := "(I)Z" } : Jvm.MethodName)) ∈ GT := GT_m (ck7 (m8 (m8 (m8 (m8 (m8 (m8 (m8 (m8 (m8 (m8 (m8 (m8 (List.Mem.tail _ (List.Mem.tail _ (List.Mem.tail _ (List.Mem.tail _ (List.Mem.tail _ (List.Mem.tail _ (List.Mem.tail _ (List.Mem.head _))))))))))))))))))))) rfl
set_option maxRecDepth 4000 in
theorem tw1545 : (Jvm.Cond.instanceMethod ({ cls := "OneBackModel", name := "isDouble", desc := "(I)Z" } : Jvm.MethodName)) ∈ GT := GT_m (ck7 (m8 (m8 (m8 (m8 (m8 (m8 (m8 (m8 (m8 (m8 (m8 (m8 (m8 (List.Mem.tail _ (List.Mem.head _)))))))))))))))) rfl
set_option maxRecDepth 4000 in
theorem tw1546 : (Jvm.Cond.code ({ cls := "OneBackModel", name := "isDouble", desc := "(I)Z" } : Jvm.MethodName) prog_13_method_52_code (2 : Nat) (Option.some Jvm.ClassFile.FieldType.boolean)) ∈ GT := GT_m (ck7 (m8 (m8 (m8 (m8 (m8 (m8 (m8 (m8 (m8 (m8 (m8 (m8 (m8 (List.Mem.tail _ (List.Mem.tail _ (List.Mem.head _))))))))))))))))) rfl
set_option maxRecDepth 4000 in
theorem tw1547 : (Jvm.Cond.methodLink "OneBackModel" (311 : Nat) ({ cls := "OneBackModel", name := "has", desc := "(II)Z" } : Jvm.MethodName)) ∈ GT := GT_m (ck7 (m8 (m8 (m8 (m8 (m8 (m8 (m8 (m8 (m8 (m8 (m8 (m8 (m8 (List.Mem.tail _ (List.Mem.tail _ (List.Mem.tail _ (List.Mem.head _)))))))))))))))))) rfl
set_option maxRecDepth 4000 in
theorem tw1548 : (Jvm.Cond.static ({ cls := "OneBackModel", name := "has", desc := "(II)Z" } : Jvm.MethodName)) ∈ GT := GT_m (ck7 (m8 (m8 (m8 (m8 (m8 (m8 (m8 (m8 (m8 (m8 (m8 (m8 (m8 (List.Mem.tail _ (List.Mem.tail _ (List.Mem.tail _ (List.Mem.tail _ (List.Mem.head _))))))))))))))))))) rfl
set_option maxRecDepth 4000 in
theorem tw1549 : (Jvm.Cond.code ({ cls := "OneBackModel", name := "has", desc := "(II)Z" } : Jvm.MethodName) prog_13_method_4_code (2 : Nat) (Option.some Jvm.ClassFile.FieldType.boolean)) ∈ GT := GT_m (ck7 (m8 (m8 (m8 (m8 (m8 (m8 (m8 (m8 (m8 (m8 (m8 (m8 (m8 (List.Mem.tail _ (List.Mem.tail _ (List.Mem.tail _ (List.Mem.tail _ (List.Mem.tail _ (List.Mem.head _)))))))))))))))))))) rfl
set_option maxRecDepth 4000 in
theorem tw1550 : (Jvm.Cond.methodLink "OneBackLaw" (49 : Nat) ({ cls := "OneBackModel", name := "deed", desc := "(III)I" } : Jvm.MethodName)) ∈ GT := GT_m (ck7 (m8 (m8 (m8 (m8 (m8 (m8 (m8 (m8 (m8 (m8 (m8 (m8 (m8 (List.Mem.tail _ (List.Mem.tail _ (List.Mem.tail _ (List.Mem.tail _ (List.Mem.tail _ (List.Mem.tail _ (List.Mem.head _))))))))))))))))))))) rfl
set_option maxRecDepth 4000 in
theorem tw1551 : (Jvm.Cond.instanceMethod ({ cls := "OneBackModel", name := "deed", desc := "(III)I" } : Jvm.MethodName)) ∈ GT := GT_m (ck7 (m8 (m8 (m8 (m8 (m8 (m8 (m8 (m8 (m8 (m8 (m8 (m8 (m8 (List.Mem.tail _ (List.Mem.tail _ (List.Mem.tail _ (List.Mem.tail _ (List.Mem.tail _ (List.Mem.tail _ (List.Mem.tail _ (List.Mem.head _)))))))))))))))))))))) rfl
set_option maxRecDepth 4000 in
theorem tw1552 : (Jvm.Cond.selects "OneBackModel" ({ cls := "OneBackModel", name := "deed", desc := "(III)I" } : Jvm.MethodName) ({ cls := "OneBackModel", name := "deed", desc := "(III)I" } : Jvm.MethodName)) ∈ GT := GT_m (ck7 (m8 (m8 (m8 (m8 (m8 (m8 (m8 (m8 (m8 (m8 (m8 (m8 (m8 (m8 (List.Mem.head _)))))))))))))))) rfl
set_option maxRecDepth 4000 in
theorem tw1553 : (Jvm.Cond.code ({ cls := "OneBackModel", name := "deed", desc := "(III)I" } : Jvm.MethodName) prog_13_method_57_code (4 : Nat) (Option.some Jvm.ClassFile.FieldType.int)) ∈ GT := GT_m (ck7 (m8 (m8 (m8 (m8 (m8 (m8 (m8 (m8 (m8 (m8 (m8 (m8 (m8 (m8 (List.Mem.tail _ (List.Mem.head _))))))))))))))))) rfl
set_option maxRecDepth 4000 in
theorem tw1554 : (Jvm.Cond.methodLink "OneBackModel" (323 : Nat) ({ cls := "OneBackModel", name := "hasNights", desc := "(I)Z" } : Jvm.MethodName)) ∈ GT := GT_m (ck7 (m8 (m8 (m8 (m8 (m8 (m8 (m8 (m8 (m8 (m8 (m8 (m8 (m8 (m8 (List.Mem.tail _ (List.Mem.tail _ (List.Mem.head _)))))))))))))))))) rfl
set_option maxRecDepth 4000 in
theorem tw1556 : (Jvm.Cond.instanceMethod ({ cls := "OneBackModel", name := "hasNights", desc := "(I)Z" } : Jvm.MethodName)) ∈ GT := GT_m (ck7 (m8 (m8 (m8 (m8 (m8 (m8 (m8 (m8 (m8 (m8 (m8 (m8 (m8 (m8 (List.Mem.tail _ (List.Mem.tail _ (List.Mem.tail _ (List.Mem.tail _ (List.Mem.head _)))))))))))))))))))) rfl
set_option maxRecDepth 4000 in
theorem tw1557 : (Jvm.Cond.code ({ cls := "OneBackModel", name := "hasNights", desc := "(I)Z" } : Jvm.MethodName) prog_13_method_56_code (2 : Nat) (Option.some Jvm.ClassFile.FieldType.boolean)) ∈ GT := GT_m (ck7 (m8 (m8 (m8 (m8 (m8 (m8 (m8 (m8 (m8 (m8 (m8 (m8 (m8 (m8 (List.Mem.tail _ (List.Mem.tail _ (List.Mem.tail _ (List.Mem.tail _ (List.Mem.tail _ (List.Mem.head _))))))))))))))))))))) rfl
set_option maxRecDepth 4000 in
theorem tw1558 : (Jvm.Cond.methodLink "OneBackModel" (326 : Nat) ({ cls := "OneBackModel", name := "deeds", desc := "()I" } : Jvm.MethodName)) ∈ GT := GT_m (ck7 (m8 (m8 (m8 (m8 (m8 (m8 (m8 (m8 (m8 (m8 (m8 (m8 (m8 (m8 (List.Mem.tail _ (List.Mem.tail _ (List.Mem.tail _ (List.Mem.tail _ (List.Mem.tail _ (List.Mem.tail _ (List.Mem.head _)))))))))))))))))))))) rfl
set_option maxRecDepth 4000 in
theorem tw1560 : (Jvm.Cond.instanceMethod ({ cls := "OneBackModel", name := "deeds", desc := "()I" } : Jvm.MethodName)) ∈ GT := GT_m (ck7 (m8 (m8 (m8 (m8 (m8 (m8 (m8 (m8 (m8 (m8 (m8 (m8 (m8 (m8 (m8 (List.Mem.head _))))))))))))))))) rfl
set_option maxRecDepth 4000 in
theorem tw1561 : (Jvm.Cond.code ({ cls := "OneBackModel", name := "deeds", desc := "()I" } : Jvm.MethodName) prog_13_method_54_code (1 : Nat) (Option.some Jvm.ClassFile.FieldType.int)) ∈ GT := GT_m (ck7 (m8 (m8 (m8 (m8 (m8 (m8 (m8 (m8 (m8 (m8 (m8 (m8 (m8 (m8 (m8 (List.Mem.tail _ (List.Mem.head _)))))))))))))))))) rfl
set_option maxRecDepth 4000 in
theorem tw1562 : (Jvm.Cond.methodLink "OneBackModel" (329 : Nat) ({ cls := "OneBackModel", name := "deedOf", desc := "(II)I" } : Jvm.MethodName)) ∈ GT := GT_m (ck7 (m8 (m8 (m8 (m8 (m8 (m8 (m8 (m8 (m8 (m8 (m8 (m8 (m8 (m8 (m8 (List.Mem.tail _ (List.Mem.tail _ (List.Mem.head _))))))))))))))))))) rfl
set_option maxRecDepth 4000 in
theorem tw1564 : (Jvm.Cond.instanceMethod ({ cls := "OneBackModel", name := "deedOf", desc := "(II)I" } : Jvm.MethodName)) ∈ GT := GT_m (ck7 (m8 (m8 (m8 (m8 (m8 (m8 (m8 (m8 (m8 (m8 (m8 (m8 (m8 (m8 (m8 (List.Mem.tail _ (List.Mem.tail _ (List.Mem.tail _ (List.Mem.tail _ (List.Mem.head _))))))))))))))))))))) rfl
set_option maxRecDepth 4000 in
theorem tw1565 : (Jvm.Cond.code ({ cls := "OneBackModel", name := "deedOf", desc := "(II)I" } : Jvm.MethodName) prog_13_method_55_code (3 : Nat) (Option.some Jvm.ClassFile.FieldType.int)) ∈ GT := GT_m (ck7 (m8 (m8 (m8 (m8 (m8 (m8 (m8 (m8 (m8 (m8 (m8 (m8 (m8 (m8 (m8 (List.Mem.tail _ (List.Mem.tail _ (List.Mem.tail _ (List.Mem.tail _ (List.Mem.tail _ (List.Mem.head _)))))))))))))))))))))) rfl
set_option maxRecDepth 4000 in
theorem tw1566 : (Jvm.Cond.methodLink "OneBackLaw" (53 : Nat) ({ cls := "OneBackModel", name := "stop", desc := "(III)I" } : Jvm.MethodName)) ∈ GT := GT_m (ck7 (m8 (m8 (m8 (m8 (m8 (m8 (m8 (m8 (m8 (m8 (m8 (m8 (m8 (m8 (m8 (List.Mem.tail _ (List.Mem.tail _ (List.Mem.tail _ (List.Mem.tail _ (List.Mem.tail _ (List.Mem.tail _ (List.Mem.head _))))))))))))))))))))))) rfl
set_option maxRecDepth 4000 in
theorem tw1567 : (Jvm.Cond.instanceMethod ({ cls := "OneBackModel", name := "stop", desc := "(III)I" } : Jvm.MethodName)) ∈ GT := GT_m (ck7 (m8 (m8 (m8 (m8 (m8 (m8 (m8 (m8 (m8 (m8 (m8 (m8 (m8 (m8 (m8 (List.Mem.tail _ (List.Mem.tail _ (List.Mem.tail _ (List.Mem.tail _ (List.Mem.tail _ (List.Mem.tail _ (List.Mem.tail _ (List.Mem.head _)))))))))))))))))))))))) rfl
set_option maxRecDepth 4000 in
theorem tw1568 : (Jvm.Cond.selects "OneBackModel" ({ cls := "OneBackModel", name := "stop", desc := "(III)I" } : Jvm.MethodName) ({ cls := "OneBackModel", name := "stop", desc := "(III)I" } : Jvm.MethodName)) ∈ GT := GT_m (ck7 (m8 (m8 (m8 (m8 (m8 (m8 (m8 (m8 (m8 (m8 (m8 (m8 (m8 (m8 (m8 (m8 (List.Mem.head _)))))))))))))))))) rfl
set_option maxRecDepth 4000 in
theorem tw1569 : (Jvm.Cond.code ({ cls := "OneBackModel", name := "stop", desc := "(III)I" } : Jvm.MethodName) prog_13_method_72_code (4 : Nat) (Option.some Jvm.ClassFile.FieldType.int)) ∈ GT := GT_m (ck7 (m8 (m8 (m8 (m8 (m8 (m8 (m8 (m8 (m8 (m8 (m8 (m8 (m8 (m8 (m8 (m8 (List.Mem.tail _ (List.Mem.head _))))))))))))))))))) rfl
set_option maxRecDepth 4000 in
theorem tw1570 : (Jvm.Cond.methodLink "OneBackModel" (372 : Nat) ({ cls := "OneBackModel", name := "layAll", desc := "(III)Z" } : Jvm.MethodName)) ∈ GT := GT_m (ck7 (m8 (m8 (m8 (m8 (m8 (m8 (m8 (m8 (m8 (m8 (m8 (m8 (m8 (m8 (m8 (m8 (List.Mem.tail _ (List.Mem.tail _ (List.Mem.head _)))))))))))))))))))) rfl
set_option maxRecDepth 4000 in
theorem tw1572 : (Jvm.Cond.instanceMethod ({ cls := "OneBackModel", name := "layAll", desc := "(III)Z" } : Jvm.MethodName)) ∈ GT := GT_m (ck7 (m8 (m8 (m8 (m8 (m8 (m8 (m8 (m8 (m8 (m8 (m8 (m8 (m8 (m8 (m8 (m8 (List.Mem.tail _ (List.Mem.tail _ (List.Mem.tail _ (List.Mem.tail _ (List.Mem.head _)))))))))))))))))))))) rfl
set_option maxRecDepth 4000 in
theorem tw1573 : (Jvm.Cond.code ({ cls := "OneBackModel", name := "layAll", desc := "(III)Z" } : Jvm.MethodName) prog_13_method_70_code (4 : Nat) (Option.some Jvm.ClassFile.FieldType.boolean)) ∈ GT := GT_m (ck7 (m8 (m8 (m8 (m8 (m8 (m8 (m8 (m8 (m8 (m8 (m8 (m8 (m8 (m8 (m8 (m8 (List.Mem.tail _ (List.Mem.tail _ (List.Mem.tail _ (List.Mem.tail _ (List.Mem.tail _ (List.Mem.head _))))))))))))))))))))))) rfl
set_option maxRecDepth 4000 in
theorem tw1574 : (Jvm.Cond.methodLink "OneBackModel" (375 : Nat) ({ cls := "OneBackModel", name := "play", desc := "(I)I" } : Jvm.MethodName)) ∈ GT := GT_m (ck7 (m8 (m8 (m8 (m8 (m8 (m8 (m8 (m8 (m8 (m8 (m8 (m8 (m8 (m8 (m8 (m8 (List.Mem.tail _ (List.Mem.tail _ (List.Mem.tail _ (List.Mem.tail _ (List.Mem.tail _ (List.Mem.tail _ (List.Mem.head _)))))))))))))))))))))))) rfl
set_option maxRecDepth 4000 in
theorem tw1576 : (Jvm.Cond.instanceMethod ({ cls := "OneBackModel", name := "play", desc := "(I)I" } : Jvm.MethodName)) ∈ GT := GT_m (ck7 (m8 (m8 (m8 (m8 (m8 (m8 (m8 (m8 (m8 (m8 (m8 (m8 (m8 (m8 (m8 (m8 (m8 (List.Mem.head _))))))))))))))))))) rfl
set_option maxRecDepth 4000 in
theorem tw1577 : (Jvm.Cond.code ({ cls := "OneBackModel", name := "play", desc := "(I)I" } : Jvm.MethodName) prog_13_method_69_code (3 : Nat) (Option.some Jvm.ClassFile.FieldType.int)) ∈ GT := GT_m (ck7 (m8 (m8 (m8 (m8 (m8 (m8 (m8 (m8 (m8 (m8 (m8 (m8 (m8 (m8 (m8 (m8 (m8 (List.Mem.tail _ (List.Mem.head _)))))))))))))))))))) rfl
set_option maxRecDepth 4000 in
theorem tw1578 : (Jvm.Cond.methodLink "OneBackModel" (366 : Nat) ({ cls := "OneBackModel", name := "begin", desc := "()V" } : Jvm.MethodName)) ∈ GT := GT_m (ck7 (m8 (m8 (m8 (m8 (m8 (m8 (m8 (m8 (m8 (m8 (m8 (m8 (m8 (m8 (m8 (m8 (m8 (List.Mem.tail _ (List.Mem.tail _ (List.Mem.head _))))))))))))))))))))) rfl
set_option maxRecDepth 4000 in
theorem tw1580 : (Jvm.Cond.instanceMethod ({ cls := "OneBackModel", name := "begin", desc := "()V" } : Jvm.MethodName)) ∈ GT := GT_m (ck7 (m8 (m8 (m8 (m8 (m8 (m8 (m8 (m8 (m8 (m8 (m8 (m8 (m8 (m8 (m8 (m8 (m8 (List.Mem.tail _ (List.Mem.tail _ (List.Mem.tail _ (List.Mem.tail _ (List.Mem.head _))))))))))))))))))))))) rfl
set_option maxRecDepth 4000 in
theorem tw1581 : (Jvm.Cond.code ({ cls := "OneBackModel", name := "begin", desc := "()V" } : Jvm.MethodName) prog_13_method_58_code (2 : Nat) (Option.none : Option Jvm.ClassFile.FieldType)) ∈ GT := GT_m (ck7 (m8 (m8 (m8 (m8 (m8 (m8 (m8 (m8 (m8 (m8 (m8 (m8 (m8 (m8 (m8 (m8 (m8 (List.Mem.tail _ (List.Mem.tail _ (List.Mem.tail _ (List.Mem.tail _ (List.Mem.tail _ (List.Mem.head _)))))))))))))))))))))))) rfl
set_option maxRecDepth 4000 in
theorem tw1582 : (Jvm.Cond.methodLink "OneBackModel" (369 : Nat) ({ cls := "OneBackModel", name := "does", desc := "(I)Z" } : Jvm.MethodName)) ∈ GT := GT_m (ck7 (m8 (m8 (m8 (m8 (m8 (m8 (m8 (m8 (m8 (m8 (m8 (m8 (m8 (m8 (m8 (m8 (m8 (List.Mem.tail _ (List.Mem.tail _ (List.Mem.tail _ (List.Mem.tail _ (List.Mem.tail _ (List.Mem.tail _ (List.Mem.head _))))))))))))))))))))))))) rfl
set_option maxRecDepth 4000 in
theorem tw1584 : (Jvm.Cond.instanceMethod ({ cls := "OneBackModel", name := "does", desc := "(I)Z" } : Jvm.MethodName)) ∈ GT := GT_m (ck7 (m8 (m8 (m8 (m8 (m8 (m8 (m8 (m8 (m8 (m8 (m8 (m8 (m8 (m8 (m8 (m8 (m8 (m8 (List.Mem.head _)))))))))))))))))))) rfl
set_option maxRecDepth 4000 in
theorem tw1585 : (Jvm.Cond.code ({ cls := "OneBackModel", name := "does", desc := "(I)Z" } : Jvm.MethodName) prog_13_method_68_code (5 : Nat) (Option.some Jvm.ClassFile.FieldType.boolean)) ∈ GT := GT_m (ck7 (m8 (m8 (m8 (m8 (m8 (m8 (m8 (m8 (m8 (m8 (m8 (m8 (m8 (m8 (m8 (m8 (m8 (m8 (List.Mem.tail _ (List.Mem.head _))))))))))))))))))))) rfl
set_option maxRecDepth 4000 in
theorem tw1586 : (Jvm.Cond.methodLink "OneBackModel" (354 : Nat) ({ cls := "OneBackModel", name := "takes", desc := "(III)Z" } : Jvm.MethodName)) ∈ GT := GT_m (ck7 (m8 (m8 (m8 (m8 (m8 (m8 (m8 (m8 (m8 (m8 (m8 (m8 (m8 (m8 (m8 (m8 (m8 (m8 (List.Mem.tail _ (List.Mem.tail _ (List.Mem.head _)))))))))))))))))))))) rfl
set_option maxRecDepth 4000 in
theorem tw1588 : (Jvm.Cond.instanceMethod ({ cls := "OneBackModel", name := "takes", desc := "(III)Z" } : Jvm.MethodName)) ∈ GT := GT_m (ck7 (m8 (m8 (m8 (m8 (m8 (m8 (m8 (m8 (m8 (m8 (m8 (m8 (m8 (m8 (m8 (m8 (m8 (m8 (List.Mem.tail _ (List.Mem.tail _ (List.Mem.tail _ (List.Mem.tail _ (List.Mem.head _)))))))))))))))))))))))) rfl
set_option maxRecDepth 4000 in
theorem tw1589 : (Jvm.Cond.code ({ cls := "OneBackModel", name := "takes", desc := "(III)Z" } : Jvm.MethodName) prog_13_method_63_code (4 : Nat) (Option.some Jvm.ClassFile.FieldType.boolean)) ∈ GT := GT_m (ck7 (m8 (m8 (m8 (m8 (m8 (m8 (m8 (m8 (m8 (m8 (m8 (m8 (m8 (m8 (m8 (m8 (m8 (m8 (List.Mem.tail _ (List.Mem.tail _ (List.Mem.tail _ (List.Mem.tail _ (List.Mem.tail _ (List.Mem.head _))))))))))))))))))))))))) rfl
set_option maxRecDepth 4000 in
theorem tw1590 : (Jvm.Cond.methodLink "OneBackModel" (341 : Nat) ({ cls := "OneBackModel", name := "isFree", desc := "(I)Z" } : Jvm.MethodName)) ∈ GT := GT_m (ck7 (m8 (m8 (m8 (m8 (m8 (m8 (m8 (m8 (m8 (m8 (m8 (m8 (m8 (m8 (m8 (m8 (m8 (m8 (List.Mem.tail _ (List.Mem.tail _ (List.Mem.tail _ (List.Mem.tail _ (List.Mem.tail _ (List.Mem.tail _ (List.Mem.head _)))))))))))))))))))))))))) rfl
set_option maxRecDepth 4000 in
theorem tw1592 : (Jvm.Cond.instanceMethod ({ cls := "OneBackModel", name := "isFree", desc := "(I)Z" } : Jvm.MethodName)) ∈ GT := GT_m (ck7 (m8 (m8 (m8 (m8 (m8 (m8 (m8 (m8 (m8 (m8 (m8 (m8 (m8 (m8 (m8 (m8 (m8 (m8 (m8 (List.Mem.head _))))))))))))))))))))) rfl
set_option maxRecDepth 4000 in
theorem tw1593 : (Jvm.Cond.code ({ cls := "OneBackModel", name := "isFree", desc := "(I)Z" } : Jvm.MethodName) prog_13_method_60_code (2 : Nat) (Option.some Jvm.ClassFile.FieldType.boolean)) ∈ GT := GT_m (ck7 (m8 (m8 (m8 (m8 (m8 (m8 (m8 (m8 (m8 (m8 (m8 (m8 (m8 (m8 (m8 (m8 (m8 (m8 (m8 (List.Mem.tail _ (List.Mem.head _)))))))))))))))))))))) rfl
set_option maxRecDepth 4000 in
theorem tw1594 : (Jvm.Cond.methodLink "OneBackModel" (344 : Nat) ({ cls := "OneBackModel", name := "place", desc := "(III)I" } : Jvm.MethodName)) ∈ GT := GT_m (ck7 (m8 (m8 (m8 (m8 (m8 (m8 (m8 (m8 (m8 (m8 (m8 (m8 (m8 (m8 (m8 (m8 (m8 (m8 (m8 (List.Mem.tail _ (List.Mem.tail _ (List.Mem.head _))))))))))))))))))))))) rfl
set_option maxRecDepth 4000 in
theorem tw1595 : (Jvm.Cond.static ({ cls := "OneBackModel", name := "place", desc := "(III)I" } : Jvm.MethodName)) ∈ GT := GT_m (ck7 (m8 (m8 (m8 (m8 (m8 (m8 (m8 (m8 (m8 (m8 (m8 (m8 (m8 (m8 (m8 (m8 (m8 (m8 (m8 (List.Mem.tail _ (List.Mem.tail _ (List.Mem.tail _ (List.Mem.head _)))))))))))))))))))))))) rfl
set_option maxRecDepth 4000 in
theorem tw1596 : (Jvm.Cond.code ({ cls := "OneBackModel", name := "place", desc := "(III)I" } : Jvm.MethodName) prog_13_method_59_code (3 : Nat) (Option.some Jvm.ClassFile.FieldType.int)) ∈ GT := GT_m (ck7 (m8 (m8 (m8 (m8 (m8 (m8 (m8 (m8 (m8 (m8 (m8 (m8 (m8 (m8 (m8 (m8 (m8 (m8 (m8 (List.Mem.tail _ (List.Mem.tail _ (List.Mem.tail _ (List.Mem.tail _ (List.Mem.head _))))))))))))))))))))))))) rfl
set_option maxRecDepth 4000 in
theorem tw1597 : (Jvm.Cond.methodLink "OneBackModel" (357 : Nat) ({ cls := "OneBackModel", name := "gives", desc := "(III)Z" } : Jvm.MethodName)) ∈ GT := GT_m (ck7 (m8 (m8 (m8 (m8 (m8 (m8 (m8 (m8 (m8 (m8 (m8 (m8 (m8 (m8 (m8 (m8 (m8 (m8 (m8 (List.Mem.tail _ (List.Mem.tail _ (List.Mem.tail _ (List.Mem.tail _ (List.Mem.tail _ (List.Mem.head _)))))))))))))))))))))))))) rfl
set_option maxRecDepth 4000 in
theorem tw1599 : (Jvm.Cond.instanceMethod ({ cls := "OneBackModel", name := "gives", desc := "(III)Z" } : Jvm.MethodName)) ∈ GT := GT_m (ck7 (m8 (m8 (m8 (m8 (m8 (m8 (m8 (m8 (m8 (m8 (m8 (m8 (m8 (m8 (m8 (m8 (m8 (m8 (m8 (List.Mem.tail _ (List.Mem.tail _ (List.Mem.tail _ (List.Mem.tail _ (List.Mem.tail _ (List.Mem.tail _ (List.Mem.tail _ (List.Mem.head _)))))))))))))))))))))))))))) rfl
set_option maxRecDepth 4000 in
theorem tw1600 : (Jvm.Cond.code ({ cls := "OneBackModel", name := "gives", desc := "(III)Z" } : Jvm.MethodName) prog_13_method_65_code (4 : Nat) (Option.some Jvm.ClassFile.FieldType.boolean)) ∈ GT := GT_m (ck7 (m8 (m8 (m8 (m8 (m8 (m8 (m8 (m8 (m8 (m8 (m8 (m8 (m8 (m8 (m8 (m8 (m8 (m8 (m8 (m8 (List.Mem.head _)))))))))))))))))))))) rfl
set_option maxRecDepth 4000 in
theorem tw1601 : (Jvm.Cond.methodLink "OneBackModel" (348 : Nat) ({ cls := "OneBackModel", name := "mayGive", desc := "(III)Z" } : Jvm.MethodName)) ∈ GT := GT_m (ck7 (m8 (m8 (m8 (m8 (m8 (m8 (m8 (m8 (m8 (m8 (m8 (m8 (m8 (m8 (m8 (m8 (m8 (m8 (m8 (m8 (List.Mem.tail _ (List.Mem.head _))))))))))))))))))))))) rfl
set_option maxRecDepth 4000 in
theorem tw1603 : (Jvm.Cond.instanceMethod ({ cls := "OneBackModel", name := "mayGive", desc := "(III)Z" } : Jvm.MethodName)) ∈ GT := GT_m (ck7 (m8 (m8 (m8 (m8 (m8 (m8 (m8 (m8 (m8 (m8 (m8 (m8 (m8 (m8 (m8 (m8 (m8 (m8 (m8 (m8 (List.Mem.tail _ (List.Mem.tail _ (List.Mem.tail _ (List.Mem.head _))))))))))))))))))))))))) rfl
set_option maxRecDepth 4000 in
theorem tw1604 : (Jvm.Cond.code ({ cls := "OneBackModel", name := "mayGive", desc := "(III)Z" } : Jvm.MethodName) prog_13_method_64_code (4 : Nat) (Option.some Jvm.ClassFile.FieldType.boolean)) ∈ GT := GT_m (ck7 (m8 (m8 (m8 (m8 (m8 (m8 (m8 (m8 (m8 (m8 (m8 (m8 (m8 (m8 (m8 (m8 (m8 (m8 (m8 (m8 (List.Mem.tail _ (List.Mem.tail _ (List.Mem.tail _ (List.Mem.tail _ (List.Mem.head _)))))))))))))))))))))))))) rfl
set_option maxRecDepth 4000 in
theorem tw1605 : (Jvm.Cond.methodLink "OneBackModel" (360 : Nat) ({ cls := "OneBackModel", name := "sets", desc := "(III)Z" } : Jvm.MethodName)) ∈ GT := GT_m (ck7 (m8 (m8 (m8 (m8 (m8 (m8 (m8 (m8 (m8 (m8 (m8 (m8 (m8 (m8 (m8 (m8 (m8 (m8 (m8 (m8 (List.Mem.tail _ (List.Mem.tail _ (List.Mem.tail _ (List.Mem.tail _ (List.Mem.tail _ (List.Mem.head _))))))))))))))))))))))))))) rfl
set_option maxRecDepth 4000 in
theorem tw1607 : (Jvm.Cond.instanceMethod ({ cls := "OneBackModel", name := "sets", desc := "(III)Z" } : Jvm.MethodName)) ∈ GT := GT_m (ck7 (m8 (m8 (m8 (m8 (m8 (m8 (m8 (m8 (m8 (m8 (m8 (m8 (m8 (m8 (m8 (m8 (m8 (m8 (m8 (m8 (List.Mem.tail _ (List.Mem.tail _ (List.Mem.tail _ (List.Mem.tail _ (List.Mem.tail _ (List.Mem.tail _ (List.Mem.tail _ (List.Mem.head _))))))))))))))))))))))))))))) rfl
set_option maxRecDepth 4000 in
theorem tw1608 : (Jvm.Cond.code ({ cls := "OneBackModel", name := "sets", desc := "(III)Z" } : Jvm.MethodName) prog_13_method_66_code (4 : Nat) (Option.some Jvm.ClassFile.FieldType.boolean)) ∈ GT := GT_m (ck7 (m8 (m8 (m8 (m8 (m8 (m8 (m8 (m8 (m8 (m8 (m8 (m8 (m8 (m8 (m8 (m8 (m8 (m8 (m8 (m8 (m8 (List.Mem.head _))))))))))))))))))))))) rfl
set_option maxRecDepth 4000 in
theorem tw1609 : (Jvm.Cond.methodLink "OneBackModel" (351 : Nat) ({ cls := "OneBackModel", name := "owes", desc := "(I)I" } : Jvm.MethodName)) ∈ GT := GT_m (ck7 (m8 (m8 (m8 (m8 (m8 (m8 (m8 (m8 (m8 (m8 (m8 (m8 (m8 (m8 (m8 (m8 (m8 (m8 (m8 (m8 (m8 (List.Mem.tail _ (List.Mem.head _)))))))))))))))))))))))) rfl
set_option maxRecDepth 4000 in
theorem tw1611 : (Jvm.Cond.instanceMethod ({ cls := "OneBackModel", name := "owes", desc := "(I)I" } : Jvm.MethodName)) ∈ GT := GT_m (ck7 (m8 (m8 (m8 (m8 (m8 (m8 (m8 (m8 (m8 (m8 (m8 (m8 (m8 (m8 (m8 (m8 (m8 (m8 (m8 (m8 (m8 (List.Mem.tail _ (List.Mem.tail _ (List.Mem.tail _ (List.Mem.head _)))))))))))))))))))))))))) rfl
set_option maxRecDepth 4000 in
theorem tw1612 : (Jvm.Cond.code ({ cls := "OneBackModel", name := "owes", desc := "(I)I" } : Jvm.MethodName) prog_13_method_61_code (2 : Nat) (Option.some Jvm.ClassFile.FieldType.int)) ∈ GT := GT_m (ck7 (m8 (m8 (m8 (m8 (m8 (m8 (m8 (m8 (m8 (m8 (m8 (m8 (m8 (m8 (m8 (m8 (m8 (m8 (m8 (m8 (m8 (List.Mem.tail _ (List.Mem.tail _ (List.Mem.tail _ (List.Mem.tail _ (List.Mem.head _))))))))))))))))))))))))))) rfl
set_option maxRecDepth 4000 in
theorem tw1613 : (Jvm.Cond.methodLink "OneBackModel" (363 : Nat) ({ cls := "OneBackModel", name := "ends", desc := "()V" } : Jvm.MethodName)) ∈ GT := GT_m (ck7 (m8 (m8 (m8 (m8 (m8 (m8 (m8 (m8 (m8 (m8 (m8 (m8 (m8 (m8 (m8 (m8 (m8 (m8 (m8 (m8 (m8 (List.Mem.tail _ (List.Mem.tail _ (List.Mem.tail _ (List.Mem.tail _ (List.Mem.tail _ (List.Mem.head _)))))))))))))))))))))))))))) rfl
set_option maxRecDepth 4000 in
theorem tw1615 : (Jvm.Cond.instanceMethod ({ cls := "OneBackModel", name := "ends", desc := "()V" } : Jvm.MethodName)) ∈ GT := GT_m (ck7 (m8 (m8 (m8 (m8 (m8 (m8 (m8 (m8 (m8 (m8 (m8 (m8 (m8 (m8 (m8 (m8 (m8 (m8 (m8 (m8 (m8 (List.Mem.tail _ (List.Mem.tail _ (List.Mem.tail _ (List.Mem.tail _ (List.Mem.tail _ (List.Mem.tail _ (List.Mem.tail _ (List.Mem.head _)))))))))))))))))))))))))))))) rfl
set_option maxRecDepth 4000 in
theorem tw1616 : (Jvm.Cond.code ({ cls := "OneBackModel", name := "ends", desc := "()V" } : Jvm.MethodName) prog_13_method_67_code (2 : Nat) (Option.none : Option Jvm.ClassFile.FieldType)) ∈ GT := GT_m (ck7 (m8 (m8 (m8 (m8 (m8 (m8 (m8 (m8 (m8 (m8 (m8 (m8 (m8 (m8 (m8 (m8 (m8 (m8 (m8 (m8 (m8 (m8 (List.Mem.head _)))))))))))))))))))))))) rfl
set_option maxRecDepth 4000 in
theorem tw1617 : (Jvm.Cond.methodLink "OneBackLaw" (57 : Nat) ({ cls := "OneBackModel", name := "state", desc := "(IIIII)I" } : Jvm.MethodName)) ∈ GT := GT_m (ck7 (m8 (m8 (m8 (m8 (m8 (m8 (m8 (m8 (m8 (m8 (m8 (m8 (m8 (m8 (m8 (m8 (m8 (m8 (m8 (m8 (m8 (m8 (List.Mem.tail _ (List.Mem.head _))))))))))))))))))))))))) rfl
set_option maxRecDepth 4000 in
theorem tw1618 : (Jvm.Cond.instanceMethod ({ cls := "OneBackModel", name := "state", desc := "(IIIII)I" } : Jvm.MethodName)) ∈ GT := GT_m (ck7 (m8 (m8 (m8 (m8 (m8 (m8 (m8 (m8 (m8 (m8 (m8 (m8 (m8 (m8 (m8 (m8 (m8 (m8 (m8 (m8 (m8 (m8 (List.Mem.tail _ (List.Mem.tail _ (List.Mem.head _)))))))))))))))))))))))))) rfl
set_option maxRecDepth 4000 in
theorem tw1619 : (Jvm.Cond.selects "OneBackModel" ({ cls := "OneBackModel", name := "state", desc := "(IIIII)I" } : Jvm.MethodName) ({ cls := "OneBackModel", name := "state", desc := "(IIIII)I" } : Jvm.MethodName)) ∈ GT := GT_m (ck7 (m8 (m8 (m8 (m8 (m8 (m8 (m8 (m8 (m8 (m8 (m8 (m8 (m8 (m8 (m8 (m8 (m8 (m8 (m8 (m8 (m8 (m8 (List.Mem.tail _ (List.Mem.tail _ (List.Mem.tail _ (List.Mem.head _))))))))))))))))))))))))))) rfl
set_option maxRecDepth 4000 in
theorem tw1620 : (Jvm.Cond.code ({ cls := "OneBackModel", name := "state", desc := "(IIIII)I" } : Jvm.MethodName) prog_13_method_78_code (6 : Nat) (Option.some Jvm.ClassFile.FieldType.int)) ∈ GT := GT_m (ck7 (m8 (m8 (m8 (m8 (m8 (m8 (m8 (m8 (m8 (m8 (m8 (m8 (m8 (m8 (m8 (m8 (m8 (m8 (m8 (m8 (m8 (m8 (List.Mem.tail _ (List.Mem.tail _ (List.Mem.tail _ (List.Mem.tail _ (List.Mem.head _)))))))))))))))))))))))))))) rfl
set_option maxRecDepth 4000 in
theorem tw1621 : (Jvm.Cond.methodLink "OneBackModel" (390 : Nat) ({ cls := "OneBackModel", name := "layState", desc := "(IIII)Z" } : Jvm.MethodName)) ∈ GT := GT_m (ck7 (m8 (m8 (m8 (m8 (m8 (m8 (m8 (m8 (m8 (m8 (m8 (m8 (m8 (m8 (m8 (m8 (m8 (m8 (m8 (m8 (m8 (m8 (List.Mem.tail _ (List.Mem.tail _ (List.Mem.tail _ (List.Mem.tail _ (List.Mem.tail _ (List.Mem.head _))))))))))))))))))))))))))))) rfl
set_option maxRecDepth 4000 in
theorem tw1623 : (Jvm.Cond.instanceMethod ({ cls := "OneBackModel", name := "layState", desc := "(IIII)Z" } : Jvm.MethodName)) ∈ GT := GT_m (ck7 (m8 (m8 (m8 (m8 (m8 (m8 (m8 (m8 (m8 (m8 (m8 (m8 (m8 (m8 (m8 (m8 (m8 (m8 (m8 (m8 (m8 (m8 (List.Mem.tail _ (List.Mem.tail _ (List.Mem.tail _ (List.Mem.tail _ (List.Mem.tail _ (List.Mem.tail _ (List.Mem.tail _ (List.Mem.head _))))))))))))))))))))))))))))))) rfl
set_option maxRecDepth 4000 in
theorem tw1624 : (Jvm.Cond.code ({ cls := "OneBackModel", name := "layState", desc := "(IIII)Z" } : Jvm.MethodName) prog_13_method_71_code (5 : Nat) (Option.some Jvm.ClassFile.FieldType.boolean)) ∈ GT := GT_m (ck7 (m8 (m8 (m8 (m8 (m8 (m8 (m8 (m8 (m8 (m8 (m8 (m8 (m8 (m8 (m8 (m8 (m8 (m8 (m8 (m8 (m8 (m8 (m8 (List.Mem.head _))))))))))))))))))))))))) rfl
set_option maxRecDepth 4000 in
theorem tw1625 : (Jvm.Cond.methodLink "OneBackModel" (393 : Nat) ({ cls := "OneBackModel", name := "queued", desc := "(I)I" } : Jvm.MethodName)) ∈ GT := GT_m (ck7 (m8 (m8 (m8 (m8 (m8 (m8 (m8 (m8 (m8 (m8 (m8 (m8 (m8 (m8 (m8 (m8 (m8 (m8 (m8 (m8 (m8 (m8 (m8 (List.Mem.tail _ (List.Mem.head _)))))))))))))))))))))))))) rfl
set_option maxRecDepth 4000 in
theorem tw1627 : (Jvm.Cond.instanceMethod ({ cls := "OneBackModel", name := "queued", desc := "(I)I" } : Jvm.MethodName)) ∈ GT := GT_m (ck7 (m8 (m8 (m8 (m8 (m8 (m8 (m8 (m8 (m8 (m8 (m8 (m8 (m8 (m8 (m8 (m8 (m8 (m8 (m8 (m8 (m8 (m8 (m8 (List.Mem.tail _ (List.Mem.tail _ (List.Mem.tail _ (List.Mem.head _)))))))))))))))))))))))))))) rfl
set_option maxRecDepth 4000 in
theorem tw1628 : (Jvm.Cond.code ({ cls := "OneBackModel", name := "queued", desc := "(I)I" } : Jvm.MethodName) prog_13_method_75_code (5 : Nat) (Option.some Jvm.ClassFile.FieldType.int)) ∈ GT := GT_m (ck7 (m8 (m8 (m8 (m8 (m8 (m8 (m8 (m8 (m8 (m8 (m8 (m8 (m8 (m8 (m8 (m8 (m8 (m8 (m8 (m8 (m8 (m8 (m8 (List.Mem.tail _ (List.Mem.tail _ (List.Mem.tail _ (List.Mem.tail _ (List.Mem.head _))))))))))))))))))))))))))))) rfl
set_option maxRecDepth 4000 in
theorem tw1629 : (Jvm.Cond.methodLink "OneBackModel" (378 : Nat) ({ cls := "OneBackModel", name := "odd", desc := "(I)I" } : Jvm.MethodName)) ∈ GT := GT_m (ck7 (m8 (m8 (m8 (m8 (m8 (m8 (m8 (m8 (m8 (m8 (m8 (m8 (m8 (m8 (m8 (m8 (m8 (m8 (m8 (m8 (m8 (m8 (m8 (List.Mem.tail _ (List.Mem.tail _ (List.Mem.tail _ (List.Mem.tail _ (List.Mem.tail _ (List.Mem.head _)))))))))))))))))))))))))))))) rfl
set_option maxRecDepth 4000 in
theorem tw1631 : (Jvm.Cond.instanceMethod ({ cls := "OneBackModel", name := "odd", desc := "(I)I" } : Jvm.MethodName)) ∈ GT := GT_m (ck7 (m8 (m8 (m8 (m8 (m8 (m8 (m8 (m8 (m8 (m8 (m8 (m8 (m8 (m8 (m8 (m8 (m8 (m8 (m8 (m8 (m8 (m8 (m8 (List.Mem.tail _ (List.Mem.tail _ (List.Mem.tail _ (List.Mem.tail _ (List.Mem.tail _ (List.Mem.tail _ (List.Mem.tail _ (List.Mem.head _)))))))))))))))))))))))))))))))) rfl
set_option maxRecDepth 4000 in
theorem tw1632 : (Jvm.Cond.code ({ cls := "OneBackModel", name := "odd", desc := "(I)I" } : Jvm.MethodName) prog_13_method_62_code (2 : Nat) (Option.some Jvm.ClassFile.FieldType.int)) ∈ GT := GT_m (ck7 (m8 (m8 (m8 (m8 (m8 (m8 (m8 (m8 (m8 (m8 (m8 (m8 (m8 (m8 (m8 (m8 (m8 (m8 (m8 (m8 (m8 (m8 (m8 (m8 (List.Mem.head _)))))))))))))))))))))))))) rfl
set_option maxRecDepth 4000 in
theorem tw1633 : (Jvm.Cond.methodLink "OneBackModel" (396 : Nat) ({ cls := "OneBackModel", name := "ofState", desc := "(I)I" } : Jvm.MethodName)) ∈ GT := GT_m (ck7 (m8 (m8 (m8 (m8 (m8 (m8 (m8 (m8 (m8 (m8 (m8 (m8 (m8 (m8 (m8 (m8 (m8 (m8 (m8 (m8 (m8 (m8 (m8 (m8 (List.Mem.tail _ (List.Mem.head _))))))))))))))))))))))))))) rfl
set_option maxRecDepth 4000 in
theorem tw1635 : (Jvm.Cond.instanceMethod ({ cls := "OneBackModel", name := "ofState", desc := "(I)I" } : Jvm.MethodName)) ∈ GT := GT_m (ck7 (m8 (m8 (m8 (m8 (m8 (m8 (m8 (m8 (m8 (m8 (m8 (m8 (m8 (m8 (m8 (m8 (m8 (m8 (m8 (m8 (m8 (m8 (m8 (m8 (List.Mem.tail _ (List.Mem.tail _ (List.Mem.tail _ (List.Mem.head _))))))))))))))))))))))))))))) rfl
set_option maxRecDepth 4000 in
theorem tw1636 : (Jvm.Cond.code ({ cls := "OneBackModel", name := "ofState", desc := "(I)I" } : Jvm.MethodName) prog_13_method_77_code (2 : Nat) (Option.some Jvm.ClassFile.FieldType.int)) ∈ GT := GT_m (ck7 (m8 (m8 (m8 (m8 (m8 (m8 (m8 (m8 (m8 (m8 (m8 (m8 (m8 (m8 (m8 (m8 (m8 (m8 (m8 (m8 (m8 (m8 (m8 (m8 (List.Mem.tail _ (List.Mem.tail _ (List.Mem.tail _ (List.Mem.tail _ (List.Mem.head _)))))))))))))))))))))))))))))) rfl
set_option maxRecDepth 4000 in
theorem tw1637 : (Jvm.Cond.methodLink "OneBackModel" (381 : Nat) ({ cls := "OneBackModel", name := "want", desc := "()I" } : Jvm.MethodName)) ∈ GT := GT_m (ck7 (m8 (m8 (m8 (m8 (m8 (m8 (m8 (m8 (m8 (m8 (m8 (m8 (m8 (m8 (m8 (m8 (m8 (m8 (m8 (m8 (m8 (m8 (m8 (m8 (List.Mem.tail _ (List.Mem.tail _ (List.Mem.tail _ (List.Mem.tail _ (List.Mem.tail _ (List.Mem.head _))))))))))))))))))))))))))))))) rfl
set_option maxRecDepth 4000 in
theorem tw1639 : (Jvm.Cond.instanceMethod ({ cls := "OneBackModel", name := "want", desc := "()I" } : Jvm.MethodName)) ∈ GT := GT_m (ck7 (m8 (m8 (m8 (m8 (m8 (m8 (m8 (m8 (m8 (m8 (m8 (m8 (m8 (m8 (m8 (m8 (m8 (m8 (m8 (m8 (m8 (m8 (m8 (m8 (List.Mem.tail _ (List.Mem.tail _ (List.Mem.tail _ (List.Mem.tail _ (List.Mem.tail _ (List.Mem.tail _ (List.Mem.tail _ (List.Mem.head _))))))))))))))))))))))))))))))))) rfl
set_option maxRecDepth 4000 in
theorem tw1640 : (Jvm.Cond.code ({ cls := "OneBackModel", name := "want", desc := "()I" } : Jvm.MethodName) prog_13_method_73_code (3 : Nat) (Option.some Jvm.ClassFile.FieldType.int)) ∈ GT := GT_m (ck7 (m8 (m8 (m8 (m8 (m8 (m8 (m8 (m8 (m8 (m8 (m8 (m8 (m8 (m8 (m8 (m8 (m8 (m8 (m8 (m8 (m8 (m8 (m8 (m8 (m8 (List.Mem.head _))))))))))))))))))))))))))) rfl
set_option maxRecDepth 4000 in
theorem tw1641 : (Jvm.Cond.methodLink "OneBackModel" (384 : Nat) ({ cls := "OneBackModel", name := "pious", desc := "()I" } : Jvm.MethodName)) ∈ GT := GT_m (ck7 (m8 (m8 (m8 (m8 (m8 (m8 (m8 (m8 (m8 (m8 (m8 (m8 (m8 (m8 (m8 (m8 (m8 (m8 (m8 (m8 (m8 (m8 (m8 (m8 (m8 (List.Mem.tail _ (List.Mem.head _)))))))))))))))))))))))))))) rfl
set_option maxRecDepth 4000 in
theorem tw1643 : (Jvm.Cond.instanceMethod ({ cls := "OneBackModel", name := "pious", desc := "()I" } : Jvm.MethodName)) ∈ GT := GT_m (ck7 (m8 (m8 (m8 (m8 (m8 (m8 (m8 (m8 (m8 (m8 (m8 (m8 (m8 (m8 (m8 (m8 (m8 (m8 (m8 (m8 (m8 (m8 (m8 (m8 (m8 (List.Mem.tail _ (List.Mem.tail _ (List.Mem.tail _ (List.Mem.head _)))))))))))))))))))))))))))))) rfl
set_option maxRecDepth 4000 in
theorem tw1644 : (Jvm.Cond.code ({ cls := "OneBackModel", name := "pious", desc := "()I" } : Jvm.MethodName) prog_13_method_74_code (3 : Nat) (Option.some Jvm.ClassFile.FieldType.int)) ∈ GT := GT_m (ck7 (m8 (m8 (m8 (m8 (m8 (m8 (m8 (m8 (m8 (m8 (m8 (m8 (m8 (m8 (m8 (m8 (m8 (m8 (m8 (m8 (m8 (m8 (m8 (m8 (m8 (List.Mem.tail _ (List.Mem.tail _ (List.Mem.tail _ (List.Mem.tail _ (List.Mem.head _))))))))))))))))))))))))))))))) rfl
set_option maxRecDepth 4000 in
theorem tw1645 : (Jvm.Cond.methodLink "OneBackModel" (387 : Nat) ({ cls := "OneBackModel", name := "ofEach", desc := "(I)I" } : Jvm.MethodName)) ∈ GT := GT_m (ck7 (m8 (m8 (m8 (m8 (m8 (m8 (m8 (m8 (m8 (m8 (m8 (m8 (m8 (m8 (m8 (m8 (m8 (m8 (m8 (m8 (m8 (m8 (m8 (m8 (m8 (List.Mem.tail _ (List.Mem.tail _ (List.Mem.tail _ (List.Mem.tail _ (List.Mem.tail _ (List.Mem.head _)))))))))))))))))))))))))))))))) rfl
set_option maxRecDepth 4000 in
theorem tw1647 : (Jvm.Cond.instanceMethod ({ cls := "OneBackModel", name := "ofEach", desc := "(I)I" } : Jvm.MethodName)) ∈ GT := GT_m (ck7 (m8 (m8 (m8 (m8 (m8 (m8 (m8 (m8 (m8 (m8 (m8 (m8 (m8 (m8 (m8 (m8 (m8 (m8 (m8 (m8 (m8 (m8 (m8 (m8 (m8 (List.Mem.tail _ (List.Mem.tail _ (List.Mem.tail _ (List.Mem.tail _ (List.Mem.tail _ (List.Mem.tail _ (List.Mem.tail _ (List.Mem.head _)))))))))))))))))))))))))))))))))) rfl
set_option maxRecDepth 4000 in
theorem tw1648 : (Jvm.Cond.code ({ cls := "OneBackModel", name := "ofEach", desc := "(I)I" } : Jvm.MethodName) prog_13_method_76_code (3 : Nat) (Option.some Jvm.ClassFile.FieldType.int)) ∈ GT := GT_m (ck7 (m8 (m8 (m8 (m8 (m8 (m8 (m8 (m8 (m8 (m8 (m8 (m8 (m8 (m8 (m8 (m8 (m8 (m8 (m8 (m8 (m8 (m8 (m8 (m8 (m8 (m8 (List.Mem.head _)))))))))))))))))))))))))))) rfl
set_option maxRecDepth 4000 in
theorem tw1649 : (Jvm.Cond.methodLink "OneBackLaw" (62 : Nat) ({ cls := "OneBackModel", name := "goods", desc := "(IIIIIII)I" } : Jvm.MethodName)) ∈ GT := GT_m (ck7 (m8 (m8 (m8 (m8 (m8 (m8 (m8 (m8 (m8 (m8 (m8 (m8 (m8 (m8 (m8 (m8 (m8 (m8 (m8 (m8 (m8 (m8 (m8 (m8 (m8 (m8 (List.Mem.tail _ (List.Mem.head _))))))))))))))))))))))))))))) rfl
set_option maxRecDepth 4000 in
theorem tw1650 : (Jvm.Cond.instanceMethod ({ cls := "OneBackModel", name := "goods", desc := "(IIIIIII)I" } : Jvm.MethodName)) ∈ GT := GT_m (ck7 (m8 (m8 (m8 (m8 (m8 (m8 (m8 (m8 (m8 (m8 (m8 (m8 (m8 (m8 (m8 (m8 (m8 (m8 (m8 (m8 (m8 (m8 (m8 (m8 (m8 (m8 (List.Mem.tail _ (List.Mem.tail _ (List.Mem.head _)))))))))))))))))))))))))))))) rfl
set_option maxRecDepth 4000 in
theorem tw1651 : (Jvm.Cond.selects "OneBackModel" ({ cls := "OneBackModel", name := "goods", desc := "(IIIIIII)I" } : Jvm.MethodName) ({ cls := "OneBackModel", name := "goods", desc := "(IIIIIII)I" } : Jvm.MethodName)) ∈ GT := GT_m (ck7 (m8 (m8 (m8 (m8 (m8 (m8 (m8 (m8 (m8 (m8 (m8 (m8 (m8 (m8 (m8 (m8 (m8 (m8 (m8 (m8 (m8 (m8 (m8 (m8 (m8 (m8 (List.Mem.tail _ (List.Mem.tail _ (List.Mem.tail _ (List.Mem.head _))))))))))))))))))))))))))))))) rfl
set_option maxRecDepth 4000 in
theorem tw1652 : (Jvm.Cond.code ({ cls := "OneBackModel", name := "goods", desc := "(IIIIIII)I" } : Jvm.MethodName) prog_13_method_79_code (8 : Nat) (Option.some Jvm.ClassFile.FieldType.int)) ∈ GT := GT_m (ck7 (m8 (m8 (m8 (m8 (m8 (m8 (m8 (m8 (m8 (m8 (m8 (m8 (m8 (m8 (m8 (m8 (m8 (m8 (m8 (m8 (m8 (m8 (m8 (m8 (m8 (m8 (List.Mem.tail _ (List.Mem.tail _ (List.Mem.tail _ (List.Mem.tail _ (List.Mem.head _)))))))))))))))))))))))))))))))) rfl
set_option maxRecDepth 4000 in
theorem tw1653 : (Jvm.Cond.methodLink "OneBackLaw" (66 : Nat) ({ cls := "OneBackModel", name := "aid", desc := "(II)I" } : Jvm.MethodName)) ∈ GT := GT_m (ck7 (m8 (m8 (m8 (m8 (m8 (m8 (m8 (m8 (m8 (m8 (m8 (m8 (m8 (m8 (m8 (m8 (m8 (m8 (m8 (m8 (m8 (m8 (m8 (m8 (m8 (m8 (List.Mem.tail _ (List.Mem.tail _ (List.Mem.tail _ (List.Mem.tail _ (List.Mem.tail _ (List.Mem.head _))))))))))))))))))))))))))))))))) rfl
set_option maxRecDepth 4000 in
theorem tw1654 : (Jvm.Cond.instanceMethod ({ cls := "OneBackModel", name := "aid", desc := "(II)I" } : Jvm.MethodName)) ∈ GT := GT_m (ck7 (m8 (m8 (m8 (m8 (m8 (m8 (m8 (m8 (m8 (m8 (m8 (m8 (m8 (m8 (m8 (m8 (m8 (m8 (m8 (m8 (m8 (m8 (m8 (m8 (m8 (m8 (List.Mem.tail _ (List.Mem.tail _ (List.Mem.tail _ (List.Mem.tail _ (List.Mem.tail _ (List.Mem.tail _ (List.Mem.head _)))))))))))))))))))))))))))))))))) rfl
set_option maxRecDepth 4000 in
theorem tw1655 : (Jvm.Cond.selects "OneBackModel" ({ cls := "OneBackModel", name := "aid", desc := "(II)I" } : Jvm.MethodName) ({ cls := "OneBackModel", name := "aid", desc := "(II)I" } : Jvm.MethodName)) ∈ GT := GT_m (ck7 (m8 (m8 (m8 (m8 (m8 (m8 (m8 (m8 (m8 (m8 (m8 (m8 (m8 (m8 (m8 (m8 (m8 (m8 (m8 (m8 (m8 (m8 (m8 (m8 (m8 (m8 (List.Mem.tail _ (List.Mem.tail _ (List.Mem.tail _ (List.Mem.tail _ (List.Mem.tail _ (List.Mem.tail _ (List.Mem.tail _ (List.Mem.head _))))))))))))))))))))))))))))))))))) rfl
set_option maxRecDepth 4000 in
theorem tw1656 : (Jvm.Cond.code ({ cls := "OneBackModel", name := "aid", desc := "(II)I" } : Jvm.MethodName) prog_13_method_83_code (3 : Nat) (Option.some Jvm.ClassFile.FieldType.int)) ∈ GT := GT_m (ck7 (m8 (m8 (m8 (m8 (m8 (m8 (m8 (m8 (m8 (m8 (m8 (m8 (m8 (m8 (m8 (m8 (m8 (m8 (m8 (m8 (m8 (m8 (m8 (m8 (m8 (m8 (m8 (List.Mem.head _))))))))))))))))))))))))))))) rfl
set_option maxRecDepth 4000 in
theorem tw1657 : (Jvm.Cond.methodLink "OneBackModel" (411 : Nat) ({ cls := "OneBackModel", name := "findAid", desc := "()Z" } : Jvm.MethodName)) ∈ GT := GT_m (ck7 (m8 (m8 (m8 (m8 (m8 (m8 (m8 (m8 (m8 (m8 (m8 (m8 (m8 (m8 (m8 (m8 (m8 (m8 (m8 (m8 (m8 (m8 (m8 (m8 (m8 (m8 (m8 (List.Mem.tail _ (List.Mem.head _)))))))))))))))))))))))))))))) rfl
set_option maxRecDepth 4000 in
theorem tw1659 : (Jvm.Cond.instanceMethod ({ cls := "OneBackModel", name := "findAid", desc := "()Z" } : Jvm.MethodName)) ∈ GT := GT_m (ck7 (m8 (m8 (m8 (m8 (m8 (m8 (m8 (m8 (m8 (m8 (m8 (m8 (m8 (m8 (m8 (m8 (m8 (m8 (m8 (m8 (m8 (m8 (m8 (m8 (m8 (m8 (m8 (List.Mem.tail _ (List.Mem.tail _ (List.Mem.tail _ (List.Mem.head _)))))))))))))))))))))))))))))))) rfl
set_option maxRecDepth 4000 in
theorem tw1660 : (Jvm.Cond.code ({ cls := "OneBackModel", name := "findAid", desc := "()Z" } : Jvm.MethodName) prog_13_method_81_code (3 : Nat) (Option.some Jvm.ClassFile.FieldType.boolean)) ∈ GT := GT_m (ck7 (m8 (m8 (m8 (m8 (m8 (m8 (m8 (m8 (m8 (m8 (m8 (m8 (m8 (m8 (m8 (m8 (m8 (m8 (m8 (m8 (m8 (m8 (m8 (m8 (m8 (m8 (m8 (List.Mem.tail _ (List.Mem.tail _ (List.Mem.tail _ (List.Mem.tail _ (List.Mem.head _))))))))))))))))))))))))))))))))) rfl
set_option maxRecDepth 4000 in
theorem tw1661 : (Jvm.Cond.methodLink "OneBackModel" (408 : Nat) ({ cls := "OneBackModel", name := "aidGood", desc := "(I)Z" } : Jvm.MethodName)) ∈ GT := GT_m (ck7 (m8 (m8 (m8 (m8 (m8 (m8 (m8 (m8 (m8 (m8 (m8 (m8 (m8 (m8 (m8 (m8 (m8 (m8 (m8 (m8 (m8 (m8 (m8 (m8 (m8 (m8 (m8 (List.Mem.tail _ (List.Mem.tail _ (List.Mem.tail _ (List.Mem.tail _ (List.Mem.tail _ (List.Mem.head _)))))))))))))))))))))))))))))))))) rfl
set_option maxRecDepth 4000 in
theorem tw1663 : (Jvm.Cond.instanceMethod ({ cls := "OneBackModel", name := "aidGood", desc := "(I)Z" } : Jvm.MethodName)) ∈ GT := GT_m (ck7 (m8 (m8 (m8 (m8 (m8 (m8 (m8 (m8 (m8 (m8 (m8 (m8 (m8 (m8 (m8 (m8 (m8 (m8 (m8 (m8 (m8 (m8 (m8 (m8 (m8 (m8 (m8 (List.Mem.tail _ (List.Mem.tail _ (List.Mem.tail _ (List.Mem.tail _ (List.Mem.tail _ (List.Mem.tail _ (List.Mem.tail _ (List.Mem.head _)))))))))))))))))))))))))))))))))))) rfl
set_option maxRecDepth 4000 in
theorem tw1664 : (Jvm.Cond.code ({ cls := "OneBackModel", name := "aidGood", desc := "(I)Z" } : Jvm.MethodName) prog_13_method_80_code (6 : Nat) (Option.some Jvm.ClassFile.FieldType.boolean)) ∈ GT := GT_m (ck7 (m8 (m8 (m8 (m8 (m8 (m8 (m8 (m8 (m8 (m8 (m8 (m8 (m8 (m8 (m8 (m8 (m8 (m8 (m8 (m8 (m8 (m8 (m8 (m8 (m8 (m8 (m8 (m8 (List.Mem.head _)))))))))))))))))))))))))))))) rfl
set_option maxRecDepth 4000 in
theorem tw1665 : (Jvm.Cond.methodLink "OneBackModel" (399 : Nat) ({ cls := "OneBackModel", name := "lesser", desc := "(II)I" } : Jvm.MethodName)) ∈ GT := GT_m (ck7 (m8 (m8 (m8 (m8 (m8 (m8 (m8 (m8 (m8 (m8 (m8 (m8 (m8 (m8 (m8 (m8 (m8 (m8 (m8 (m8 (m8 (m8 (m8 (m8 (m8 (m8 (m8 (m8 (List.Mem.tail _ (List.Mem.head _))))))))))))))))))))))))))))))) rfl
set_option maxRecDepth 4000 in
theorem tw1666 : (Jvm.Cond.static ({ cls := "OneBackModel", name := "lesser", desc := "(II)I" } : Jvm.MethodName)) ∈ GT := GT_m (ck7 (m8 (m8 (m8 (m8 (m8 (m8 (m8 (m8 (m8 (m8 (m8 (m8 (m8 (m8 (m8 (m8 (m8 (m8 (m8 (m8 (m8 (m8 (m8 (m8 (m8 (m8 (m8 (m8 (List.Mem.tail _ (List.Mem.tail _ (List.Mem.head _)))))))))))))))))))))))))))))))) rfl
set_option maxRecDepth 4000 in
theorem tw1667 : (Jvm.Cond.code ({ cls := "OneBackModel", name := "lesser", desc := "(II)I" } : Jvm.MethodName) prog_13_method_6_code (2 : Nat) (Option.some Jvm.ClassFile.FieldType.int)) ∈ GT := GT_m (ck7 (m8 (m8 (m8 (m8 (m8 (m8 (m8 (m8 (m8 (m8 (m8 (m8 (m8 (m8 (m8 (m8 (m8 (m8 (m8 (m8 (m8 (m8 (m8 (m8 (m8 (m8 (m8 (m8 (List.Mem.tail _ (List.Mem.tail _ (List.Mem.tail _ (List.Mem.head _))))))))))))))))))))))))))))))))) rfl
set_option maxRecDepth 4000 in
theorem tw1668 : (Jvm.Cond.methodLink "OneBackModel" (414 : Nat) ({ cls := "OneBackModel", name := "aidNights", desc := "()I" } : Jvm.MethodName)) ∈ GT := GT_m (ck7 (m8 (m8 (m8 (m8 (m8 (m8 (m8 (m8 (m8 (m8 (m8 (m8 (m8 (m8 (m8 (m8 (m8 (m8 (m8 (m8 (m8 (m8 (m8 (m8 (m8 (m8 (m8 (m8 (List.Mem.tail _ (List.Mem.tail _ (List.Mem.tail _ (List.Mem.tail _ (List.Mem.head _)))))))))))))))))))))))))))))))))) rfl
set_option maxRecDepth 4000 in
theorem tw1670 : (Jvm.Cond.instanceMethod ({ cls := "OneBackModel", name := "aidNights", desc := "()I" } : Jvm.MethodName)) ∈ GT := GT_m (ck7 (m8 (m8 (m8 (m8 (m8 (m8 (m8 (m8 (m8 (m8 (m8 (m8 (m8 (m8 (m8 (m8 (m8 (m8 (m8 (m8 (m8 (m8 (m8 (m8 (m8 (m8 (m8 (m8 (List.Mem.tail _ (List.Mem.tail _ (List.Mem.tail _ (List.Mem.tail _ (List.Mem.tail _ (List.Mem.tail _ (List.Mem.head _)))))))))))))))))))))))))))))))))))) rfl
set_option maxRecDepth 4000 in
theorem tw1671 : (Jvm.Cond.code ({ cls := "OneBackModel", name := "aidNights", desc := "()I" } : Jvm.MethodName) prog_13_method_82_code (3 : Nat) (Option.some Jvm.ClassFile.FieldType.int)) ∈ GT := GT_m (ck7 (m8 (m8 (m8 (m8 (m8 (m8 (m8 (m8 (m8 (m8 (m8 (m8 (m8 (m8 (m8 (m8 (m8 (m8 (m8 (m8 (m8 (m8 (m8 (m8 (m8 (m8 (m8 (m8 (List.Mem.tail _ (List.Mem.tail _ (List.Mem.tail _ (List.Mem.tail _ (List.Mem.tail _ (List.Mem.tail _ (List.Mem.tail _ (List.Mem.head _))))))))))))))))))))))))))))))))))))) rfl
set_option maxRecDepth 4000 in
theorem tw1672 : (Jvm.Cond.methodLink "OneBackLaw" (70 : Nat) ({ cls := "OneBackModel", name := "carry", desc := "(I)I" } : Jvm.MethodName)) ∈ GT := GT_m (ck7 (m8 (m8 (m8 (m8 (m8 (m8 (m8 (m8 (m8 (m8 (m8 (m8 (m8 (m8 (m8 (m8 (m8 (m8 (m8 (m8 (m8 (m8 (m8 (m8 (m8 (m8 (m8 (m8 (m8 (List.Mem.head _))))))))))))))))))))))))))))))) rfl
set_option maxRecDepth 4000 in
theorem tw1673 : (Jvm.Cond.instanceMethod ({ cls := "OneBackModel", name := "carry", desc := "(I)I" } : Jvm.MethodName)) ∈ GT := GT_m (ck7 (m8 (m8 (m8 (m8 (m8 (m8 (m8 (m8 (m8 (m8 (m8 (m8 (m8 (m8 (m8 (m8 (m8 (m8 (m8 (m8 (m8 (m8 (m8 (m8 (m8 (m8 (m8 (m8 (m8 (List.Mem.tail _ (List.Mem.head _)))))))))))))))))))))))))))))))) rfl
set_option maxRecDepth 4000 in
theorem tw1674 : (Jvm.Cond.selects "OneBackModel" ({ cls := "OneBackModel", name := "carry", desc := "(I)I" } : Jvm.MethodName) ({ cls := "OneBackModel", name := "carry", desc := "(I)I" } : Jvm.MethodName)) ∈ GT := GT_m (ck7 (m8 (m8 (m8 (m8 (m8 (m8 (m8 (m8 (m8 (m8 (m8 (m8 (m8 (m8 (m8 (m8 (m8 (m8 (m8 (m8 (m8 (m8 (m8 (m8 (m8 (m8 (m8 (m8 (m8 (List.Mem.tail _ (List.Mem.tail _ (List.Mem.head _))))))))))))))))))))))))))))))))) rfl
set_option maxRecDepth 4000 in
theorem tw1675 : (Jvm.Cond.code ({ cls := "OneBackModel", name := "carry", desc := "(I)I" } : Jvm.MethodName) prog_13_method_86_code (5 : Nat) (Option.some Jvm.ClassFile.FieldType.int)) ∈ GT := GT_m (ck7 (m8 (m8 (m8 (m8 (m8 (m8 (m8 (m8 (m8 (m8 (m8 (m8 (m8 (m8 (m8 (m8 (m8 (m8 (m8 (m8 (m8 (m8 (m8 (m8 (m8 (m8 (m8 (m8 (m8 (List.Mem.tail _ (List.Mem.tail _ (List.Mem.tail _ (List.Mem.head _)))))))))))))))))))))))))))))))))) rfl
set_option maxRecDepth 4000 in
theorem tw1676 : (Jvm.Cond.methodLink "OneBackModel" (423 : Nat) ({ cls := "OneBackModel", name := "carryGood", desc := "(I)I" } : Jvm.MethodName)) ∈ GT := GT_m (ck7 (m8 (m8 (m8 (m8 (m8 (m8 (m8 (m8 (m8 (m8 (m8 (m8 (m8 (m8 (m8 (m8 (m8 (m8 (m8 (m8 (m8 (m8 (m8 (m8 (m8 (m8 (m8 (m8 (m8 (List.Mem.tail _ (List.Mem.tail _ (List.Mem.tail _ (List.Mem.tail _ (List.Mem.head _))))))))))))))))))))))))))))))))))) rfl
set_option maxRecDepth 4000 in
theorem tw1678 : (Jvm.Cond.instanceMethod ({ cls := "OneBackModel", name := "carryGood", desc := "(I)I" } : Jvm.MethodName)) ∈ GT := GT_m (ck7 (m8 (m8 (m8 (m8 (m8 (m8 (m8 (m8 (m8 (m8 (m8 (m8 (m8 (m8 (m8 (m8 (m8 (m8 (m8 (m8 (m8 (m8 (m8 (m8 (m8 (m8 (m8 (m8 (m8 (List.Mem.tail _ (List.Mem.tail _ (List.Mem.tail _ (List.Mem.tail _ (List.Mem.tail _ (List.Mem.tail _ (List.Mem.head _))))))))))))))))))))))))))))))))))))) rfl
set_option maxRecDepth 4000 in
theorem tw1679 : (Jvm.Cond.code ({ cls := "OneBackModel", name := "carryGood", desc := "(I)I" } : Jvm.MethodName) prog_13_method_85_code (3 : Nat) (Option.some Jvm.ClassFile.FieldType.int)) ∈ GT := GT_m (ck7 (m8 (m8 (m8 (m8 (m8 (m8 (m8 (m8 (m8 (m8 (m8 (m8 (m8 (m8 (m8 (m8 (m8 (m8 (m8 (m8 (m8 (m8 (m8 (m8 (m8 (m8 (m8 (m8 (m8 (List.Mem.tail _ (List.Mem.tail _ (List.Mem.tail _ (List.Mem.tail _ (List.Mem.tail _ (List.Mem.tail _ (List.Mem.tail _ (List.Mem.head _)))))))))))))))))))))))))))))))))))))) rfl
set_option maxRecDepth 4000 in
theorem tw1680 : (Jvm.Cond.constant "OneBackModel" (417 : Nat) (1000000 : Int32)) ∈ GT := GT_m (ck8 (List.Mem.head _)) rfl
set_option maxRecDepth 4000 in
theorem tw1681 : (Jvm.Cond.methodLink "OneBackModel" (420 : Nat) ({ cls := "OneBackModel", name := "carryOn", desc := "(II)V" } : Jvm.MethodName)) ∈ GT := GT_m (ck8 (List.Mem.tail _ (List.Mem.head _))) rfl
set_option maxRecDepth 4000 in
theorem tw1683 : (Jvm.Cond.instanceMethod ({ cls := "OneBackModel", name := "carryOn", desc := "(II)V" } : Jvm.MethodName)) ∈ GT := GT_m (ck8 (List.Mem.tail _ (List.Mem.tail _ (List.Mem.tail _ (List.Mem.head _))))) rfl
set_option maxRecDepth 4000 in
theorem tw1684 : (Jvm.Cond.code ({ cls := "OneBackModel", name := "carryOn", desc := "(II)V" } : Jvm.MethodName) prog_13_method_84_code (6 : Nat) (Option.none : Option Jvm.ClassFile.FieldType)) ∈ GT := GT_m (ck8 (List.Mem.tail _ (List.Mem.tail _ (List.Mem.tail _ (List.Mem.tail _ (List.Mem.head _)))))) rfl
set_option maxRecDepth 4000 in
theorem tw1685 : (Jvm.Cond.methodLink "OneBackModel" (418 : Nat) ({ cls := "OneBackModel", name := "size", desc := "(I)I" } : Jvm.MethodName)) ∈ GT := GT_m (ck8 (List.Mem.tail _ (List.Mem.tail _ (List.Mem.tail _ (List.Mem.tail _ (List.Mem.tail _ (List.Mem.head _))))))) rfl
set_option maxRecDepth 4000 in
theorem tw1686 : (Jvm.Cond.static ({ cls := "OneBackModel", name := "size", desc := "(I)I" } : Jvm.MethodName)) ∈ GT := GT_m (ck8 (List.Mem.tail _ (List.Mem.tail _ (List.Mem.tail _ (List.Mem.tail _ (List.Mem.tail _ (List.Mem.tail _ (List.Mem.head _)))))))) rfl
set_option maxRecDepth 4000 in
theorem tw1687 : (Jvm.Cond.code ({ cls := "OneBackModel", name := "size", desc := "(I)I" } : Jvm.MethodName) prog_13_method_7_code (1 : Nat) (Option.some Jvm.ClassFile.FieldType.int)) ∈ GT := GT_m (ck8 (List.Mem.tail _ (List.Mem.tail _ (List.Mem.tail _ (List.Mem.tail _ (List.Mem.tail _ (List.Mem.tail _ (List.Mem.tail _ (List.Mem.head _))))))))) rfl
set_option maxRecDepth 4000 in
theorem tw1688 : (Jvm.Cond.methodLink "OneBackLaw" (74 : Nat) ({ cls := "OneBackModel", name := "round", desc := "(II)I" } : Jvm.MethodName)) ∈ GT := GT_m (ck8 (m8 (List.Mem.head _))) rfl
set_option maxRecDepth 4000 in
theorem tw1689 : (Jvm.Cond.instanceMethod ({ cls := "OneBackModel", name := "round", desc := "(II)I" } : Jvm.MethodName)) ∈ GT := GT_m (ck8 (m8 (List.Mem.tail _ (List.Mem.head _)))) rfl
set_option maxRecDepth 4000 in
theorem tw1690 : (Jvm.Cond.selects "OneBackModel" ({ cls := "OneBackModel", name := "round", desc := "(II)I" } : Jvm.MethodName) ({ cls := "OneBackModel", name := "round", desc := "(II)I" } : Jvm.MethodName)) ∈ GT := GT_m (ck8 (m8 (List.Mem.tail _ (List.Mem.tail _ (List.Mem.head _))))) rfl
set_option maxRecDepth 4000 in
theorem tw1691 : (Jvm.Cond.code ({ cls := "OneBackModel", name := "round", desc := "(II)I" } : Jvm.MethodName) prog_13_method_89_code (6 : Nat) (Option.some Jvm.ClassFile.FieldType.int)) ∈ GT := GT_m (ck8 (m8 (List.Mem.tail _ (List.Mem.tail _ (List.Mem.tail _ (List.Mem.head _)))))) rfl
set_option maxRecDepth 4000 in
theorem tw1692 : (Jvm.Cond.methodLink "OneBackModel" (426 : Nat) ({ cls := "OneBackModel", name := "roundOf", desc := "(I)I" } : Jvm.MethodName)) ∈ GT := GT_m (ck8 (m8 (List.Mem.tail _ (List.Mem.tail _ (List.Mem.tail _ (List.Mem.tail _ (List.Mem.head _))))))) rfl
set_option maxRecDepth 4000 in
theorem tw1694 : (Jvm.Cond.instanceMethod ({ cls := "OneBackModel", name := "roundOf", desc := "(I)I" } : Jvm.MethodName)) ∈ GT := GT_m (ck8 (m8 (List.Mem.tail _ (List.Mem.tail _ (List.Mem.tail _ (List.Mem.tail _ (List.Mem.tail _ (List.Mem.tail _ (List.Mem.head _))))))))) rfl
set_option maxRecDepth 4000 in
theorem tw1695 : (Jvm.Cond.code ({ cls := "OneBackModel", name := "roundOf", desc := "(I)I" } : Jvm.MethodName) prog_13_method_87_code (4 : Nat) (Option.some Jvm.ClassFile.FieldType.int)) ∈ GT := GT_m (ck8 (m8 (List.Mem.tail _ (List.Mem.tail _ (List.Mem.tail _ (List.Mem.tail _ (List.Mem.tail _ (List.Mem.tail _ (List.Mem.tail _ (List.Mem.head _)))))))))) rfl
set_option maxRecDepth 4000 in
theorem tw1696 : (Jvm.Cond.methodLink "OneBackModel" (429 : Nat) ({ cls := "OneBackModel", name := "common", desc := "(II)I" } : Jvm.MethodName)) ∈ GT := GT_m (ck8 (m8 (m8 (List.Mem.head _)))) rfl
set_option maxRecDepth 4000 in
theorem tw1697 : (Jvm.Cond.static ({ cls := "OneBackModel", name := "common", desc := "(II)I" } : Jvm.MethodName)) ∈ GT := GT_m (ck8 (m8 (m8 (List.Mem.tail _ (List.Mem.head _))))) rfl
set_option maxRecDepth 4000 in
theorem tw1698 : (Jvm.Cond.code ({ cls := "OneBackModel", name := "common", desc := "(II)I" } : Jvm.MethodName) prog_13_method_88_code (5 : Nat) (Option.some Jvm.ClassFile.FieldType.int)) ∈ GT := GT_m (ck8 (m8 (m8 (List.Mem.tail _ (List.Mem.tail _ (List.Mem.head _)))))) rfl
set_option maxRecDepth 4000 in
theorem tw1699 : (Jvm.Cond.methodLink "OneBackLaw" (78 : Nat) ({ cls := "OneBackModel", name := "meets", desc := "(III)I" } : Jvm.MethodName)) ∈ GT := GT_m (ck8 (m8 (m8 (List.Mem.tail _ (List.Mem.tail _ (List.Mem.tail _ (List.Mem.head _))))))) rfl
set_option maxRecDepth 4000 in
theorem tw1700 : (Jvm.Cond.instanceMethod ({ cls := "OneBackModel", name := "meets", desc := "(III)I" } : Jvm.MethodName)) ∈ GT := GT_m (ck8 (m8 (m8 (List.Mem.tail _ (List.Mem.tail _ (List.Mem.tail _ (List.Mem.tail _ (List.Mem.head _)))))))) rfl
set_option maxRecDepth 4000 in
theorem tw1701 : (Jvm.Cond.selects "OneBackModel" ({ cls := "OneBackModel", name := "meets", desc := "(III)I" } : Jvm.MethodName) ({ cls := "OneBackModel", name := "meets", desc := "(III)I" } : Jvm.MethodName)) ∈ GT := GT_m (ck8 (m8 (m8 (List.Mem.tail _ (List.Mem.tail _ (List.Mem.tail _ (List.Mem.tail _ (List.Mem.tail _ (List.Mem.head _))))))))) rfl
set_option maxRecDepth 4000 in
theorem tw1702 : (Jvm.Cond.code ({ cls := "OneBackModel", name := "meets", desc := "(III)I" } : Jvm.MethodName) prog_13_method_90_code (7 : Nat) (Option.some Jvm.ClassFile.FieldType.int)) ∈ GT := GT_m (ck8 (m8 (m8 (List.Mem.tail _ (List.Mem.tail _ (List.Mem.tail _ (List.Mem.tail _ (List.Mem.tail _ (List.Mem.tail _ (List.Mem.head _)))))))))) rfl
set_option maxRecDepth 4000 in
theorem tw1703 : (Jvm.Cond.methodLink "OneBackLaw" (82 : Nat) ({ cls := "OneBackModel", name := "sight", desc := "(II)I" } : Jvm.MethodName)) ∈ GT := GT_m (ck8 (m8 (m8 (List.Mem.tail _ (List.Mem.tail _ (List.Mem.tail _ (List.Mem.tail _ (List.Mem.tail _ (List.Mem.tail _ (List.Mem.tail _ (List.Mem.head _))))))))))) rfl
set_option maxRecDepth 4000 in
theorem tw1704 : (Jvm.Cond.instanceMethod ({ cls := "OneBackModel", name := "sight", desc := "(II)I" } : Jvm.MethodName)) ∈ GT := GT_m (ck8 (m8 (m8 (m8 (List.Mem.head _))))) rfl
set_option maxRecDepth 4000 in
theorem tw1705 : (Jvm.Cond.selects "OneBackModel" ({ cls := "OneBackModel", name := "sight", desc := "(II)I" } : Jvm.MethodName) ({ cls := "OneBackModel", name := "sight", desc := "(II)I" } : Jvm.MethodName)) ∈ GT := GT_m (ck8 (m8 (m8 (m8 (List.Mem.tail _ (List.Mem.head _)))))) rfl
set_option maxRecDepth 4000 in
theorem tw1706 : (Jvm.Cond.code ({ cls := "OneBackModel", name := "sight", desc := "(II)I" } : Jvm.MethodName) prog_13_method_95_code (3 : Nat) (Option.some Jvm.ClassFile.FieldType.int)) ∈ GT := GT_m (ck8 (m8 (m8 (m8 (List.Mem.tail _ (List.Mem.tail _ (List.Mem.head _))))))) rfl
set_option maxRecDepth 4000 in
theorem tw1707 : (Jvm.Cond.methodLink "OneBackModel" (435 : Nat) ({ cls := "OneBackModel", name := "hasSight", desc := "(I)Z" } : Jvm.MethodName)) ∈ GT := GT_m (ck8 (m8 (m8 (m8 (List.Mem.tail _ (List.Mem.tail _ (List.Mem.tail _ (List.Mem.head _)))))))) rfl
set_option maxRecDepth 4000 in
theorem tw1709 : (Jvm.Cond.instanceMethod ({ cls := "OneBackModel", name := "hasSight", desc := "(I)Z" } : Jvm.MethodName)) ∈ GT := GT_m (ck8 (m8 (m8 (m8 (List.Mem.tail _ (List.Mem.tail _ (List.Mem.tail _ (List.Mem.tail _ (List.Mem.tail _ (List.Mem.head _)))))))))) rfl
set_option maxRecDepth 4000 in
theorem tw1710 : (Jvm.Cond.code ({ cls := "OneBackModel", name := "hasSight", desc := "(I)Z" } : Jvm.MethodName) prog_13_method_94_code (2 : Nat) (Option.some Jvm.ClassFile.FieldType.boolean)) ∈ GT := GT_m (ck8 (m8 (m8 (m8 (List.Mem.tail _ (List.Mem.tail _ (List.Mem.tail _ (List.Mem.tail _ (List.Mem.tail _ (List.Mem.tail _ (List.Mem.head _))))))))))) rfl
set_option maxRecDepth 4000 in
theorem tw1711 : (Jvm.Cond.methodLink "OneBackModel" (438 : Nat) ({ cls := "OneBackModel", name := "gifts", desc := "()I" } : Jvm.MethodName)) ∈ GT := GT_m (ck8 (m8 (m8 (m8 (List.Mem.tail _ (List.Mem.tail _ (List.Mem.tail _ (List.Mem.tail _ (List.Mem.tail _ (List.Mem.tail _ (List.Mem.tail _ (List.Mem.head _)))))))))))) rfl
set_option maxRecDepth 4000 in
theorem tw1713 : (Jvm.Cond.instanceMethod ({ cls := "OneBackModel", name := "gifts", desc := "()I" } : Jvm.MethodName)) ∈ GT := GT_m (ck8 (m8 (m8 (m8 (m8 (List.Mem.tail _ (List.Mem.head _))))))) rfl
set_option maxRecDepth 4000 in
theorem tw1714 : (Jvm.Cond.code ({ cls := "OneBackModel", name := "gifts", desc := "()I" } : Jvm.MethodName) prog_13_method_91_code (1 : Nat) (Option.some Jvm.ClassFile.FieldType.int)) ∈ GT := GT_m (ck8 (m8 (m8 (m8 (m8 (List.Mem.tail _ (List.Mem.tail _ (List.Mem.head _)))))))) rfl
set_option maxRecDepth 4000 in
theorem tw1715 : (Jvm.Cond.methodLink "OneBackModel" (441 : Nat) ({ cls := "OneBackModel", name := "giftOf", desc := "(II)I" } : Jvm.MethodName)) ∈ GT := GT_m (ck8 (m8 (m8 (m8 (m8 (List.Mem.tail _ (List.Mem.tail _ (List.Mem.tail _ (List.Mem.head _))))))))) rfl
set_option maxRecDepth 4000 in
theorem tw1717 : (Jvm.Cond.instanceMethod ({ cls := "OneBackModel", name := "giftOf", desc := "(II)I" } : Jvm.MethodName)) ∈ GT := GT_m (ck8 (m8 (m8 (m8 (m8 (List.Mem.tail _ (List.Mem.tail _ (List.Mem.tail _ (List.Mem.tail _ (List.Mem.tail _ (List.Mem.head _))))))))))) rfl
set_option maxRecDepth 4000 in
theorem tw1718 : (Jvm.Cond.code ({ cls := "OneBackModel", name := "giftOf", desc := "(II)I" } : Jvm.MethodName) prog_13_method_92_code (3 : Nat) (Option.some Jvm.ClassFile.FieldType.int)) ∈ GT := GT_m (ck8 (m8 (m8 (m8 (m8 (List.Mem.tail _ (List.Mem.tail _ (List.Mem.tail _ (List.Mem.tail _ (List.Mem.tail _ (List.Mem.tail _ (List.Mem.head _)))))))))))) rfl
set_option maxRecDepth 4000 in
theorem tw1719 : (Jvm.Cond.methodLink "OneBackModel" (444 : Nat) ({ cls := "OneBackModel", name := "left", desc := "(II)I" } : Jvm.MethodName)) ∈ GT := GT_m (ck8 (m8 (m8 (m8 (m8 (List.Mem.tail _ (List.Mem.tail _ (List.Mem.tail _ (List.Mem.tail _ (List.Mem.tail _ (List.Mem.tail _ (List.Mem.tail _ (List.Mem.head _))))))))))))) rfl
set_option maxRecDepth 4000 in
theorem tw1721 : (Jvm.Cond.instanceMethod ({ cls := "OneBackModel", name := "left", desc := "(II)I" } : Jvm.MethodName)) ∈ GT := GT_m (ck8 (m8 (m8 (m8 (m8 (m8 (List.Mem.tail _ (List.Mem.head _)))))))) rfl
set_option maxRecDepth 4000 in
theorem tw1722 : (Jvm.Cond.code ({ cls := "OneBackModel", name := "left", desc := "(II)I" } : Jvm.MethodName) prog_13_method_93_code (3 : Nat) (Option.some Jvm.ClassFile.FieldType.int)) ∈ GT := GT_m (ck8 (m8 (m8 (m8 (m8 (m8 (List.Mem.tail _ (List.Mem.tail _ (List.Mem.head _))))))))) rfl
set_option maxRecDepth 4000 in
theorem tw1723 : (Jvm.Cond.methodLink "OneBackLaw" (86 : Nat) ({ cls := "OneBackModel", name := "hands", desc := "(IIIII)I" } : Jvm.MethodName)) ∈ GT := GT_m (ck8 (m8 (m8 (m8 (m8 (m8 (List.Mem.tail _ (List.Mem.tail _ (List.Mem.tail _ (List.Mem.head _)))))))))) rfl
set_option maxRecDepth 4000 in
theorem tw1724 : (Jvm.Cond.instanceMethod ({ cls := "OneBackModel", name := "hands", desc := "(IIIII)I" } : Jvm.MethodName)) ∈ GT := GT_m (ck8 (m8 (m8 (m8 (m8 (m8 (List.Mem.tail _ (List.Mem.tail _ (List.Mem.tail _ (List.Mem.tail _ (List.Mem.head _))))))))))) rfl
set_option maxRecDepth 4000 in
theorem tw1725 : (Jvm.Cond.selects "OneBackModel" ({ cls := "OneBackModel", name := "hands", desc := "(IIIII)I" } : Jvm.MethodName) ({ cls := "OneBackModel", name := "hands", desc := "(IIIII)I" } : Jvm.MethodName)) ∈ GT := GT_m (ck8 (m8 (m8 (m8 (m8 (m8 (List.Mem.tail _ (List.Mem.tail _ (List.Mem.tail _ (List.Mem.tail _ (List.Mem.tail _ (List.Mem.head _)))))))))))) rfl
set_option maxRecDepth 4000 in
theorem tw1726 : (Jvm.Cond.code ({ cls := "OneBackModel", name := "hands", desc := "(IIIII)I" } : Jvm.MethodName) prog_13_method_98_code (9 : Nat) (Option.some Jvm.ClassFile.FieldType.int)) ∈ GT := GT_m (ck8 (m8 (m8 (m8 (m8 (m8 (List.Mem.tail _ (List.Mem.tail _ (List.Mem.tail _ (List.Mem.tail _ (List.Mem.tail _ (List.Mem.tail _ (List.Mem.head _))))))))))))) rfl
set_option maxRecDepth 4000 in
theorem tw1727 : (Jvm.Cond.methodLink "OneBackModel" (450 : Nat) ({ cls := "OneBackModel", name := "canBe", desc := "(I)Z" } : Jvm.MethodName)) ∈ GT := GT_m (ck8 (m8 (m8 (m8 (m8 (m8 (List.Mem.tail _ (List.Mem.tail _ (List.Mem.tail _ (List.Mem.tail _ (List.Mem.tail _ (List.Mem.tail _ (List.Mem.tail _ (List.Mem.head _)))))))))))))) rfl
set_option maxRecDepth 4000 in
theorem tw1729 : (Jvm.Cond.instanceMethod ({ cls := "OneBackModel", name := "canBe", desc := "(I)Z" } : Jvm.MethodName)) ∈ GT := GT_m (ck8 (m8 (m8 (m8 (m8 (m8 (m8 (List.Mem.tail _ (List.Mem.head _))))))))) rfl
set_option maxRecDepth 4000 in
theorem tw1730 : (Jvm.Cond.code ({ cls := "OneBackModel", name := "canBe", desc := "(I)Z" } : Jvm.MethodName) prog_13_method_97_code (7 : Nat) (Option.some Jvm.ClassFile.FieldType.boolean)) ∈ GT := GT_m (ck8 (m8 (m8 (m8 (m8 (m8 (m8 (List.Mem.tail _ (List.Mem.tail _ (List.Mem.head _)))))))))) rfl
set_option maxRecDepth 4000 in
theorem tw1731 : (Jvm.Cond.methodLink "OneBackModel" (447 : Nat) ({ cls := "OneBackModel", name := "handOf", desc := "(II)I" } : Jvm.MethodName)) ∈ GT := GT_m (ck8 (m8 (m8 (m8 (m8 (m8 (m8 (List.Mem.tail _ (List.Mem.tail _ (List.Mem.tail _ (List.Mem.head _))))))))))) rfl
set_option maxRecDepth 4000 in
theorem tw1732 : (Jvm.Cond.static ({ cls := "OneBackModel", name := "handOf", desc := "(II)I" } : Jvm.MethodName)) ∈ GT := GT_m (ck8 (m8 (m8 (m8 (m8 (m8 (m8 (List.Mem.tail _ (List.Mem.tail _ (List.Mem.tail _ (List.Mem.tail _ (List.Mem.head _)))))))))))) rfl
set_option maxRecDepth 4000 in
theorem tw1733 : (Jvm.Cond.code ({ cls := "OneBackModel", name := "handOf", desc := "(II)I" } : Jvm.MethodName) prog_13_method_96_code (2 : Nat) (Option.some Jvm.ClassFile.FieldType.int)) ∈ GT := GT_m (ck8 (m8 (m8 (m8 (m8 (m8 (m8 (List.Mem.tail _ (List.Mem.tail _ (List.Mem.tail _ (List.Mem.tail _ (List.Mem.tail _ (List.Mem.head _))))))))))))) rfl
set_option maxRecDepth 4000 in
theorem tw1734 : (Jvm.Cond.methodLink "OneBackLaw" (91 : Nat) ({ cls := "OneBackModel", name := "moved", desc := "(IIZ)I" } : Jvm.MethodName)) ∈ GT := GT_m (ck8 (m8 (m8 (m8 (m8 (m8 (m8 (List.Mem.tail _ (List.Mem.tail _ (List.Mem.tail _ (List.Mem.tail _ (List.Mem.tail _ (List.Mem.tail _ (List.Mem.head _)))))))))))))) rfl
set_option maxRecDepth 4000 in
theorem tw1735 : (Jvm.Cond.instanceMethod ({ cls := "OneBackModel", name := "moved", desc := "(IIZ)I" } : Jvm.MethodName)) ∈ GT := GT_m (ck8 (m8 (m8 (m8 (m8 (m8 (m8 (List.Mem.tail _ (List.Mem.tail _ (List.Mem.tail _ (List.Mem.tail _ (List.Mem.tail _ (List.Mem.tail _ (List.Mem.tail _ (List.Mem.head _))))))))))))))) rfl
set_option maxRecDepth 4000 in
theorem tw1736 : (Jvm.Cond.selects "OneBackModel" ({ cls := "OneBackModel", name := "moved", desc := "(IIZ)I" } : Jvm.MethodName) ({ cls := "OneBackModel", name := "moved", desc := "(IIZ)I" } : Jvm.MethodName)) ∈ GT := GT_m (ck8 (m8 (m8 (m8 (m8 (m8 (m8 (m8 (List.Mem.head _))))))))) rfl
set_option maxRecDepth 4000 in
theorem tw1737 : (Jvm.Cond.code ({ cls := "OneBackModel", name := "moved", desc := "(IIZ)I" } : Jvm.MethodName) prog_13_method_100_code (10 : Nat) (Option.some Jvm.ClassFile.FieldType.int)) ∈ GT := GT_m (ck8 (m8 (m8 (m8 (m8 (m8 (m8 (m8 (List.Mem.tail _ (List.Mem.head _)))))))))) rfl
set_option maxRecDepth 4000 in
theorem tw1738 : (Jvm.Cond.methodLink "OneBackModel" (453 : Nat) ({ cls := "OneBackModel", name := "isToldAll", desc := "(I)Z" } : Jvm.MethodName)) ∈ GT := GT_m (ck8 (m8 (m8 (m8 (m8 (m8 (m8 (m8 (List.Mem.tail _ (List.Mem.tail _ (List.Mem.head _))))))))))) rfl
set_option maxRecDepth 4000 in
theorem tw1740 : (Jvm.Cond.instanceMethod ({ cls := "OneBackModel", name := "isToldAll", desc := "(I)Z" } : Jvm.MethodName)) ∈ GT := GT_m (ck8 (m8 (m8 (m8 (m8 (m8 (m8 (m8 (List.Mem.tail _ (List.Mem.tail _ (List.Mem.tail _ (List.Mem.tail _ (List.Mem.head _))))))))))))) rfl
set_option maxRecDepth 4000 in
theorem tw1741 : (Jvm.Cond.code ({ cls := "OneBackModel", name := "isToldAll", desc := "(I)Z" } : Jvm.MethodName) prog_13_method_99_code (3 : Nat) (Option.some Jvm.ClassFile.FieldType.boolean)) ∈ GT := GT_m (ck8 (m8 (m8 (m8 (m8 (m8 (m8 (m8 (List.Mem.tail _ (List.Mem.tail _ (List.Mem.tail _ (List.Mem.tail _ (List.Mem.tail _ (List.Mem.head _)))))))))))))) rfl
set_option maxRecDepth 4000 in
theorem tw1742 : (Jvm.Cond.methodLink "OneBackLaw" (95 : Nat) ({ cls := "OneBackModel", name := "quit", desc := "(IIIII)I" } : Jvm.MethodName)) ∈ GT := GT_m (ck8 (m8 (m8 (m8 (m8 (m8 (m8 (m8 (List.Mem.tail _ (List.Mem.tail _ (List.Mem.tail _ (List.Mem.tail _ (List.Mem.tail _ (List.Mem.tail _ (List.Mem.head _))))))))))))))) rfl
set_option maxRecDepth 4000 in
theorem tw1743 : (Jvm.Cond.instanceMethod ({ cls := "OneBackModel", name := "quit", desc := "(IIIII)I" } : Jvm.MethodName)) ∈ GT := GT_m (ck8 (m8 (m8 (m8 (m8 (m8 (m8 (m8 (List.Mem.tail _ (List.Mem.tail _ (List.Mem.tail _ (List.Mem.tail _ (List.Mem.tail _ (List.Mem.tail _ (List.Mem.tail _ (List.Mem.head _)))))))))))))))) rfl
set_option maxRecDepth 4000 in
theorem tw1744 : (Jvm.Cond.selects "OneBackModel" ({ cls := "OneBackModel", name := "quit", desc := "(IIIII)I" } : Jvm.MethodName) ({ cls := "OneBackModel", name := "quit", desc := "(IIIII)I" } : Jvm.MethodName)) ∈ GT := GT_m (ck8 (m8 (m8 (m8 (m8 (m8 (m8 (m8 (m8 (List.Mem.head _)))))))))) rfl
set_option maxRecDepth 4000 in
theorem tw1745 : (Jvm.Cond.code ({ cls := "OneBackModel", name := "quit", desc := "(IIIII)I" } : Jvm.MethodName) prog_13_method_103_code (7 : Nat) (Option.some Jvm.ClassFile.FieldType.int)) ∈ GT := GT_m (ck8 (m8 (m8 (m8 (m8 (m8 (m8 (m8 (m8 (List.Mem.tail _ (List.Mem.head _))))))))))) rfl
set_option maxRecDepth 4000 in
theorem tw1746 : (Jvm.Cond.methodLink "OneBackModel" (459 : Nat) ({ cls := "OneBackModel", name := "giftsBy", desc := "(IIII)I" } : Jvm.MethodName)) ∈ GT := GT_m (ck8 (m8 (m8 (m8 (m8 (m8 (m8 (m8 (m8 (List.Mem.tail _ (List.Mem.tail _ (List.Mem.head _)))))))))))) rfl
set_option maxRecDepth 4000 in
theorem tw1748 : (Jvm.Cond.instanceMethod ({ cls := "OneBackModel", name := "giftsBy", desc := "(IIII)I" } : Jvm.MethodName)) ∈ GT := GT_m (ck8 (m8 (m8 (m8 (m8 (m8 (m8 (m8 (m8 (List.Mem.tail _ (List.Mem.tail _ (List.Mem.tail _ (List.Mem.tail _ (List.Mem.head _)))))))))))))) rfl
set_option maxRecDepth 4000 in
theorem tw1749 : (Jvm.Cond.code ({ cls := "OneBackModel", name := "giftsBy", desc := "(IIII)I" } : Jvm.MethodName) prog_13_method_102_code (9 : Nat) (Option.some Jvm.ClassFile.FieldType.int)) ∈ GT := GT_m (ck8 (m8 (m8 (m8 (m8 (m8 (m8 (m8 (m8 (List.Mem.tail _ (List.Mem.tail _ (List.Mem.tail _ (List.Mem.tail _ (List.Mem.tail _ (List.Mem.head _))))))))))))))) rfl
set_option maxRecDepth 4000 in
theorem tw1750 : (Jvm.Cond.methodLink "OneBackModel" (456 : Nat) ({ cls := "OneBackModel", name := "doubles", desc := "(II)I" } : Jvm.MethodName)) ∈ GT := GT_m (ck8 (m8 (m8 (m8 (m8 (m8 (m8 (m8 (m8 (List.Mem.tail _ (List.Mem.tail _ (List.Mem.tail _ (List.Mem.tail _ (List.Mem.tail _ (List.Mem.tail _ (List.Mem.head _)))))))))))))))) rfl
set_option maxRecDepth 4000 in
theorem tw1752 : (Jvm.Cond.instanceMethod ({ cls := "OneBackModel", name := "doubles", desc := "(II)I" } : Jvm.MethodName)) ∈ GT := GT_m (ck8 (m8 (m8 (m8 (m8 (m8 (m8 (m8 (m8 (m8 (List.Mem.head _))))))))))) rfl
set_option maxRecDepth 4000 in
theorem tw1753 : (Jvm.Cond.code ({ cls := "OneBackModel", name := "doubles", desc := "(II)I" } : Jvm.MethodName) prog_13_method_101_code (5 : Nat) (Option.some Jvm.ClassFile.FieldType.int)) ∈ GT := GT_m (ck8 (m8 (m8 (m8 (m8 (m8 (m8 (m8 (m8 (m8 (List.Mem.tail _ (List.Mem.head _)))))))))))) rfl
set_option maxRecDepth 4000 in
theorem tw1754 : (Jvm.Cond.methodLink "OneBackLaw" (100 : Nat) ({ cls := "OneBackModel", name := "alms", desc := "(IZ)I" } : Jvm.MethodName)) ∈ GT := GT_m (ck8 (m8 (m8 (m8 (m8 (m8 (m8 (m8 (m8 (m8 (List.Mem.tail _ (List.Mem.tail _ (List.Mem.head _))))))))))))) rfl
set_option maxRecDepth 4000 in
theorem tw1755 : (Jvm.Cond.instanceMethod ({ cls := "OneBackModel", name := "alms", desc := "(IZ)I" } : Jvm.MethodName)) ∈ GT := GT_m (ck8 (m8 (m8 (m8 (m8 (m8 (m8 (m8 (m8 (m8 (List.Mem.tail _ (List.Mem.tail _ (List.Mem.tail _ (List.Mem.head _)))))))))))))) rfl
set_option maxRecDepth 4000 in
theorem tw1756 : (Jvm.Cond.selects "OneBackModel" ({ cls := "OneBackModel", name := "alms", desc := "(IZ)I" } : Jvm.MethodName) ({ cls := "OneBackModel", name := "alms", desc := "(IZ)I" } : Jvm.MethodName)) ∈ GT := GT_m (ck8 (m8 (m8 (m8 (m8 (m8 (m8 (m8 (m8 (m8 (List.Mem.tail _ (List.Mem.tail _ (List.Mem.tail _ (List.Mem.tail _ (List.Mem.head _))))))))))))))) rfl
set_option maxRecDepth 4000 in
theorem tw1757 : (Jvm.Cond.code ({ cls := "OneBackModel", name := "alms", desc := "(IZ)I" } : Jvm.MethodName) prog_13_method_104_code (5 : Nat) (Option.some Jvm.ClassFile.FieldType.int)) ∈ GT := GT_m (ck8 (m8 (m8 (m8 (m8 (m8 (m8 (m8 (m8 (m8 (List.Mem.tail _ (List.Mem.tail _ (List.Mem.tail _ (List.Mem.tail _ (List.Mem.tail _ (List.Mem.head _)))))))))))))))) rfl
set_option maxRecDepth 4000 in
theorem tw1758 : (Jvm.Cond.methodLink "OneBackLaw" (104 : Nat) ({ cls := "OneBackModel", name := "prize", desc := "(III)I" } : Jvm.MethodName)) ∈ GT := GT_m (ck8 (m8 (m8 (m8 (m8 (m8 (m8 (m8 (m8 (m8 (List.Mem.tail _ (List.Mem.tail _ (List.Mem.tail _ (List.Mem.tail _ (List.Mem.tail _ (List.Mem.tail _ (List.Mem.head _))))))))))))))))) rfl
set_option maxRecDepth 4000 in
theorem tw1759 : (Jvm.Cond.instanceMethod ({ cls := "OneBackModel", name := "prize", desc := "(III)I" } : Jvm.MethodName)) ∈ GT := GT_m (ck8 (m8 (m8 (m8 (m8 (m8 (m8 (m8 (m8 (m8 (List.Mem.tail _ (List.Mem.tail _ (List.Mem.tail _ (List.Mem.tail _ (List.Mem.tail _ (List.Mem.tail _ (List.Mem.tail _ (List.Mem.head _)))))))))))))))))) rfl
set_option maxRecDepth 4000 in
theorem tw1760 : (Jvm.Cond.selects "OneBackModel" ({ cls := "OneBackModel", name := "prize", desc := "(III)I" } : Jvm.MethodName) ({ cls := "OneBackModel", name := "prize", desc := "(III)I" } : Jvm.MethodName)) ∈ GT := GT_m (ck8 (m8 (m8 (m8 (m8 (m8 (m8 (m8 (m8 (m8 (m8 (List.Mem.head _)))))))))))) rfl
set_option maxRecDepth 4000 in
theorem tw1761 : (Jvm.Cond.code ({ cls := "OneBackModel", name := "prize", desc := "(III)I" } : Jvm.MethodName) prog_13_method_107_code (4 : Nat) (Option.some Jvm.ClassFile.FieldType.int)) ∈ GT := GT_m (ck8 (m8 (m8 (m8 (m8 (m8 (m8 (m8 (m8 (m8 (m8 (List.Mem.tail _ (List.Mem.head _))))))))))))) rfl
set_option maxRecDepth 4000 in
theorem tw1762 : (Jvm.Cond.methodLink "OneBackModel" (466 : Nat) ({ cls := "OneBackModel", name := "prizeOf", desc := "(II)I" } : Jvm.MethodName)) ∈ GT := GT_m (ck8 (m8 (m8 (m8 (m8 (m8 (m8 (m8 (m8 (m8 (m8 (List.Mem.tail _ (List.Mem.tail _ (List.Mem.head _)))))))))))))) rfl
set_option maxRecDepth 4000 in
theorem tw1764 : (Jvm.Cond.instanceMethod ({ cls := "OneBackModel", name := "prizeOf", desc := "(II)I" } : Jvm.MethodName)) ∈ GT := GT_m (ck8 (m8 (m8 (m8 (m8 (m8 (m8 (m8 (m8 (m8 (m8 (List.Mem.tail _ (List.Mem.tail _ (List.Mem.tail _ (List.Mem.tail _ (List.Mem.head _)))))))))))))))) rfl
set_option maxRecDepth 4000 in
theorem tw1765 : (Jvm.Cond.code ({ cls := "OneBackModel", name := "prizeOf", desc := "(II)I" } : Jvm.MethodName) prog_13_method_106_code (3 : Nat) (Option.some Jvm.ClassFile.FieldType.int)) ∈ GT := GT_m (ck8 (m8 (m8 (m8 (m8 (m8 (m8 (m8 (m8 (m8 (m8 (List.Mem.tail _ (List.Mem.tail _ (List.Mem.tail _ (List.Mem.tail _ (List.Mem.tail _ (List.Mem.head _))))))))))))))))) rfl
set_option maxRecDepth 4000 in
theorem tw1766 : (Jvm.Cond.methodLink "OneBackModel" (463 : Nat) ({ cls := "OneBackModel", name := "worthOf", desc := "(I)I" } : Jvm.MethodName)) ∈ GT := GT_m (ck8 (m8 (m8 (m8 (m8 (m8 (m8 (m8 (m8 (m8 (m8 (List.Mem.tail _ (List.Mem.tail _ (List.Mem.tail _ (List.Mem.tail _ (List.Mem.tail _ (List.Mem.tail _ (List.Mem.head _)))))))))))))))))) rfl
set_option maxRecDepth 4000 in
theorem tw1768 : (Jvm.Cond.instanceMethod ({ cls := "OneBackModel", name := "worthOf", desc := "(I)I" } : Jvm.MethodName)) ∈ GT := GT_m (ck8 (m8 (m8 (m8 (m8 (m8 (m8 (m8 (m8 (m8 (m8 (m8 (List.Mem.head _))))))))))))) rfl
set_option maxRecDepth 4000 in
theorem tw1769 : (Jvm.Cond.code ({ cls := "OneBackModel", name := "worthOf", desc := "(I)I" } : Jvm.MethodName) prog_13_method_105_code (4 : Nat) (Option.some Jvm.ClassFile.FieldType.int)) ∈ GT := GT_m (ck8 (m8 (m8 (m8 (m8 (m8 (m8 (m8 (m8 (m8 (m8 (m8 (List.Mem.tail _ (List.Mem.head _)))))))))))))) rfl
set_option maxRecDepth 4000 in
theorem tw1770 : (Jvm.Cond.methodLink "OneBackLaw" (108 : Nat) ({ cls := "OneBackModel", name := "rest", desc := "(II)I" } : Jvm.MethodName)) ∈ GT := GT_m (ck8 (m8 (m8 (m8 (m8 (m8 (m8 (m8 (m8 (m8 (m8 (m8 (List.Mem.tail _ (List.Mem.tail _ (List.Mem.head _))))))))))))))) rfl
set_option maxRecDepth 4000 in
theorem tw1771 : (Jvm.Cond.instanceMethod ({ cls := "OneBackModel", name := "rest", desc := "(II)I" } : Jvm.MethodName)) ∈ GT := GT_m (ck8 (m8 (m8 (m8 (m8 (m8 (m8 (m8 (m8 (m8 (m8 (m8 (List.Mem.tail _ (List.Mem.tail _ (List.Mem.tail _ (List.Mem.head _)))))))))))))))) rfl
set_option maxRecDepth 4000 in
theorem tw1772 : (Jvm.Cond.selects "OneBackModel" ({ cls := "OneBackModel", name := "rest", desc := "(II)I" } : Jvm.MethodName) ({ cls := "OneBackModel", name := "rest", desc := "(II)I" } : Jvm.MethodName)) ∈ GT := GT_m (ck8 (m8 (m8 (m8 (m8 (m8 (m8 (m8 (m8 (m8 (m8 (m8 (List.Mem.tail _ (List.Mem.tail _ (List.Mem.tail _ (List.Mem.tail _ (List.Mem.head _))))))))))))))))) rfl
set_option maxRecDepth 4000 in
theorem tw1773 : (Jvm.Cond.code ({ cls := "OneBackModel", name := "rest", desc := "(II)I" } : Jvm.MethodName) prog_13_method_109_code (5 : Nat) (Option.some Jvm.ClassFile.FieldType.int)) ∈ GT := GT_m (ck8 (m8 (m8 (m8 (m8 (m8 (m8 (m8 (m8 (m8 (m8 (m8 (List.Mem.tail _ (List.Mem.tail _ (List.Mem.tail _ (List.Mem.tail _ (List.Mem.tail _ (List.Mem.head _)))))))))))))))))) rfl
set_option maxRecDepth 4000 in
theorem tw1774 : (Jvm.Cond.methodLink "OneBackModel" (469 : Nat) ({ cls := "OneBackModel", name := "isRest", desc := "(II)Z" } : Jvm.MethodName)) ∈ GT := GT_m (ck8 (m8 (m8 (m8 (m8 (m8 (m8 (m8 (m8 (m8 (m8 (m8 (List.Mem.tail _ (List.Mem.tail _ (List.Mem.tail _ (List.Mem.tail _ (List.Mem.tail _ (List.Mem.tail _ (List.Mem.head _))))))))))))))))))) rfl
set_option maxRecDepth 4000 in
theorem tw1776 : (Jvm.Cond.instanceMethod ({ cls := "OneBackModel", name := "isRest", desc := "(II)Z" } : Jvm.MethodName)) ∈ GT := GT_m (ck8 (m8 (m8 (m8 (m8 (m8 (m8 (m8 (m8 (m8 (m8 (m8 (m8 (List.Mem.head _)))))))))))))) rfl
set_option maxRecDepth 4000 in
theorem tw1777 : (Jvm.Cond.code ({ cls := "OneBackModel", name := "isRest", desc := "(II)Z" } : Jvm.MethodName) prog_13_method_108_code (4 : Nat) (Option.some Jvm.ClassFile.FieldType.boolean)) ∈ GT := GT_m (ck8 (m8 (m8 (m8 (m8 (m8 (m8 (m8 (m8 (m8 (m8 (m8 (m8 (List.Mem.tail _ (List.Mem.head _))))))))))))))) rfl
set_option maxRecDepth 4000 in
theorem tw1778 : (Jvm.Cond.methodLink "OneBackLaw" (112 : Nat) ({ cls := "OneBackModel", name := "share", desc := "(IIZ)I" } : Jvm.MethodName)) ∈ GT := GT_m (ck8 (m8 (m8 (m8 (m8 (m8 (m8 (m8 (m8 (m8 (m8 (m8 (m8 (List.Mem.tail _ (List.Mem.tail _ (List.Mem.head _)))))))))))))))) rfl
set_option maxRecDepth 4000 in
theorem tw1779 : (Jvm.Cond.instanceMethod ({ cls := "OneBackModel", name := "share", desc := "(IIZ)I" } : Jvm.MethodName)) ∈ GT := GT_m (ck8 (m8 (m8 (m8 (m8 (m8 (m8 (m8 (m8 (m8 (m8 (m8 (m8 (List.Mem.tail _ (List.Mem.tail _ (List.Mem.tail _ (List.Mem.head _))))))))))))))))) rfl
set_option maxRecDepth 4000 in
theorem tw1780 : (Jvm.Cond.selects "OneBackModel" ({ cls := "OneBackModel", name := "share", desc := "(IIZ)I" } : Jvm.MethodName) ({ cls := "OneBackModel", name := "share", desc := "(IIZ)I" } : Jvm.MethodName)) ∈ GT := GT_m (ck8 (m8 (m8 (m8 (m8 (m8 (m8 (m8 (m8 (m8 (m8 (m8 (m8 (List.Mem.tail _ (List.Mem.tail _ (List.Mem.tail _ (List.Mem.tail _ (List.Mem.head _)))))))))))))))))) rfl
set_option maxRecDepth 4000 in
theorem tw1781 : (Jvm.Cond.code ({ cls := "OneBackModel", name := "share", desc := "(IIZ)I" } : Jvm.MethodName) prog_13_method_111_code (6 : Nat) (Option.some Jvm.ClassFile.FieldType.int)) ∈ GT := GT_m (ck8 (m8 (m8 (m8 (m8 (m8 (m8 (m8 (m8 (m8 (m8 (m8 (m8 (List.Mem.tail _ (List.Mem.tail _ (List.Mem.tail _ (List.Mem.tail _ (List.Mem.tail _ (List.Mem.head _))))))))))))))))))) rfl
set_option maxRecDepth 4000 in
theorem tw1782 : (Jvm.Cond.methodLink "OneBackModel" (472 : Nat) ({ cls := "OneBackModel", name := "least", desc := "(IIZ)I" } : Jvm.MethodName)) ∈ GT := GT_m (ck8 (m8 (m8 (m8 (m8 (m8 (m8 (m8 (m8 (m8 (m8 (m8 (m8 (List.Mem.tail _ (List.Mem.tail _ (List.Mem.tail _ (List.Mem.tail _ (List.Mem.tail _ (List.Mem.tail _ (List.Mem.head _)))))))))))))))))))) rfl
set_option maxRecDepth 4000 in
theorem tw1783 : (Jvm.Cond.static ({ cls := "OneBackModel", name := "least", desc := "(IIZ)I" } : Jvm.MethodName)) ∈ GT := GT_m (ck8 (m8 (m8 (m8 (m8 (m8 (m8 (m8 (m8 (m8 (m8 (m8 (m8 (List.Mem.tail _ (List.Mem.tail _ (List.Mem.tail _ (List.Mem.tail _ (List.Mem.tail _ (List.Mem.tail _ (List.Mem.tail _ (List.Mem.head _))))))))))))))))))))) rfl
set_option maxRecDepth 4000 in
theorem tw1784 : (Jvm.Cond.code ({ cls := "OneBackModel", name := "least", desc := "(IIZ)I" } : Jvm.MethodName) prog_13_method_110_code (3 : Nat) (Option.some Jvm.ClassFile.FieldType.int)) ∈ GT := GT_m (ck8 (m8 (m8 (m8 (m8 (m8 (m8 (m8 (m8 (m8 (m8 (m8 (m8 (m8 (List.Mem.head _))))))))))))))) rfl
set_option maxRecDepth 4000 in
theorem tw1785 : (Jvm.Cond.methodLink "OneBackLaw" (116 : Nat) ({ cls := "OneBackModel", name := "even", desc := "(II)I" } : Jvm.MethodName)) ∈ GT := GT_m (ck8 (m8 (m8 (m8 (m8 (m8 (m8 (m8 (m8 (m8 (m8 (m8 (m8 (m8 (List.Mem.tail _ (List.Mem.head _)))))))))))))))) rfl
set_option maxRecDepth 4000 in
theorem tw1786 : (Jvm.Cond.instanceMethod ({ cls := "OneBackModel", name := "even", desc := "(II)I" } : Jvm.MethodName)) ∈ GT := GT_m (ck8 (m8 (m8 (m8 (m8 (m8 (m8 (m8 (m8 (m8 (m8 (m8 (m8 (m8 (List.Mem.tail _ (List.Mem.tail _ (List.Mem.head _))))))))))))))))) rfl
set_option maxRecDepth 4000 in
theorem tw1787 : (Jvm.Cond.selects "OneBackModel" ({ cls := "OneBackModel", name := "even", desc := "(II)I" } : Jvm.MethodName) ({ cls := "OneBackModel", name := "even", desc := "(II)I" } : Jvm.MethodName)) ∈ GT := GT_m (ck8 (m8 (m8 (m8 (m8 (m8 (m8 (m8 (m8 (m8 (m8 (m8 (m8 (m8 (List.Mem.tail _ (List.Mem.tail _ (List.Mem.tail _ (List.Mem.head _)))))))))))))))))) rfl
set_option maxRecDepth 4000 in
theorem tw1788 : (Jvm.Cond.code ({ cls := "OneBackModel", name := "even", desc := "(II)I" } : Jvm.MethodName) prog_13_method_112_code (10 : Nat) (Option.some Jvm.ClassFile.FieldType.int)) ∈ GT := GT_m (ck8 (m8 (m8 (m8 (m8 (m8 (m8 (m8 (m8 (m8 (m8 (m8 (m8 (m8 (List.Mem.tail _ (List.Mem.tail _ (List.Mem.tail _ (List.Mem.tail _ (List.Mem.head _))))))))))))))))))) rfl
set_option maxRecDepth 4000 in
theorem tw1789 : (Jvm.Cond.methodLink "OneBackLaw" (120 : Nat) ({ cls := "OneBackModel", name := "drawn", desc := "(IIIII)I" } : Jvm.MethodName)) ∈ GT := GT_m (ck8 (m8 (m8 (m8 (m8 (m8 (m8 (m8 (m8 (m8 (m8 (m8 (m8 (m8 (List.Mem.tail _ (List.Mem.tail _ (List.Mem.tail _ (List.Mem.tail _ (List.Mem.tail _ (List.Mem.head _)))))))))))))))))))) rfl
set_option maxRecDepth 4000 in
theorem tw1790 : (Jvm.Cond.instanceMethod ({ cls := "OneBackModel", name := "drawn", desc := "(IIIII)I" } : Jvm.MethodName)) ∈ GT := GT_m (ck8 (m8 (m8 (m8 (m8 (m8 (m8 (m8 (m8 (m8 (m8 (m8 (m8 (m8 (List.Mem.tail _ (List.Mem.tail _ (List.Mem.tail _ (List.Mem.tail _ (List.Mem.tail _ (List.Mem.tail _ (List.Mem.head _))))))))))))))))))))) rfl
set_option maxRecDepth 4000 in
theorem tw1791 : (Jvm.Cond.selects "OneBackModel" ({ cls := "OneBackModel", name := "drawn", desc := "(IIIII)I" } : Jvm.MethodName) ({ cls := "OneBackModel", name := "drawn", desc := "(IIIII)I" } : Jvm.MethodName)) ∈ GT := GT_m (ck8 (m8 (m8 (m8 (m8 (m8 (m8 (m8 (m8 (m8 (m8 (m8 (m8 (m8 (List.Mem.tail _ (List.Mem.tail _ (List.Mem.tail _ (List.Mem.tail _ (List.Mem.tail _ (List.Mem.tail _ (List.Mem.tail _ (List.Mem.head _)))))))))))))))))))))) rfl
set_option maxRecDepth 4000 in
theorem tw1792 : (Jvm.Cond.code ({ cls := "OneBackModel", name := "drawn", desc := "(IIIII)I" } : Jvm.MethodName) prog_13_method_116_code (8 : Nat) (Option.some Jvm.ClassFile.FieldType.int)) ∈ GT := GT_m (ck8 (m8 (m8 (m8 (m8 (m8 (m8 (m8 (m8 (m8 (m8 (m8 (m8 (m8 (m8 (List.Mem.head _)))))))))))))))) rfl
set_option maxRecDepth 4000 in
theorem tw1793 : (Jvm.Cond.methodLink "OneBackModel" (486 : Nat) ({ cls := "OneBackModel", name := "drawThief", desc := "(I)V" } : Jvm.MethodName)) ∈ GT := GT_m (ck8 (m8 (m8 (m8 (m8 (m8 (m8 (m8 (m8 (m8 (m8 (m8 (m8 (m8 (m8 (List.Mem.tail _ (List.Mem.head _))))))))))))))))) rfl
set_option maxRecDepth 4000 in
theorem tw1795 : (Jvm.Cond.instanceMethod ({ cls := "OneBackModel", name := "drawThief", desc := "(I)V" } : Jvm.MethodName)) ∈ GT := GT_m (ck8 (m8 (m8 (m8 (m8 (m8 (m8 (m8 (m8 (m8 (m8 (m8 (m8 (m8 (m8 (List.Mem.tail _ (List.Mem.tail _ (List.Mem.tail _ (List.Mem.head _))))))))))))))))))) rfl
set_option maxRecDepth 4000 in
theorem tw1796 : (Jvm.Cond.code ({ cls := "OneBackModel", name := "drawThief", desc := "(I)V" } : Jvm.MethodName) prog_13_method_115_code (4 : Nat) (Option.none : Option Jvm.ClassFile.FieldType)) ∈ GT := GT_m (ck8 (m8 (m8 (m8 (m8 (m8 (m8 (m8 (m8 (m8 (m8 (m8 (m8 (m8 (m8 (List.Mem.tail _ (List.Mem.tail _ (List.Mem.tail _ (List.Mem.tail _ (List.Mem.head _)))))))))))))))))))) rfl
set_option maxRecDepth 4000 in
theorem tw1797 : (Jvm.Cond.methodLink "OneBackModel" (480 : Nat) ({ cls := "OneBackModel", name := "draw", desc := "(I)I" } : Jvm.MethodName)) ∈ GT := GT_m (ck8 (m8 (m8 (m8 (m8 (m8 (m8 (m8 (m8 (m8 (m8 (m8 (m8 (m8 (m8 (List.Mem.tail _ (List.Mem.tail _ (List.Mem.tail _ (List.Mem.tail _ (List.Mem.tail _ (List.Mem.head _))))))))))))))))))))) rfl
set_option maxRecDepth 4000 in
theorem tw1799 : (Jvm.Cond.instanceMethod ({ cls := "OneBackModel", name := "draw", desc := "(I)I" } : Jvm.MethodName)) ∈ GT := GT_m (ck8 (m8 (m8 (m8 (m8 (m8 (m8 (m8 (m8 (m8 (m8 (m8 (m8 (m8 (m8 (List.Mem.tail _ (List.Mem.tail _ (List.Mem.tail _ (List.Mem.tail _ (List.Mem.tail _ (List.Mem.tail _ (List.Mem.tail _ (List.Mem.head _))))))))))))))))))))))) rfl
set_option maxRecDepth 4000 in
theorem tw1800 : (Jvm.Cond.code ({ cls := "OneBackModel", name := "draw", desc := "(I)I" } : Jvm.MethodName) prog_13_method_113_code (2 : Nat) (Option.some Jvm.ClassFile.FieldType.int)) ∈ GT := GT_m (ck8 (m8 (m8 (m8 (m8 (m8 (m8 (m8 (m8 (m8 (m8 (m8 (m8 (m8 (m8 (m8 (List.Mem.head _))))))))))))))))) rfl
set_option maxRecDepth 4000 in
theorem tw1801 : (Jvm.Cond.constant "OneBackModel" (479 : Nat) (1103515245 : Int32)) ∈ GT := GT_m (ck8 (m8 (m8 (m8 (m8 (m8 (m8 (m8 (m8 (m8 (m8 (m8 (m8 (m8 (m8 (m8 (List.Mem.tail _ (List.Mem.head _)))))))))))))))))) rfl
set_option maxRecDepth 4000 in
theorem tw1802 : (Jvm.Cond.methodLink "OneBackModel" (483 : Nat) ({ cls := "OneBackModel", name := "givesOne", desc := "(I)Z" } : Jvm.MethodName)) ∈ GT := GT_m (ck8 (m8 (m8 (m8 (m8 (m8 (m8 (m8 (m8 (m8 (m8 (m8 (m8 (m8 (m8 (m8 (List.Mem.tail _ (List.Mem.tail _ (List.Mem.head _))))))))))))))))))) rfl
set_option maxRecDepth 4000 in
theorem tw1804 : (Jvm.Cond.instanceMethod ({ cls := "OneBackModel", name := "givesOne", desc := "(I)Z" } : Jvm.MethodName)) ∈ GT := GT_m (ck8 (m8 (m8 (m8 (m8 (m8 (m8 (m8 (m8 (m8 (m8 (m8 (m8 (m8 (m8 (m8 (List.Mem.tail _ (List.Mem.tail _ (List.Mem.tail _ (List.Mem.tail _ (List.Mem.head _))))))))))))))))))))) rfl
set_option maxRecDepth 4000 in
theorem tw1805 : (Jvm.Cond.code ({ cls := "OneBackModel", name := "givesOne", desc := "(I)Z" } : Jvm.MethodName) prog_13_method_114_code (4 : Nat) (Option.some Jvm.ClassFile.FieldType.boolean)) ∈ GT := GT_m (ck8 (m8 (m8 (m8 (m8 (m8 (m8 (m8 (m8 (m8 (m8 (m8 (m8 (m8 (m8 (m8 (List.Mem.tail _ (List.Mem.tail _ (List.Mem.tail _ (List.Mem.tail _ (List.Mem.tail _ (List.Mem.head _)))))))))))))))))))))) rfl
set_option maxRecDepth 4000 in
theorem tw1806 : (Jvm.Cond.methodLink "OneBackLaw" (124 : Nat) ({ cls := "OneBackModel", name := "wealth", desc := "(IIIII)I" } : Jvm.MethodName)) ∈ GT := GT_m (ck8 (m8 (m8 (m8 (m8 (m8 (m8 (m8 (m8 (m8 (m8 (m8 (m8 (m8 (m8 (m8 (List.Mem.tail _ (List.Mem.tail _ (List.Mem.tail _ (List.Mem.tail _ (List.Mem.tail _ (List.Mem.tail _ (List.Mem.head _))))))))))))))))))))))) rfl
set_option maxRecDepth 4000 in
theorem tw1807 : (Jvm.Cond.instanceMethod ({ cls := "OneBackModel", name := "wealth", desc := "(IIIII)I" } : Jvm.MethodName)) ∈ GT := GT_m (ck8 (m8 (m8 (m8 (m8 (m8 (m8 (m8 (m8 (m8 (m8 (m8 (m8 (m8 (m8 (m8 (List.Mem.tail _ (List.Mem.tail _ (List.Mem.tail _ (List.Mem.tail _ (List.Mem.tail _ (List.Mem.tail _ (List.Mem.tail _ (List.Mem.head _)))))))))))))))))))))))) rfl
set_option maxRecDepth 4000 in
theorem tw1808 : (Jvm.Cond.selects "OneBackModel" ({ cls := "OneBackModel", name := "wealth", desc := "(IIIII)I" } : Jvm.MethodName) ({ cls := "OneBackModel", name := "wealth", desc := "(IIIII)I" } : Jvm.MethodName)) ∈ GT := GT_m (ck8 (m8 (m8 (m8 (m8 (m8 (m8 (m8 (m8 (m8 (m8 (m8 (m8 (m8 (m8 (m8 (m8 (List.Mem.head _)))))))))))))))))) rfl
set_option maxRecDepth 4000 in
theorem tw1809 : (Jvm.Cond.code ({ cls := "OneBackModel", name := "wealth", desc := "(IIIII)I" } : Jvm.MethodName) prog_13_method_125_code (6 : Nat) (Option.some Jvm.ClassFile.FieldType.int)) ∈ GT := GT_m (ck8 (m8 (m8 (m8 (m8 (m8 (m8 (m8 (m8 (m8 (m8 (m8 (m8 (m8 (m8 (m8 (m8 (List.Mem.tail _ (List.Mem.head _))))))))))))))))))) rfl
set_option maxRecDepth 4000 in
theorem tw1810 : (Jvm.Cond.methodLink "OneBackModel" (498 : Nat) ({ cls := "OneBackModel", name := "can", desc := "(I)I" } : Jvm.MethodName)) ∈ GT := GT_m (ck8 (m8 (m8 (m8 (m8 (m8 (m8 (m8 (m8 (m8 (m8 (m8 (m8 (m8 (m8 (m8 (m8 (List.Mem.tail _ (List.Mem.tail _ (List.Mem.head _)))))))))))))))))))) rfl
set_option maxRecDepth 4000 in
theorem tw1812 : (Jvm.Cond.instanceMethod ({ cls := "OneBackModel", name := "can", desc := "(I)I" } : Jvm.MethodName)) ∈ GT := GT_m (ck8 (m8 (m8 (m8 (m8 (m8 (m8 (m8 (m8 (m8 (m8 (m8 (m8 (m8 (m8 (m8 (m8 (List.Mem.tail _ (List.Mem.tail _ (List.Mem.tail _ (List.Mem.tail _ (List.Mem.head _)))))))))))))))))))))) rfl
set_option maxRecDepth 4000 in
theorem tw1813 : (Jvm.Cond.code ({ cls := "OneBackModel", name := "can", desc := "(I)I" } : Jvm.MethodName) prog_13_method_119_code (6 : Nat) (Option.some Jvm.ClassFile.FieldType.int)) ∈ GT := GT_m (ck8 (m8 (m8 (m8 (m8 (m8 (m8 (m8 (m8 (m8 (m8 (m8 (m8 (m8 (m8 (m8 (m8 (List.Mem.tail _ (List.Mem.tail _ (List.Mem.tail _ (List.Mem.tail _ (List.Mem.tail _ (List.Mem.head _))))))))))))))))))))))) rfl
set_option maxRecDepth 4000 in
theorem tw1814 : (Jvm.Cond.methodLink "OneBackModel" (492 : Nat) ({ cls := "OneBackModel", name := "wealthOf", desc := "(I)I" } : Jvm.MethodName)) ∈ GT := GT_m (ck8 (m8 (m8 (m8 (m8 (m8 (m8 (m8 (m8 (m8 (m8 (m8 (m8 (m8 (m8 (m8 (m8 (List.Mem.tail _ (List.Mem.tail _ (List.Mem.tail _ (List.Mem.tail _ (List.Mem.tail _ (List.Mem.tail _ (List.Mem.head _)))))))))))))))))))))))) rfl
set_option maxRecDepth 4000 in
theorem tw1816 : (Jvm.Cond.instanceMethod ({ cls := "OneBackModel", name := "wealthOf", desc := "(I)I" } : Jvm.MethodName)) ∈ GT := GT_m (ck8 (m8 (m8 (m8 (m8 (m8 (m8 (m8 (m8 (m8 (m8 (m8 (m8 (m8 (m8 (m8 (m8 (m8 (List.Mem.head _))))))))))))))))))) rfl
set_option maxRecDepth 4000 in
theorem tw1817 : (Jvm.Cond.code ({ cls := "OneBackModel", name := "wealthOf", desc := "(I)I" } : Jvm.MethodName) prog_13_method_120_code (4 : Nat) (Option.some Jvm.ClassFile.FieldType.int)) ∈ GT := GT_m (ck8 (m8 (m8 (m8 (m8 (m8 (m8 (m8 (m8 (m8 (m8 (m8 (m8 (m8 (m8 (m8 (m8 (m8 (List.Mem.tail _ (List.Mem.head _)))))))))))))))))))) rfl
set_option maxRecDepth 4000 in
theorem tw1818 : (Jvm.Cond.methodLink "OneBackModel" (495 : Nat) ({ cls := "OneBackModel", name := "ranked", desc := "(I)I" } : Jvm.MethodName)) ∈ GT := GT_m (ck8 (m8 (m8 (m8 (m8 (m8 (m8 (m8 (m8 (m8 (m8 (m8 (m8 (m8 (m8 (m8 (m8 (m8 (List.Mem.tail _ (List.Mem.tail _ (List.Mem.head _))))))))))))))))))))) rfl
set_option maxRecDepth 4000 in
theorem tw1820 : (Jvm.Cond.instanceMethod ({ cls := "OneBackModel", name := "ranked", desc := "(I)I" } : Jvm.MethodName)) ∈ GT := GT_m (ck8 (m8 (m8 (m8 (m8 (m8 (m8 (m8 (m8 (m8 (m8 (m8 (m8 (m8 (m8 (m8 (m8 (m8 (List.Mem.tail _ (List.Mem.tail _ (List.Mem.tail _ (List.Mem.tail _ (List.Mem.head _))))))))))))))))))))))) rfl
set_option maxRecDepth 4000 in
theorem tw1821 : (Jvm.Cond.code ({ cls := "OneBackModel", name := "ranked", desc := "(I)I" } : Jvm.MethodName) prog_13_method_121_code (5 : Nat) (Option.some Jvm.ClassFile.FieldType.int)) ∈ GT := GT_m (ck8 (m8 (m8 (m8 (m8 (m8 (m8 (m8 (m8 (m8 (m8 (m8 (m8 (m8 (m8 (m8 (m8 (m8 (List.Mem.tail _ (List.Mem.tail _ (List.Mem.tail _ (List.Mem.tail _ (List.Mem.tail _ (List.Mem.head _)))))))))))))))))))))))) rfl
set_option maxRecDepth 4000 in
theorem tw1822 : (Jvm.Cond.methodLink "OneBackModel" (501 : Nat) ({ cls := "OneBackModel", name := "settle", desc := "()I" } : Jvm.MethodName)) ∈ GT := GT_m (ck8 (m8 (m8 (m8 (m8 (m8 (m8 (m8 (m8 (m8 (m8 (m8 (m8 (m8 (m8 (m8 (m8 (m8 (List.Mem.tail _ (List.Mem.tail _ (List.Mem.tail _ (List.Mem.tail _ (List.Mem.tail _ (List.Mem.tail _ (List.Mem.head _))))))))))))))))))))))))) rfl
set_option maxRecDepth 4000 in
theorem tw1824 : (Jvm.Cond.instanceMethod ({ cls := "OneBackModel", name := "settle", desc := "()I" } : Jvm.MethodName)) ∈ GT := GT_m (ck8 (m8 (m8 (m8 (m8 (m8 (m8 (m8 (m8 (m8 (m8 (m8 (m8 (m8 (m8 (m8 (m8 (m8 (m8 (List.Mem.head _)))))))))))))))))))) rfl
set_option maxRecDepth 4000 in
theorem tw1825 : (Jvm.Cond.code ({ cls := "OneBackModel", name := "settle", desc := "()I" } : Jvm.MethodName) prog_13_method_118_code (7 : Nat) (Option.some Jvm.ClassFile.FieldType.int)) ∈ GT := GT_m (ck8 (m8 (m8 (m8 (m8 (m8 (m8 (m8 (m8 (m8 (m8 (m8 (m8 (m8 (m8 (m8 (m8 (m8 (m8 (List.Mem.tail _ (List.Mem.head _))))))))))))))))))))) rfl
set_option maxRecDepth 4000 in
theorem tw1826 : (Jvm.Cond.methodLink "OneBackModel" (489 : Nat) ({ cls := "OneBackModel", name := "areKin", desc := "(II)Z" } : Jvm.MethodName)) ∈ GT := GT_m (ck8 (m8 (m8 (m8 (m8 (m8 (m8 (m8 (m8 (m8 (m8 (m8 (m8 (m8 (m8 (m8 (m8 (m8 (m8 (List.Mem.tail _ (List.Mem.tail _ (List.Mem.head _)))))))))))))))))))))) rfl
set_option maxRecDepth 4000 in
theorem tw1828 : (Jvm.Cond.instanceMethod ({ cls := "OneBackModel", name := "areKin", desc := "(II)Z" } : Jvm.MethodName)) ∈ GT := GT_m (ck8 (m8 (m8 (m8 (m8 (m8 (m8 (m8 (m8 (m8 (m8 (m8 (m8 (m8 (m8 (m8 (m8 (m8 (m8 (List.Mem.tail _ (List.Mem.tail _ (List.Mem.tail _ (List.Mem.tail _ (List.Mem.head _)))))))))))))))))))))))) rfl
set_option maxRecDepth 4000 in
theorem tw1829 : (Jvm.Cond.code ({ cls := "OneBackModel", name := "areKin", desc := "(II)Z" } : Jvm.MethodName) prog_13_method_117_code (3 : Nat) (Option.some Jvm.ClassFile.FieldType.boolean)) ∈ GT := GT_m (ck8 (m8 (m8 (m8 (m8 (m8 (m8 (m8 (m8 (m8 (m8 (m8 (m8 (m8 (m8 (m8 (m8 (m8 (m8 (List.Mem.tail _ (List.Mem.tail _ (List.Mem.tail _ (List.Mem.tail _ (List.Mem.tail _ (List.Mem.head _))))))))))))))))))))))))) rfl
set_option maxRecDepth 4000 in
theorem tw1830 : (Jvm.Cond.methodLink "OneBackModel" (504 : Nat) ({ cls := "OneBackModel", name := "gap", desc := "()I" } : Jvm.MethodName)) ∈ GT := GT_m (ck8 (m8 (m8 (m8 (m8 (m8 (m8 (m8 (m8 (m8 (m8 (m8 (m8 (m8 (m8 (m8 (m8 (m8 (m8 (List.Mem.tail _ (List.Mem.tail _ (List.Mem.tail _ (List.Mem.tail _ (List.Mem.tail _ (List.Mem.tail _ (List.Mem.head _)))))))))))))))))))))))))) rfl
set_option maxRecDepth 4000 in
theorem tw1832 : (Jvm.Cond.instanceMethod ({ cls := "OneBackModel", name := "gap", desc := "()I" } : Jvm.MethodName)) ∈ GT := GT_m (ck8 (m8 (m8 (m8 (m8 (m8 (m8 (m8 (m8 (m8 (m8 (m8 (m8 (m8 (m8 (m8 (m8 (m8 (m8 (m8 (List.Mem.head _))))))))))))))))))))) rfl
set_option maxRecDepth 4000 in
theorem tw1833 : (Jvm.Cond.code ({ cls := "OneBackModel", name := "gap", desc := "()I" } : Jvm.MethodName) prog_13_method_122_code (1 : Nat) (Option.some Jvm.ClassFile.FieldType.int)) ∈ GT := GT_m (ck8 (m8 (m8 (m8 (m8 (m8 (m8 (m8 (m8 (m8 (m8 (m8 (m8 (m8 (m8 (m8 (m8 (m8 (m8 (m8 (List.Mem.tail _ (List.Mem.head _)))))))))))))))))))))) rfl
set_option maxRecDepth 4000 in
theorem tw1834 : (Jvm.Cond.methodLink "OneBackModel" (507 : Nat) ({ cls := "OneBackModel", name := "unlike", desc := "(Z)I" } : Jvm.MethodName)) ∈ GT := GT_m (ck8 (m8 (m8 (m8 (m8 (m8 (m8 (m8 (m8 (m8 (m8 (m8 (m8 (m8 (m8 (m8 (m8 (m8 (m8 (m8 (List.Mem.tail _ (List.Mem.tail _ (List.Mem.head _))))))))))))))))))))))) rfl
set_option maxRecDepth 4000 in
theorem tw1836 : (Jvm.Cond.instanceMethod ({ cls := "OneBackModel", name := "unlike", desc := "(Z)I" } : Jvm.MethodName)) ∈ GT := GT_m (ck8 (m8 (m8 (m8 (m8 (m8 (m8 (m8 (m8 (m8 (m8 (m8 (m8 (m8 (m8 (m8 (m8 (m8 (m8 (m8 (List.Mem.tail _ (List.Mem.tail _ (List.Mem.tail _ (List.Mem.tail _ (List.Mem.head _))))))))))))))))))))))))) rfl
set_option maxRecDepth 4000 in
theorem tw1837 : (Jvm.Cond.code ({ cls := "OneBackModel", name := "unlike", desc := "(Z)I" } : Jvm.MethodName) prog_13_method_123_code (6 : Nat) (Option.some Jvm.ClassFile.FieldType.int)) ∈ GT := GT_m (ck8 (m8 (m8 (m8 (m8 (m8 (m8 (m8 (m8 (m8 (m8 (m8 (m8 (m8 (m8 (m8 (m8 (m8 (m8 (m8 (List.Mem.tail _ (List.Mem.tail _ (List.Mem.tail _ (List.Mem.tail _ (List.Mem.tail _ (List.Mem.head _)))))))))))))))))))))))))) rfl
set_option maxRecDepth 4000 in
theorem tw1838 : (Jvm.Cond.methodLink "OneBackModel" (511 : Nat) ({ cls := "OneBackModel", name := "robbed", desc := "()I" } : Jvm.MethodName)) ∈ GT := GT_m (ck8 (m8 (m8 (m8 (m8 (m8 (m8 (m8 (m8 (m8 (m8 (m8 (m8 (m8 (m8 (m8 (m8 (m8 (m8 (m8 (List.Mem.tail _ (List.Mem.tail _ (List.Mem.tail _ (List.Mem.tail _ (List.Mem.tail _ (List.Mem.tail _ (List.Mem.head _))))))))))))))))))))))))))) rfl
set_option maxRecDepth 4000 in
theorem tw1840 : (Jvm.Cond.instanceMethod ({ cls := "OneBackModel", name := "robbed", desc := "()I" } : Jvm.MethodName)) ∈ GT := GT_m (ck8 (m8 (m8 (m8 (m8 (m8 (m8 (m8 (m8 (m8 (m8 (m8 (m8 (m8 (m8 (m8 (m8 (m8 (m8 (m8 (m8 (List.Mem.head _)))))))))))))))))))))) rfl
set_option maxRecDepth 4000 in
theorem tw1841 : (Jvm.Cond.code ({ cls := "OneBackModel", name := "robbed", desc := "()I" } : Jvm.MethodName) prog_13_method_124_code (7 : Nat) (Option.some Jvm.ClassFile.FieldType.int)) ∈ GT := GT_m (ck8 (m8 (m8 (m8 (m8 (m8 (m8 (m8 (m8 (m8 (m8 (m8 (m8 (m8 (m8 (m8 (m8 (m8 (m8 (m8 (m8 (List.Mem.tail _ (List.Mem.head _))))))))))))))))))))))) rfl
set_option maxRecDepth 4000 in
theorem tw1842 : (Jvm.Cond.methodLink "OneBackLaw" (128 : Nat) ({ cls := "OneBackModel", name := "haul", desc := "(IIIII)I" } : Jvm.MethodName)) ∈ GT := GT_m (ck8 (m8 (m8 (m8 (m8 (m8 (m8 (m8 (m8 (m8 (m8 (m8 (m8 (m8 (m8 (m8 (m8 (m8 (m8 (m8 (m8 (List.Mem.tail _ (List.Mem.tail _ (List.Mem.head _)))))))))))))))))))))))) rfl
set_option maxRecDepth 4000 in
theorem tw1843 : (Jvm.Cond.instanceMethod ({ cls := "OneBackModel", name := "haul", desc := "(IIIII)I" } : Jvm.MethodName)) ∈ GT := GT_m (ck8 (m8 (m8 (m8 (m8 (m8 (m8 (m8 (m8 (m8 (m8 (m8 (m8 (m8 (m8 (m8 (m8 (m8 (m8 (m8 (m8 (List.Mem.tail _ (List.Mem.tail _ (List.Mem.tail _ (List.Mem.head _))))))))))))))))))))))))) rfl
set_option maxRecDepth 4000 in
theorem tw1844 : (Jvm.Cond.selects "OneBackModel" ({ cls := "OneBackModel", name := "haul", desc := "(IIIII)I" } : Jvm.MethodName) ({ cls := "OneBackModel", name := "haul", desc := "(IIIII)I" } : Jvm.MethodName)) ∈ GT := GT_m (ck8 (m8 (m8 (m8 (m8 (m8 (m8 (m8 (m8 (m8 (m8 (m8 (m8 (m8 (m8 (m8 (m8 (m8 (m8 (m8 (m8 (List.Mem.tail _ (List.Mem.tail _ (List.Mem.tail _ (List.Mem.tail _ (List.Mem.head _)))))))))))))))))))))))))) rfl
set_option maxRecDepth 4000 in
theorem tw1845 : (Jvm.Cond.code ({ cls := "OneBackModel", name := "haul", desc := "(IIIII)I" } : Jvm.MethodName) prog_13_method_128_code (10 : Nat) (Option.some Jvm.ClassFile.FieldType.int)) ∈ GT := GT_m (ck8 (m8 (m8 (m8 (m8 (m8 (m8 (m8 (m8 (m8 (m8 (m8 (m8 (m8 (m8 (m8 (m8 (m8 (m8 (m8 (m8 (List.Mem.tail _ (List.Mem.tail _ (List.Mem.tail _ (List.Mem.tail _ (List.Mem.tail _ (List.Mem.head _))))))))))))))))))))))))))) rfl
set_option maxRecDepth 4000 in
theorem tw1846 : (Jvm.Cond.constant "OneBackModel" (514 : Nat) (99999 : Int32)) ∈ GT := GT_m (ck8 (m8 (m8 (m8 (m8 (m8 (m8 (m8 (m8 (m8 (m8 (m8 (m8 (m8 (m8 (m8 (m8 (m8 (m8 (m8 (m8 (List.Mem.tail _ (List.Mem.tail _ (List.Mem.tail _ (List.Mem.tail _ (List.Mem.tail _ (List.Mem.tail _ (List.Mem.head _)))))))))))))))))))))))))))) rfl
set_option maxRecDepth 4000 in
theorem tw1847 : (Jvm.Cond.methodLink "OneBackModel" (515 : Nat) ({ cls := "OneBackModel", name := "haulWorth", desc := "(IIII)I" } : Jvm.MethodName)) ∈ GT := GT_m (ck8 (m8 (m8 (m8 (m8 (m8 (m8 (m8 (m8 (m8 (m8 (m8 (m8 (m8 (m8 (m8 (m8 (m8 (m8 (m8 (m8 (List.Mem.tail _ (List.Mem.tail _ (List.Mem.tail _ (List.Mem.tail _ (List.Mem.tail _ (List.Mem.tail _ (List.Mem.tail _ (List.Mem.head _))))))))))))))))))))))))))))) rfl
set_option maxRecDepth 4000 in
theorem tw1849 : (Jvm.Cond.instanceMethod ({ cls := "OneBackModel", name := "haulWorth", desc := "(IIII)I" } : Jvm.MethodName)) ∈ GT := GT_m (ck8 (m8 (m8 (m8 (m8 (m8 (m8 (m8 (m8 (m8 (m8 (m8 (m8 (m8 (m8 (m8 (m8 (m8 (m8 (m8 (m8 (m8 (List.Mem.tail _ (List.Mem.head _)))))))))))))))))))))))) rfl
set_option maxRecDepth 4000 in
theorem tw1850 : (Jvm.Cond.code ({ cls := "OneBackModel", name := "haulWorth", desc := "(IIII)I" } : Jvm.MethodName) prog_13_method_127_code (11 : Nat) (Option.some Jvm.ClassFile.FieldType.int)) ∈ GT := GT_m (ck8 (m8 (m8 (m8 (m8 (m8 (m8 (m8 (m8 (m8 (m8 (m8 (m8 (m8 (m8 (m8 (m8 (m8 (m8 (m8 (m8 (m8 (List.Mem.tail _ (List.Mem.tail _ (List.Mem.head _))))))))))))))))))))))))) rfl
set_option maxRecDepth 4000 in
theorem tw1851 : (Jvm.Cond.methodLink "OneBackModel" (518 : Nat) ({ cls := "OneBackModel", name := "figure", desc := "(II)I" } : Jvm.MethodName)) ∈ GT := GT_m (ck8 (m8 (m8 (m8 (m8 (m8 (m8 (m8 (m8 (m8 (m8 (m8 (m8 (m8 (m8 (m8 (m8 (m8 (m8 (m8 (m8 (m8 (List.Mem.tail _ (List.Mem.tail _ (List.Mem.tail _ (List.Mem.head _)))))))))))))))))))))))))) rfl
set_option maxRecDepth 4000 in
theorem tw1852 : (Jvm.Cond.static ({ cls := "OneBackModel", name := "figure", desc := "(II)I" } : Jvm.MethodName)) ∈ GT := GT_m (ck8 (m8 (m8 (m8 (m8 (m8 (m8 (m8 (m8 (m8 (m8 (m8 (m8 (m8 (m8 (m8 (m8 (m8 (m8 (m8 (m8 (m8 (List.Mem.tail _ (List.Mem.tail _ (List.Mem.tail _ (List.Mem.tail _ (List.Mem.head _))))))))))))))))))))))))))) rfl
set_option maxRecDepth 4000 in
theorem tw1853 : (Jvm.Cond.code ({ cls := "OneBackModel", name := "figure", desc := "(II)I" } : Jvm.MethodName) prog_13_method_126_code (4 : Nat) (Option.some Jvm.ClassFile.FieldType.int)) ∈ GT := GT_m (ck8 (m8 (m8 (m8 (m8 (m8 (m8 (m8 (m8 (m8 (m8 (m8 (m8 (m8 (m8 (m8 (m8 (m8 (m8 (m8 (m8 (m8 (List.Mem.tail _ (List.Mem.tail _ (List.Mem.tail _ (List.Mem.tail _ (List.Mem.tail _ (List.Mem.head _)))))))))))))))))))))))))))) rfl
set_option maxRecDepth 4000 in
theorem tw1854 : (Jvm.Cond.methodLink "OneBackLaw" (132 : Nat) ({ cls := "OneBackModel", name := "crew", desc := "(IIZ)I" } : Jvm.MethodName)) ∈ GT := GT_m (ck8 (m8 (m8 (m8 (m8 (m8 (m8 (m8 (m8 (m8 (m8 (m8 (m8 (m8 (m8 (m8 (m8 (m8 (m8 (m8 (m8 (m8 (List.Mem.tail _ (List.Mem.tail _ (List.Mem.tail _ (List.Mem.tail _ (List.Mem.tail _ (List.Mem.tail _ (List.Mem.head _))))))))))))))))))))))))))))) rfl
set_option maxRecDepth 4000 in
theorem tw1855 : (Jvm.Cond.instanceMethod ({ cls := "OneBackModel", name := "crew", desc := "(IIZ)I" } : Jvm.MethodName)) ∈ GT := GT_m (ck8 (m8 (m8 (m8 (m8 (m8 (m8 (m8 (m8 (m8 (m8 (m8 (m8 (m8 (m8 (m8 (m8 (m8 (m8 (m8 (m8 (m8 (List.Mem.tail _ (List.Mem.tail _ (List.Mem.tail _ (List.Mem.tail _ (List.Mem.tail _ (List.Mem.tail _ (List.Mem.tail _ (List.Mem.head _)))))))))))))))))))))))))))))) rfl
set_option maxRecDepth 4000 in
theorem tw1856 : (Jvm.Cond.selects "OneBackModel" ({ cls := "OneBackModel", name := "crew", desc := "(IIZ)I" } : Jvm.MethodName) ({ cls := "OneBackModel", name := "crew", desc := "(IIZ)I" } : Jvm.MethodName)) ∈ GT := GT_m (ck8 (m8 (m8 (m8 (m8 (m8 (m8 (m8 (m8 (m8 (m8 (m8 (m8 (m8 (m8 (m8 (m8 (m8 (m8 (m8 (m8 (m8 (m8 (List.Mem.head _)))))))))))))))))))))))) rfl
set_option maxRecDepth 4000 in
theorem tw1857 : (Jvm.Cond.code ({ cls := "OneBackModel", name := "crew", desc := "(IIZ)I" } : Jvm.MethodName) prog_13_method_131_code (6 : Nat) (Option.some Jvm.ClassFile.FieldType.int)) ∈ GT := GT_m (ck8 (m8 (m8 (m8 (m8 (m8 (m8 (m8 (m8 (m8 (m8 (m8 (m8 (m8 (m8 (m8 (m8 (m8 (m8 (m8 (m8 (m8 (m8 (List.Mem.tail _ (List.Mem.head _))))))))))))))))))))))))) rfl
set_option maxRecDepth 4000 in
theorem tw1858 : (Jvm.Cond.methodLink "OneBackModel" (521 : Nat) ({ cls := "OneBackModel", name := "limits", desc := "(I)I" } : Jvm.MethodName)) ∈ GT := GT_m (ck8 (m8 (m8 (m8 (m8 (m8 (m8 (m8 (m8 (m8 (m8 (m8 (m8 (m8 (m8 (m8 (m8 (m8 (m8 (m8 (m8 (m8 (m8 (List.Mem.tail _ (List.Mem.tail _ (List.Mem.head _)))))))))))))))))))))))))) rfl
set_option maxRecDepth 4000 in
theorem tw1860 : (Jvm.Cond.instanceMethod ({ cls := "OneBackModel", name := "limits", desc := "(I)I" } : Jvm.MethodName)) ∈ GT := GT_m (ck8 (m8 (m8 (m8 (m8 (m8 (m8 (m8 (m8 (m8 (m8 (m8 (m8 (m8 (m8 (m8 (m8 (m8 (m8 (m8 (m8 (m8 (m8 (List.Mem.tail _ (List.Mem.tail _ (List.Mem.tail _ (List.Mem.tail _ (List.Mem.head _)))))))))))))))))))))))))))) rfl
set_option maxRecDepth 4000 in
theorem tw1861 : (Jvm.Cond.code ({ cls := "OneBackModel", name := "limits", desc := "(I)I" } : Jvm.MethodName) prog_13_method_129_code (4 : Nat) (Option.some Jvm.ClassFile.FieldType.int)) ∈ GT := GT_m (ck8 (m8 (m8 (m8 (m8 (m8 (m8 (m8 (m8 (m8 (m8 (m8 (m8 (m8 (m8 (m8 (m8 (m8 (m8 (m8 (m8 (m8 (m8 (List.Mem.tail _ (List.Mem.tail _ (List.Mem.tail _ (List.Mem.tail _ (List.Mem.tail _ (List.Mem.head _))))))))))))))))))))))))))))) rfl
set_option maxRecDepth 4000 in
theorem tw1862 : (Jvm.Cond.methodLink "OneBackModel" (524 : Nat) ({ cls := "OneBackModel", name := "heads", desc := "(I)I" } : Jvm.MethodName)) ∈ GT := GT_m (ck8 (m8 (m8 (m8 (m8 (m8 (m8 (m8 (m8 (m8 (m8 (m8 (m8 (m8 (m8 (m8 (m8 (m8 (m8 (m8 (m8 (m8 (m8 (List.Mem.tail _ (List.Mem.tail _ (List.Mem.tail _ (List.Mem.tail _ (List.Mem.tail _ (List.Mem.tail _ (List.Mem.head _)))))))))))))))))))))))))))))) rfl
set_option maxRecDepth 4000 in
theorem tw1864 : (Jvm.Cond.instanceMethod ({ cls := "OneBackModel", name := "heads", desc := "(I)I" } : Jvm.MethodName)) ∈ GT := GT_m (ck8 (m8 (m8 (m8 (m8 (m8 (m8 (m8 (m8 (m8 (m8 (m8 (m8 (m8 (m8 (m8 (m8 (m8 (m8 (m8 (m8 (m8 (m8 (m8 (List.Mem.head _))))))))))))))))))))))))) rfl
set_option maxRecDepth 4000 in
theorem tw1865 : (Jvm.Cond.code ({ cls := "OneBackModel", name := "heads", desc := "(I)I" } : Jvm.MethodName) prog_13_method_130_code (4 : Nat) (Option.some Jvm.ClassFile.FieldType.int)) ∈ GT := GT_m (ck8 (m8 (m8 (m8 (m8 (m8 (m8 (m8 (m8 (m8 (m8 (m8 (m8 (m8 (m8 (m8 (m8 (m8 (m8 (m8 (m8 (m8 (m8 (m8 (List.Mem.tail _ (List.Mem.head _)))))))))))))))))))))))))) rfl
set_option maxRecDepth 4000 in
theorem tw1866 : (Jvm.Cond.methodLink "OneBackLaw" (136 : Nat) ({ cls := "OneBackModel", name := "pairs", desc := "(II)I" } : Jvm.MethodName)) ∈ GT := GT_m (ck8 (m8 (m8 (m8 (m8 (m8 (m8 (m8 (m8 (m8 (m8 (m8 (m8 (m8 (m8 (m8 (m8 (m8 (m8 (m8 (m8 (m8 (m8 (m8 (List.Mem.tail _ (List.Mem.tail _ (List.Mem.head _))))))))))))))))))))))))))) rfl
set_option maxRecDepth 4000 in
theorem tw1867 : (Jvm.Cond.instanceMethod ({ cls := "OneBackModel", name := "pairs", desc := "(II)I" } : Jvm.MethodName)) ∈ GT := GT_m (ck8 (m8 (m8 (m8 (m8 (m8 (m8 (m8 (m8 (m8 (m8 (m8 (m8 (m8 (m8 (m8 (m8 (m8 (m8 (m8 (m8 (m8 (m8 (m8 (List.Mem.tail _ (List.Mem.tail _ (List.Mem.tail _ (List.Mem.head _)))))))))))))))))))))))))))) rfl
set_option maxRecDepth 4000 in
theorem tw1868 : (Jvm.Cond.selects "OneBackModel" ({ cls := "OneBackModel", name := "pairs", desc := "(II)I" } : Jvm.MethodName) ({ cls := "OneBackModel", name := "pairs", desc := "(II)I" } : Jvm.MethodName)) ∈ GT := GT_m (ck8 (m8 (m8 (m8 (m8 (m8 (m8 (m8 (m8 (m8 (m8 (m8 (m8 (m8 (m8 (m8 (m8 (m8 (m8 (m8 (m8 (m8 (m8 (m8 (List.Mem.tail _ (List.Mem.tail _ (List.Mem.tail _ (List.Mem.tail _ (List.Mem.head _))))))))))))))))))))))))))))) rfl
set_option maxRecDepth 4000 in
theorem tw1869 : (Jvm.Cond.code ({ cls := "OneBackModel", name := "pairs", desc := "(II)I" } : Jvm.MethodName) prog_13_method_133_code (7 : Nat) (Option.some Jvm.ClassFile.FieldType.int)) ∈ GT := GT_m (ck8 (m8 (m8 (m8 (m8 (m8 (m8 (m8 (m8 (m8 (m8 (m8 (m8 (m8 (m8 (m8 (m8 (m8 (m8 (m8 (m8 (m8 (m8 (m8 (List.Mem.tail _ (List.Mem.tail _ (List.Mem.tail _ (List.Mem.tail _ (List.Mem.tail _ (List.Mem.head _)))))))))))))))))))))))))))))) rfl
set_option maxRecDepth 4000 in
theorem tw1870 : (Jvm.Cond.methodLink "OneBackModel" (527 : Nat) ({ cls := "OneBackModel", name := "helps", desc := "(II)Z" } : Jvm.MethodName)) ∈ GT := GT_m (ck8 (m8 (m8 (m8 (m8 (m8 (m8 (m8 (m8 (m8 (m8 (m8 (m8 (m8 (m8 (m8 (m8 (m8 (m8 (m8 (m8 (m8 (m8 (m8 (List.Mem.tail _ (List.Mem.tail _ (List.Mem.tail _ (List.Mem.tail _ (List.Mem.tail _ (List.Mem.tail _ (List.Mem.head _))))))))))))))))))))))))))))))) rfl
set_option maxRecDepth 4000 in
theorem tw1872 : (Jvm.Cond.instanceMethod ({ cls := "OneBackModel", name := "helps", desc := "(II)Z" } : Jvm.MethodName)) ∈ GT := GT_m (ck8 (m8 (m8 (m8 (m8 (m8 (m8 (m8 (m8 (m8 (m8 (m8 (m8 (m8 (m8 (m8 (m8 (m8 (m8 (m8 (m8 (m8 (m8 (m8 (m8 (List.Mem.head _)))))))))))))))))))))))))) rfl
set_option maxRecDepth 4000 in
theorem tw1873 : (Jvm.Cond.code ({ cls := "OneBackModel", name := "helps", desc := "(II)Z" } : Jvm.MethodName) prog_13_method_132_code (4 : Nat) (Option.some Jvm.ClassFile.FieldType.boolean)) ∈ GT := GT_m (ck8 (m8 (m8 (m8 (m8 (m8 (m8 (m8 (m8 (m8 (m8 (m8 (m8 (m8 (m8 (m8 (m8 (m8 (m8 (m8 (m8 (m8 (m8 (m8 (m8 (List.Mem.tail _ (List.Mem.head _))))))))))))))))))))))))))) rfl
set_option maxRecDepth 4000 in
theorem tw1874 : (Jvm.Cond.methodLink "OneBackLaw" (140 : Nat) ({ cls := "OneBackModel", name := "count", desc := "(I)I" } : Jvm.MethodName)) ∈ GT := GT_m (ck8 (m8 (m8 (m8 (m8 (m8 (m8 (m8 (m8 (m8 (m8 (m8 (m8 (m8 (m8 (m8 (m8 (m8 (m8 (m8 (m8 (m8 (m8 (m8 (m8 (List.Mem.tail _ (List.Mem.tail _ (List.Mem.head _)))))))))))))))))))))))))))) rfl
set_option maxRecDepth 4000 in
theorem tw1875 : (Jvm.Cond.instanceMethod ({ cls := "OneBackModel", name := "count", desc := "(I)I" } : Jvm.MethodName)) ∈ GT := GT_m (ck8 (m8 (m8 (m8 (m8 (m8 (m8 (m8 (m8 (m8 (m8 (m8 (m8 (m8 (m8 (m8 (m8 (m8 (m8 (m8 (m8 (m8 (m8 (m8 (m8 (List.Mem.tail _ (List.Mem.tail _ (List.Mem.tail _ (List.Mem.head _))))))))))))))))))))))))))))) rfl
set_option maxRecDepth 4000 in
theorem tw1876 : (Jvm.Cond.selects "OneBackModel" ({ cls := "OneBackModel", name := "count", desc := "(I)I" } : Jvm.MethodName) ({ cls := "OneBackModel", name := "count", desc := "(I)I" } : Jvm.MethodName)) ∈ GT := GT_m (ck8 (m8 (m8 (m8 (m8 (m8 (m8 (m8 (m8 (m8 (m8 (m8 (m8 (m8 (m8 (m8 (m8 (m8 (m8 (m8 (m8 (m8 (m8 (m8 (m8 (List.Mem.tail _ (List.Mem.tail _ (List.Mem.tail _ (List.Mem.tail _ (List.Mem.head _)))))))))))))))))))))))))))))) rfl
set_option maxRecDepth 4000 in
theorem tw1877 : (Jvm.Cond.code ({ cls := "OneBackModel", name := "count", desc := "(I)I" } : Jvm.MethodName) prog_13_method_134_code (2 : Nat) (Option.some Jvm.ClassFile.FieldType.int)) ∈ GT := GT_m (ck8 (m8 (m8 (m8 (m8 (m8 (m8 (m8 (m8 (m8 (m8 (m8 (m8 (m8 (m8 (m8 (m8 (m8 (m8 (m8 (m8 (m8 (m8 (m8 (m8 (List.Mem.tail _ (List.Mem.tail _ (List.Mem.tail _ (List.Mem.tail _ (List.Mem.tail _ (List.Mem.head _))))))))))))))))))))))))))))))) rfl
set_option maxRecDepth 4000 in
theorem tw1878 : (Jvm.Cond.methodLink "OneBackLaw" (145 : Nat) ({ cls := "OneBackModel", name := "image", desc := "(I)Z" } : Jvm.MethodName)) ∈ GT := GT_m (ck8 (m8 (m8 (m8 (m8 (m8 (m8 (m8 (m8 (m8 (m8 (m8 (m8 (m8 (m8 (m8 (m8 (m8 (m8 (m8 (m8 (m8 (m8 (m8 (m8 (List.Mem.tail _ (List.Mem.tail _ (List.Mem.tail _ (List.Mem.tail _ (List.Mem.tail _ (List.Mem.tail _ (List.Mem.head _)))))))))))))))))))))))))))))))) rfl
set_option maxRecDepth 4000 in
theorem tw1879 : (Jvm.Cond.instanceMethod ({ cls := "OneBackModel", name := "image", desc := "(I)Z" } : Jvm.MethodName)) ∈ GT := GT_m (ck8 (m8 (m8 (m8 (m8 (m8 (m8 (m8 (m8 (m8 (m8 (m8 (m8 (m8 (m8 (m8 (m8 (m8 (m8 (m8 (m8 (m8 (m8 (m8 (m8 (List.Mem.tail _ (List.Mem.tail _ (List.Mem.tail _ (List.Mem.tail _ (List.Mem.tail _ (List.Mem.tail _ (List.Mem.tail _ (List.Mem.head _))))))))))))))))))))))))))))))))) rfl
set_option maxRecDepth 4000 in
theorem tw1880 : (Jvm.Cond.selects "OneBackModel" ({ cls := "OneBackModel", name := "image", desc := "(I)Z" } : Jvm.MethodName) ({ cls := "OneBackModel", name := "image", desc := "(I)Z" } : Jvm.MethodName)) ∈ GT := GT_m (ck8 (m8 (m8 (m8 (m8 (m8 (m8 (m8 (m8 (m8 (m8 (m8 (m8 (m8 (m8 (m8 (m8 (m8 (m8 (m8 (m8 (m8 (m8 (m8 (m8 (m8 (List.Mem.head _))))))))))))))))))))))))))) rfl
set_option maxRecDepth 4000 in
theorem tw1881 : (Jvm.Cond.code ({ cls := "OneBackModel", name := "image", desc := "(I)Z" } : Jvm.MethodName) prog_13_method_135_code (2 : Nat) (Option.some Jvm.ClassFile.FieldType.boolean)) ∈ GT := GT_m (ck8 (m8 (m8 (m8 (m8 (m8 (m8 (m8 (m8 (m8 (m8 (m8 (m8 (m8 (m8 (m8 (m8 (m8 (m8 (m8 (m8 (m8 (m8 (m8 (m8 (m8 (List.Mem.tail _ (List.Mem.head _)))))))))))))))))))))))))))) rfl
set_option maxRecDepth 4000 in
theorem tw1882 : (Jvm.Cond.methodLink "OneBackModel" (530 : Nat) ({ cls := "OneBackModel", name := "copyAll", desc := "(II)V" } : Jvm.MethodName)) ∈ GT := GT_m (ck8 (m8 (m8 (m8 (m8 (m8 (m8 (m8 (m8 (m8 (m8 (m8 (m8 (m8 (m8 (m8 (m8 (m8 (m8 (m8 (m8 (m8 (m8 (m8 (m8 (m8 (List.Mem.tail _ (List.Mem.tail _ (List.Mem.head _))))))))))))))))))))))))))))) rfl
set_option maxRecDepth 4000 in
theorem tw1884 : (Jvm.Cond.instanceMethod ({ cls := "OneBackModel", name := "copyAll", desc := "(II)V" } : Jvm.MethodName)) ∈ GT := GT_m (ck8 (m8 (m8 (m8 (m8 (m8 (m8 (m8 (m8 (m8 (m8 (m8 (m8 (m8 (m8 (m8 (m8 (m8 (m8 (m8 (m8 (m8 (m8 (m8 (m8 (m8 (List.Mem.tail _ (List.Mem.tail _ (List.Mem.tail _ (List.Mem.tail _ (List.Mem.head _))))))))))))))))))))))))))))))) rfl
set_option maxRecDepth 4000 in
theorem tw1885 : (Jvm.Cond.code ({ cls := "OneBackModel", name := "copyAll", desc := "(II)V" } : Jvm.MethodName) prog_13_method_9_code (4 : Nat) (Option.none : Option Jvm.ClassFile.FieldType)) ∈ GT := GT_m (ck8 (m8 (m8 (m8 (m8 (m8 (m8 (m8 (m8 (m8 (m8 (m8 (m8 (m8 (m8 (m8 (m8 (m8 (m8 (m8 (m8 (m8 (m8 (m8 (m8 (m8 (List.Mem.tail _ (List.Mem.tail _ (List.Mem.tail _ (List.Mem.tail _ (List.Mem.tail _ (List.Mem.head _)))))))))))))))))))))))))))))))) rfl
set_option maxRecDepth 4000 in
theorem tw1886 : (Jvm.Cond.methodLink "OneBackModel" (94 : Nat) ({ cls := "OneBackModel", name := "copyRow", desc := "([IIII)V" } : Jvm.MethodName)) ∈ GT := GT_m (ck8 (m8 (m8 (m8 (m8 (m8 (m8 (m8 (m8 (m8 (m8 (m8 (m8 (m8 (m8 (m8 (m8 (m8 (m8 (m8 (m8 (m8 (m8 (m8 (m8 (m8 (List.Mem.tail _ (List.Mem.tail _ (List.Mem.tail _ (List.Mem.tail _ (List.Mem.tail _ (List.Mem.tail _ (List.Mem.head _))))))))))))))))))))))))))))))))) rfl
set_option maxRecDepth 4000 in
theorem tw1887 : (Jvm.Cond.static ({ cls := "OneBackModel", name := "copyRow", desc := "([IIII)V" } : Jvm.MethodName)) ∈ GT := GT_m (ck8 (m8 (m8 (m8 (m8 (m8 (m8 (m8 (m8 (m8 (m8 (m8 (m8 (m8 (m8 (m8 (m8 (m8 (m8 (m8 (m8 (m8 (m8 (m8 (m8 (m8 (List.Mem.tail _ (List.Mem.tail _ (List.Mem.tail _ (List.Mem.tail _ (List.Mem.tail _ (List.Mem.tail _ (List.Mem.tail _ (List.Mem.head _)))))))))))))))))))))))))))))))))) rfl
set_option maxRecDepth 4000 in
theorem tw1888 : (Jvm.Cond.code ({ cls := "OneBackModel", name := "copyRow", desc := "([IIII)V" } : Jvm.MethodName) prog_13_method_8_code (5 : Nat) (Option.none : Option Jvm.ClassFile.FieldType)) ∈ GT := GT_m (ck8 (m8 (m8 (m8 (m8 (m8 (m8 (m8 (m8 (m8 (m8 (m8 (m8 (m8 (m8 (m8 (m8 (m8 (m8 (m8 (m8 (m8 (m8 (m8 (m8 (m8 (m8 (List.Mem.head _)))))))))))))))))))))))))))) rfl
set_option maxRecDepth 4000 in
theorem tw1889 : (Jvm.Cond.methodLink "OneBackLaw" (149 : Nat) ({ cls := "OneBackModel", name := "again", desc := "(I)Z" } : Jvm.MethodName)) ∈ GT := GT_m (ck8 (m8 (m8 (m8 (m8 (m8 (m8 (m8 (m8 (m8 (m8 (m8 (m8 (m8 (m8 (m8 (m8 (m8 (m8 (m8 (m8 (m8 (m8 (m8 (m8 (m8 (m8 (List.Mem.tail _ (List.Mem.head _))))))))))))))))))))))))))))) rfl
set_option maxRecDepth 4000 in
theorem tw1890 : (Jvm.Cond.instanceMethod ({ cls := "OneBackModel", name := "again", desc := "(I)Z" } : Jvm.MethodName)) ∈ GT := GT_m (ck8 (m8 (m8 (m8 (m8 (m8 (m8 (m8 (m8 (m8 (m8 (m8 (m8 (m8 (m8 (m8 (m8 (m8 (m8 (m8 (m8 (m8 (m8 (m8 (m8 (m8 (m8 (List.Mem.tail _ (List.Mem.tail _ (List.Mem.head _)))))))))))))))))))))))))))))) rfl
set_option maxRecDepth 4000 in
theorem tw1891 : (Jvm.Cond.selects "OneBackModel" ({ cls := "OneBackModel", name := "again", desc := "(I)Z" } : Jvm.MethodName) ({ cls := "OneBackModel", name := "again", desc := "(I)Z" } : Jvm.MethodName)) ∈ GT := GT_m (ck8 (m8 (m8 (m8 (m8 (m8 (m8 (m8 (m8 (m8 (m8 (m8 (m8 (m8 (m8 (m8 (m8 (m8 (m8 (m8 (m8 (m8 (m8 (m8 (m8 (m8 (m8 (List.Mem.tail _ (List.Mem.tail _ (List.Mem.tail _ (List.Mem.head _))))))))))))))))))))))))))))))) rfl
set_option maxRecDepth 4000 in
theorem tw1892 : (Jvm.Cond.code ({ cls := "OneBackModel", name := "again", desc := "(I)Z" } : Jvm.MethodName) prog_13_method_136_code (2 : Nat) (Option.some Jvm.ClassFile.FieldType.boolean)) ∈ GT := GT_m (ck8 (m8 (m8 (m8 (m8 (m8 (m8 (m8 (m8 (m8 (m8 (m8 (m8 (m8 (m8 (m8 (m8 (m8 (m8 (m8 (m8 (m8 (m8 (m8 (m8 (m8 (m8 (List.Mem.tail _ (List.Mem.tail _ (List.Mem.tail _ (List.Mem.tail _ (List.Mem.head _)))))))))))))))))))))))))))))))) rfl
set_option maxRecDepth 4000 in
theorem tw1893 : (Jvm.Cond.fieldLink "java/lang/String" (9 : Nat) "java/lang/String" "value" "[B") ∈ GT := GT_m (ck8 (m8 (m8 (m8 (m8 (m8 (m8 (m8 (m8 (m8 (m8 (m8 (m8 (m8 (m8 (m8 (m8 (m8 (m8 (m8 (m8 (m8 (m8 (m8 (m8 (m8 (m8 (List.Mem.tail _ (List.Mem.tail _ (List.Mem.tail _ (List.Mem.tail _ (List.Mem.tail _ (List.Mem.head _))))))))))))))))))))))))))))))))) rfl
set_option maxRecDepth 4000 in
theorem tw1894 : (Jvm.Cond.fieldLink "java/lang/String" (15 : Nat) "java/lang/String" "coder" "B") ∈ GT := GT_m (ck8 (m8 (m8 (m8 (m8 (m8 (m8 (m8 (m8 (m8 (m8 (m8 (m8 (m8 (m8 (m8 (m8 (m8 (m8 (m8 (m8 (m8 (m8 (m8 (m8 (m8 (m8 (List.Mem.tail _ (List.Mem.tail _ (List.Mem.tail _ (List.Mem.tail _ (List.Mem.tail _ (List.Mem.tail _ (List.Mem.head _)))))))))))))))))))))))))))))))))) rfl
theorem cp1 {q : MethodName × Nat} (h : q ∈ lw_privs_1) : q ∈ lw_privs := List.mem_append_left _ h
theorem cp2 {q : MethodName × Nat} (h : q ∈ lw_privs_2) : q ∈ lw_privs := List.mem_append_right _ (List.mem_append_left _ h)
theorem cp3 {q : MethodName × Nat} (h : q ∈ lw_privs_3) : q ∈ lw_privs := List.mem_append_right _ (List.mem_append_right _ (List.mem_append_left _ h))
theorem cp4 {q : MethodName × Nat} (h : q ∈ lw_privs_4) : q ∈ lw_privs := List.mem_append_right _ (List.mem_append_right _ (List.mem_append_right _ (List.mem_append_left _ h)))
theorem cp5 {q : MethodName × Nat} (h : q ∈ lw_privs_5) : q ∈ lw_privs := List.mem_append_right _ (List.mem_append_right _ (List.mem_append_right _ (List.mem_append_right _ (List.mem_append_left _ h))))
theorem cp6 {q : MethodName × Nat} (h : q ∈ lw_privs_6) : q ∈ lw_privs := List.mem_append_right _ (List.mem_append_right _ (List.mem_append_right _ (List.mem_append_right _ (List.mem_append_right _ (List.mem_append_left _ h)))))
theorem cp7 {q : MethodName × Nat} (h : q ∈ lw_privs_7) : q ∈ lw_privs := List.mem_append_right _ (List.mem_append_right _ (List.mem_append_right _ (List.mem_append_right _ (List.mem_append_right _ (List.mem_append_right _ (List.mem_append_left _ h))))))
theorem cp8 {q : MethodName × Nat} (h : q ∈ lw_privs_8) : q ∈ lw_privs := List.mem_append_right _ (List.mem_append_right _ (List.mem_append_right _ (List.mem_append_right _ (List.mem_append_right _ (List.mem_append_right _ (List.mem_append_right _ (h)))))))
theorem tp0 : Cond.selects "OneBack$Reader" ⟨"OneBack$Reader", "begin", "([BI)V"⟩ ⟨"OneBack$Reader", "begin", "([BI)V"⟩ ∈ GT := GT_q (q := (⟨"OneBack$Reader", "begin", "([BI)V"⟩, 16)) (cp1 (List.Mem.head _))
theorem tp1 : Cond.selects "OneBack$Reader" ⟨"OneBack$Reader", "step", "()V"⟩ ⟨"OneBack$Reader", "step", "()V"⟩ ∈ GT := GT_q (q := (⟨"OneBack$Reader", "step", "()V"⟩, 16)) (cp1 (List.Mem.tail _ (List.Mem.head _)))
theorem tp2 : Cond.selects "OneBack$Reader" ⟨"OneBack$Reader", "byteAt", "(I)I"⟩ ⟨"OneBack$Reader", "byteAt", "(I)I"⟩ ∈ GT := GT_q (q := (⟨"OneBack$Reader", "byteAt", "(I)I"⟩, 16)) (cp1 (List.Mem.tail _ (List.Mem.tail _ (List.Mem.head _))))
theorem tp3 : Cond.selects "OneBack$Reader" ⟨"OneBack$Reader", "stepNumber", "()V"⟩ ⟨"OneBack$Reader", "stepNumber", "()V"⟩ ∈ GT := GT_q (q := (⟨"OneBack$Reader", "stepNumber", "()V"⟩, 16)) (cp1 (List.Mem.tail _ (List.Mem.tail _ (List.Mem.tail _ (List.Mem.head _)))))
theorem tp4 : Cond.selects "OneBack$Reader" ⟨"OneBack$Reader", "readLine", "(I)V"⟩ ⟨"OneBack$Reader", "readLine", "(I)V"⟩ ∈ GT := GT_q (q := (⟨"OneBack$Reader", "readLine", "(I)V"⟩, 16)) (cp1 (List.Mem.tail _ (List.Mem.tail _ (List.Mem.tail _ (List.Mem.tail _ (List.Mem.head _))))))
theorem tp5 : Cond.selects "OneBack$Reader" ⟨"OneBack$Reader", "lineOf", "(I)I"⟩ ⟨"OneBack$Reader", "lineOf", "(I)I"⟩ ∈ GT := GT_q (q := (⟨"OneBack$Reader", "lineOf", "(I)I"⟩, 16)) (cp1 (List.Mem.tail _ (List.Mem.tail _ (List.Mem.tail _ (List.Mem.tail _ (List.Mem.tail _ (List.Mem.head _)))))))
theorem tp6 : Cond.selects "OneBack$Reader" ⟨"OneBack$Reader", "isWord", "(Ljava/lang/String;)Z"⟩ ⟨"OneBack$Reader", "isWord", "(Ljava/lang/String;)Z"⟩ ∈ GT := GT_q (q := (⟨"OneBack$Reader", "isWord", "(Ljava/lang/String;)Z"⟩, 16)) (cp1 (List.Mem.tail _ (List.Mem.tail _ (List.Mem.tail _ (List.Mem.tail _ (List.Mem.tail _ (List.Mem.tail _ (List.Mem.head _))))))))
theorem tp7 : Cond.selects "OneBack$Reader" ⟨"OneBack$Reader", "breakOff", "()V"⟩ ⟨"OneBack$Reader", "breakOff", "()V"⟩ ∈ GT := GT_q (q := (⟨"OneBack$Reader", "breakOff", "()V"⟩, 16)) (cp1 (List.Mem.tail _ (List.Mem.tail _ (List.Mem.tail _ (List.Mem.tail _ (List.Mem.tail _ (List.Mem.tail _ (List.Mem.tail _ (List.Mem.head _)))))))))
theorem tp8 : Cond.selects "OneBack$Reader" ⟨"OneBack$Reader", "isFull", "(I)Z"⟩ ⟨"OneBack$Reader", "isFull", "(I)Z"⟩ ∈ GT := GT_q (q := (⟨"OneBack$Reader", "isFull", "(I)Z"⟩, 16)) (cp1 (m8 (List.Mem.head _)))
theorem tp9 : Cond.selects "OneBack$Reader" ⟨"OneBack$Reader", "note", "(II)V"⟩ ⟨"OneBack$Reader", "note", "(II)V"⟩ ∈ GT := GT_q (q := (⟨"OneBack$Reader", "note", "(II)V"⟩, 16)) (cp1 (m8 (List.Mem.tail _ (List.Mem.head _))))
theorem tp10 : Cond.selects "OneBack$Reader" ⟨"OneBack$Reader", "readNumber", "(II)V"⟩ ⟨"OneBack$Reader", "readNumber", "(II)V"⟩ ∈ GT := GT_q (q := (⟨"OneBack$Reader", "readNumber", "(II)V"⟩, 16)) (cp1 (m8 (List.Mem.tail _ (List.Mem.tail _ (List.Mem.head _)))))
theorem tp11 : Cond.selects "OneBack$Reader" ⟨"OneBack$Reader", "keepLine", "(I)V"⟩ ⟨"OneBack$Reader", "keepLine", "(I)V"⟩ ∈ GT := GT_q (q := (⟨"OneBack$Reader", "keepLine", "(I)V"⟩, 16)) (cp1 (m8 (List.Mem.tail _ (List.Mem.tail _ (List.Mem.tail _ (List.Mem.head _))))))
theorem tp12 : Cond.selects "OneBack$Reader" ⟨"OneBack$Reader", "keepTown", "(I)V"⟩ ⟨"OneBack$Reader", "keepTown", "(I)V"⟩ ∈ GT := GT_q (q := (⟨"OneBack$Reader", "keepTown", "(I)V"⟩, 16)) (cp1 (m8 (List.Mem.tail _ (List.Mem.tail _ (List.Mem.tail _ (List.Mem.tail _ (List.Mem.head _)))))))
theorem tp13 : Cond.selects "OneBack$Reader" ⟨"OneBack$Reader", "keepLaw", "(I)V"⟩ ⟨"OneBack$Reader", "keepLaw", "(I)V"⟩ ∈ GT := GT_q (q := (⟨"OneBack$Reader", "keepLaw", "(I)V"⟩, 16)) (cp1 (m8 (List.Mem.tail _ (List.Mem.tail _ (List.Mem.tail _ (List.Mem.tail _ (List.Mem.tail _ (List.Mem.head _))))))))
theorem tp14 : Cond.selects "OneBack" ⟨"OneBack", "walkTo", "(IIII)Z"⟩ ⟨"OneBack", "walkTo", "(IIII)Z"⟩ ∈ GT := GT_q (q := (⟨"OneBack", "walkTo", "(IIII)Z"⟩, 6)) (cp1 (m8 (List.Mem.tail _ (List.Mem.tail _ (List.Mem.tail _ (List.Mem.tail _ (List.Mem.tail _ (List.Mem.tail _ (List.Mem.head _)))))))))
theorem tp15 : Cond.selects "OneBack$Walk" ⟨"OneBack$Walk", "act", "(LOneBack$Nights;I)Z"⟩ ⟨"OneBack$Walk", "act", "(LOneBack$Nights;I)Z"⟩ ∈ GT := GT_q (q := (⟨"OneBack$Walk", "act", "(LOneBack$Nights;I)Z"⟩, 17)) (cp1 (m8 (List.Mem.tail _ (List.Mem.tail _ (List.Mem.tail _ (List.Mem.tail _ (List.Mem.tail _ (List.Mem.tail _ (List.Mem.tail _ (List.Mem.head _))))))))))
theorem tp16 : Cond.selects "OneBack" ⟨"OneBack", "walkJust", "(IIII)Z"⟩ ⟨"OneBack", "walkJust", "(IIII)Z"⟩ ∈ GT := GT_q (q := (⟨"OneBack", "walkJust", "(IIII)Z"⟩, 6)) (cp2 (List.Mem.head _))
theorem tp17 : Cond.selects "OneBack$Supply" ⟨"OneBack$Supply", "carryGood", "(LOneBack$Town;I)I"⟩ ⟨"OneBack$Supply", "carryGood", "(LOneBack$Town;I)I"⟩ ∈ GT := GT_q (q := (⟨"OneBack$Supply", "carryGood", "(LOneBack$Town;I)I"⟩, 2)) (cp2 (List.Mem.tail _ (List.Mem.head _)))
theorem tp18 : Cond.selects "OneBack$Supply" ⟨"OneBack$Supply", "leastOf", "(II)I"⟩ ⟨"OneBack$Supply", "leastOf", "(II)I"⟩ ∈ GT := GT_q (q := (⟨"OneBack$Supply", "leastOf", "(II)I"⟩, 2)) (cp2 (List.Mem.tail _ (List.Mem.tail _ (List.Mem.head _))))
theorem tp19 : Cond.selects "OneBack$Sight" ⟨"OneBack$Sight", "alike", "(III)I"⟩ ⟨"OneBack$Sight", "alike", "(III)I"⟩ ∈ GT := GT_q (q := (⟨"OneBack$Sight", "alike", "(III)I"⟩, 4)) (cp2 (List.Mem.tail _ (List.Mem.tail _ (List.Mem.tail _ (List.Mem.head _)))))
theorem tp20 : Cond.selects "OneBack$Sight" ⟨"OneBack$Sight", "isTold", "(LOneBack$Town;I)Z"⟩ ⟨"OneBack$Sight", "isTold", "(LOneBack$Town;I)Z"⟩ ∈ GT := GT_q (q := (⟨"OneBack$Sight", "isTold", "(LOneBack$Town;I)Z"⟩, 4)) (cp2 (List.Mem.tail _ (List.Mem.tail _ (List.Mem.tail _ (List.Mem.tail _ (List.Mem.head _))))))
theorem tp21 : Cond.selects "OneBack$Sight" ⟨"OneBack$Sight", "movedOf", "(LOneBack$Town;IZ)I"⟩ ⟨"OneBack$Sight", "movedOf", "(LOneBack$Town;IZ)I"⟩ ∈ GT := GT_q (q := (⟨"OneBack$Sight", "movedOf", "(LOneBack$Town;IZ)I"⟩, 4)) (cp2 (List.Mem.tail _ (List.Mem.tail _ (List.Mem.tail _ (List.Mem.tail _ (List.Mem.tail _ (List.Mem.head _)))))))
theorem tp22 : Cond.selects "OneBack$Town" ⟨"OneBack$Town", "isBest", "(II)Z"⟩ ⟨"OneBack$Town", "isBest", "(II)Z"⟩ ∈ GT := GT_q (q := (⟨"OneBack$Town", "isBest", "(II)Z"⟩, 10)) (cp2 (List.Mem.tail _ (List.Mem.tail _ (List.Mem.tail _ (List.Mem.tail _ (List.Mem.tail _ (List.Mem.tail _ (List.Mem.head _))))))))
theorem tp23 : Cond.selects "OneBack$Walk" ⟨"OneBack$Walk", "drawDeeds", "(I)V"⟩ ⟨"OneBack$Walk", "drawDeeds", "(I)V"⟩ ∈ GT := GT_q (q := (⟨"OneBack$Walk", "drawDeeds", "(I)V"⟩, 17)) (cp2 (List.Mem.tail _ (List.Mem.tail _ (List.Mem.tail _ (List.Mem.tail _ (List.Mem.tail _ (List.Mem.tail _ (List.Mem.tail _ (List.Mem.head _)))))))))
theorem tp24 : Cond.selects "OneBack$Walk" ⟨"OneBack$Walk", "drawBelow", "(I)I"⟩ ⟨"OneBack$Walk", "drawBelow", "(I)I"⟩ ∈ GT := GT_q (q := (⟨"OneBack$Walk", "drawBelow", "(I)I"⟩, 17)) (cp2 (m8 (List.Mem.head _)))
theorem tp25 : Cond.selects "OneBack$Walk" ⟨"OneBack$Walk", "giveLeast", "(I)Z"⟩ ⟨"OneBack$Walk", "giveLeast", "(I)Z"⟩ ∈ GT := GT_q (q := (⟨"OneBack$Walk", "giveLeast", "(I)Z"⟩, 17)) (cp2 (m8 (List.Mem.tail _ (List.Mem.head _))))
theorem tp26 : Cond.selects "OneBack$Porter" ⟨"OneBack$Porter", "keepBetter", "(I)V"⟩ ⟨"OneBack$Porter", "keepBetter", "(I)V"⟩ ∈ GT := GT_q (q := (⟨"OneBack$Porter", "keepBetter", "(I)V"⟩, 5)) (cp2 (m8 (List.Mem.tail _ (List.Mem.tail _ (List.Mem.head _)))))
theorem tp27 : Cond.selects "OneBackModel" ⟨"OneBackModel", "four", "(I)V"⟩ ⟨"OneBackModel", "four", "(I)V"⟩ ∈ GT := GT_q (q := (⟨"OneBackModel", "four", "(I)V"⟩, 51)) (cp2 (m8 (List.Mem.tail _ (List.Mem.tail _ (List.Mem.tail _ (List.Mem.head _))))))
theorem tp28 : Cond.selects "OneBackModel" ⟨"OneBackModel", "is", "(II)Z"⟩ ⟨"OneBackModel", "is", "(II)Z"⟩ ∈ GT := GT_q (q := (⟨"OneBackModel", "is", "(II)Z"⟩, 51)) (cp2 (m8 (List.Mem.tail _ (List.Mem.tail _ (List.Mem.tail _ (List.Mem.tail _ (List.Mem.head _)))))))
theorem tp29 : Cond.selects "OneBackModel" ⟨"OneBackModel", "readText", "(I)Z"⟩ ⟨"OneBackModel", "readText", "(I)Z"⟩ ∈ GT := GT_q (q := (⟨"OneBackModel", "readText", "(I)Z"⟩, 51)) (cp2 (m8 (List.Mem.tail _ (List.Mem.tail _ (List.Mem.tail _ (List.Mem.tail _ (List.Mem.tail _ (List.Mem.head _))))))))
theorem tp30 : Cond.selects "OneBackModel" ⟨"OneBackModel", "blank", "(I)V"⟩ ⟨"OneBackModel", "blank", "(I)V"⟩ ∈ GT := GT_q (q := (⟨"OneBackModel", "blank", "(I)V"⟩, 51)) (cp2 (m8 (List.Mem.tail _ (List.Mem.tail _ (List.Mem.tail _ (List.Mem.tail _ (List.Mem.tail _ (List.Mem.tail _ (List.Mem.head _)))))))))
theorem tp31 : Cond.selects "OneBackModel" ⟨"OneBackModel", "blankTown", "()V"⟩ ⟨"OneBackModel", "blankTown", "()V"⟩ ∈ GT := GT_q (q := (⟨"OneBackModel", "blankTown", "()V"⟩, 51)) (cp2 (m8 (List.Mem.tail _ (List.Mem.tail _ (List.Mem.tail _ (List.Mem.tail _ (List.Mem.tail _ (List.Mem.tail _ (List.Mem.tail _ (List.Mem.head _))))))))))
theorem tp32 : Cond.selects "OneBackModel" ⟨"OneBackModel", "token", "()V"⟩ ⟨"OneBackModel", "token", "()V"⟩ ∈ GT := GT_q (q := (⟨"OneBackModel", "token", "()V"⟩, 51)) (cp3 (List.Mem.head _))
theorem tp33 : Cond.selects "OneBackModel" ⟨"OneBackModel", "see", "()I"⟩ ⟨"OneBackModel", "see", "()I"⟩ ∈ GT := GT_q (q := (⟨"OneBackModel", "see", "()I"⟩, 51)) (cp3 (List.Mem.tail _ (List.Mem.head _)))
theorem tp34 : Cond.selects "OneBackModel" ⟨"OneBackModel", "lines", "(I)Z"⟩ ⟨"OneBackModel", "lines", "(I)Z"⟩ ∈ GT := GT_q (q := (⟨"OneBackModel", "lines", "(I)Z"⟩, 51)) (cp3 (List.Mem.tail _ (List.Mem.tail _ (List.Mem.head _))))
theorem tp35 : Cond.selects "OneBackModel" ⟨"OneBackModel", "lineOf", "(IJI)Z"⟩ ⟨"OneBackModel", "lineOf", "(IJI)Z"⟩ ∈ GT := GT_q (q := (⟨"OneBackModel", "lineOf", "(IJI)Z"⟩, 51)) (cp3 (List.Mem.tail _ (List.Mem.tail _ (List.Mem.tail _ (List.Mem.head _)))))
theorem tp36 : Cond.selects "OneBackModel" ⟨"OneBackModel", "townLine", "(JI)Z"⟩ ⟨"OneBackModel", "townLine", "(JI)Z"⟩ ∈ GT := GT_q (q := (⟨"OneBackModel", "townLine", "(JI)Z"⟩, 51)) (cp3 (List.Mem.tail _ (List.Mem.tail _ (List.Mem.tail _ (List.Mem.tail _ (List.Mem.head _))))))
theorem tp37 : Cond.selects "OneBackModel" ⟨"OneBackModel", "fails", "()Z"⟩ ⟨"OneBackModel", "fails", "()Z"⟩ ∈ GT := GT_q (q := (⟨"OneBackModel", "fails", "()Z"⟩, 51)) (cp3 (List.Mem.tail _ (List.Mem.tail _ (List.Mem.tail _ (List.Mem.tail _ (List.Mem.tail _ (List.Mem.head _)))))))
theorem tp38 : Cond.selects "OneBackModel" ⟨"OneBackModel", "full", "(III)V"⟩ ⟨"OneBackModel", "full", "(III)V"⟩ ∈ GT := GT_q (q := (⟨"OneBackModel", "full", "(III)V"⟩, 51)) (cp3 (List.Mem.tail _ (List.Mem.tail _ (List.Mem.tail _ (List.Mem.tail _ (List.Mem.tail _ (List.Mem.tail _ (List.Mem.head _))))))))
theorem tp39 : Cond.selects "OneBackModel" ⟨"OneBackModel", "later", "(II)V"⟩ ⟨"OneBackModel", "later", "(II)V"⟩ ∈ GT := GT_q (q := (⟨"OneBackModel", "later", "(II)V"⟩, 51)) (cp3 (List.Mem.tail _ (List.Mem.tail _ (List.Mem.tail _ (List.Mem.tail _ (List.Mem.tail _ (List.Mem.tail _ (List.Mem.tail _ (List.Mem.head _)))))))))
theorem tp40 : Cond.selects "OneBackModel" ⟨"OneBackModel", "goodsLine", "(I)Z"⟩ ⟨"OneBackModel", "goodsLine", "(I)Z"⟩ ∈ GT := GT_q (q := (⟨"OneBackModel", "goodsLine", "(I)Z"⟩, 51)) (cp3 (m8 (List.Mem.head _)))
theorem tp41 : Cond.selects "OneBackModel" ⟨"OneBackModel", "takeHouse", "(I)Z"⟩ ⟨"OneBackModel", "takeHouse", "(I)Z"⟩ ∈ GT := GT_q (q := (⟨"OneBackModel", "takeHouse", "(I)Z"⟩, 51)) (cp3 (m8 (List.Mem.tail _ (List.Mem.head _))))
theorem tp42 : Cond.selects "OneBackModel" ⟨"OneBackModel", "take", "(III)Z"⟩ ⟨"OneBackModel", "take", "(III)Z"⟩ ∈ GT := GT_q (q := (⟨"OneBackModel", "take", "(III)Z"⟩, 51)) (cp3 (m8 (List.Mem.tail _ (List.Mem.tail _ (List.Mem.head _)))))
theorem tp43 : Cond.selects "OneBackModel" ⟨"OneBackModel", "takeBut", "(IIII)Z"⟩ ⟨"OneBackModel", "takeBut", "(IIII)Z"⟩ ∈ GT := GT_q (q := (⟨"OneBackModel", "takeBut", "(IIII)Z"⟩, 51)) (cp3 (m8 (List.Mem.tail _ (List.Mem.tail _ (List.Mem.tail _ (List.Mem.head _))))))
theorem tp44 : Cond.selects "OneBackModel" ⟨"OneBackModel", "lay", "(II)V"⟩ ⟨"OneBackModel", "lay", "(II)V"⟩ ∈ GT := GT_q (q := (⟨"OneBackModel", "lay", "(II)V"⟩, 51)) (cp3 (m8 (List.Mem.tail _ (List.Mem.tail _ (List.Mem.tail _ (List.Mem.tail _ (List.Mem.head _)))))))
theorem tp45 : Cond.selects "OneBackModel" ⟨"OneBackModel", "houseLine", "(J)Z"⟩ ⟨"OneBackModel", "houseLine", "(J)Z"⟩ ∈ GT := GT_q (q := (⟨"OneBackModel", "houseLine", "(J)Z"⟩, 51)) (cp3 (m8 (List.Mem.tail _ (List.Mem.tail _ (List.Mem.tail _ (List.Mem.tail _ (List.Mem.tail _ (List.Mem.head _))))))))
theorem tp46 : Cond.selects "OneBackModel" ⟨"OneBackModel", "goodLine", "(J)Z"⟩ ⟨"OneBackModel", "goodLine", "(J)Z"⟩ ∈ GT := GT_q (q := (⟨"OneBackModel", "goodLine", "(J)Z"⟩, 51)) (cp3 (m8 (List.Mem.tail _ (List.Mem.tail _ (List.Mem.tail _ (List.Mem.tail _ (List.Mem.tail _ (List.Mem.tail _ (List.Mem.head _)))))))))
theorem tp47 : Cond.selects "OneBackModel" ⟨"OneBackModel", "sonLine", "()Z"⟩ ⟨"OneBackModel", "sonLine", "()Z"⟩ ∈ GT := GT_q (q := (⟨"OneBackModel", "sonLine", "()Z"⟩, 51)) (cp3 (m8 (List.Mem.tail _ (List.Mem.tail _ (List.Mem.tail _ (List.Mem.tail _ (List.Mem.tail _ (List.Mem.tail _ (List.Mem.tail _ (List.Mem.head _))))))))))
theorem tp48 : Cond.selects "OneBackModel" ⟨"OneBackModel", "keep", "(IIII)V"⟩ ⟨"OneBackModel", "keep", "(IIII)V"⟩ ∈ GT := GT_q (q := (⟨"OneBackModel", "keep", "(IIII)V"⟩, 51)) (cp4 (List.Mem.head _))
theorem tp49 : Cond.selects "OneBackModel" ⟨"OneBackModel", "lawLine", "(J)Z"⟩ ⟨"OneBackModel", "lawLine", "(J)Z"⟩ ∈ GT := GT_q (q := (⟨"OneBackModel", "lawLine", "(J)Z"⟩, 51)) (cp4 (List.Mem.tail _ (List.Mem.head _)))
theorem tp50 : Cond.selects "OneBackModel" ⟨"OneBackModel", "nightsLine", "(JI)Z"⟩ ⟨"OneBackModel", "nightsLine", "(JI)Z"⟩ ∈ GT := GT_q (q := (⟨"OneBackModel", "nightsLine", "(JI)Z"⟩, 51)) (cp4 (List.Mem.tail _ (List.Mem.tail _ (List.Mem.head _))))
theorem tp51 : Cond.selects "OneBackModel" ⟨"OneBackModel", "sightLine", "(JI)Z"⟩ ⟨"OneBackModel", "sightLine", "(JI)Z"⟩ ∈ GT := GT_q (q := (⟨"OneBackModel", "sightLine", "(JI)Z"⟩, 51)) (cp4 (List.Mem.tail _ (List.Mem.tail _ (List.Mem.tail _ (List.Mem.head _)))))
theorem tp52 : Cond.selects "OneBackModel" ⟨"OneBackModel", "storeAll", "(II)V"⟩ ⟨"OneBackModel", "storeAll", "(II)V"⟩ ∈ GT := GT_q (q := (⟨"OneBackModel", "storeAll", "(II)V"⟩, 51)) (cp4 (List.Mem.tail _ (List.Mem.tail _ (List.Mem.tail _ (List.Mem.tail _ (List.Mem.head _))))))
theorem tp53 : Cond.selects "OneBackModel" ⟨"OneBackModel", "store", "([III)V"⟩ ⟨"OneBackModel", "store", "([III)V"⟩ ∈ GT := GT_q (q := (⟨"OneBackModel", "store", "([III)V"⟩, 51)) (cp4 (List.Mem.tail _ (List.Mem.tail _ (List.Mem.tail _ (List.Mem.tail _ (List.Mem.tail _ (List.Mem.head _)))))))
theorem tp54 : Cond.selects "OneBackModel" ⟨"OneBackModel", "hand", "(I)Z"⟩ ⟨"OneBackModel", "hand", "(I)Z"⟩ ∈ GT := GT_q (q := (⟨"OneBackModel", "hand", "(I)Z"⟩, 51)) (cp4 (List.Mem.tail _ (List.Mem.tail _ (List.Mem.tail _ (List.Mem.tail _ (List.Mem.tail _ (List.Mem.tail _ (List.Mem.head _))))))))
theorem tp55 : Cond.selects "OneBackModel" ⟨"OneBackModel", "of", "(I)I"⟩ ⟨"OneBackModel", "of", "(I)I"⟩ ∈ GT := GT_q (q := (⟨"OneBackModel", "of", "(I)I"⟩, 51)) (cp4 (List.Mem.tail _ (List.Mem.tail _ (List.Mem.tail _ (List.Mem.tail _ (List.Mem.tail _ (List.Mem.tail _ (List.Mem.tail _ (List.Mem.head _)))))))))
theorem tp56 : Cond.selects "OneBackModel" ⟨"OneBackModel", "isHouse", "(I)Z"⟩ ⟨"OneBackModel", "isHouse", "(I)Z"⟩ ∈ GT := GT_q (q := (⟨"OneBackModel", "isHouse", "(I)Z"⟩, 51)) (cp4 (m8 (List.Mem.head _)))
theorem tp57 : Cond.selects "OneBackModel" ⟨"OneBackModel", "isThief", "(I)Z"⟩ ⟨"OneBackModel", "isThief", "(I)Z"⟩ ∈ GT := GT_q (q := (⟨"OneBackModel", "isThief", "(I)Z"⟩, 51)) (cp4 (m8 (List.Mem.tail _ (List.Mem.head _))))
theorem tp58 : Cond.selects "OneBackModel" ⟨"OneBackModel", "spare", "(II)I"⟩ ⟨"OneBackModel", "spare", "(II)I"⟩ ∈ GT := GT_q (q := (⟨"OneBackModel", "spare", "(II)I"⟩, 51)) (cp4 (m8 (List.Mem.tail _ (List.Mem.tail _ (List.Mem.head _)))))
theorem tp59 : Cond.selects "OneBackModel" ⟨"OneBackModel", "lacks", "(II)I"⟩ ⟨"OneBackModel", "lacks", "(II)I"⟩ ∈ GT := GT_q (q := (⟨"OneBackModel", "lacks", "(II)I"⟩, 51)) (cp4 (m8 (List.Mem.tail _ (List.Mem.tail _ (List.Mem.tail _ (List.Mem.head _))))))
theorem tp60 : Cond.selects "OneBackModel" ⟨"OneBackModel", "hasLaw", "(I)Z"⟩ ⟨"OneBackModel", "hasLaw", "(I)Z"⟩ ∈ GT := GT_q (q := (⟨"OneBackModel", "hasLaw", "(I)Z"⟩, 51)) (cp4 (m8 (List.Mem.tail _ (List.Mem.tail _ (List.Mem.tail _ (List.Mem.tail _ (List.Mem.head _)))))))
theorem tp61 : Cond.selects "OneBackModel" ⟨"OneBackModel", "lawOf", "(I)I"⟩ ⟨"OneBackModel", "lawOf", "(I)I"⟩ ∈ GT := GT_q (q := (⟨"OneBackModel", "lawOf", "(I)I"⟩, 51)) (cp4 (m8 (List.Mem.tail _ (List.Mem.tail _ (List.Mem.tail _ (List.Mem.tail _ (List.Mem.tail _ (List.Mem.head _))))))))
theorem tp62 : Cond.selects "OneBackModel" ⟨"OneBackModel", "isDouble", "(I)Z"⟩ ⟨"OneBackModel", "isDouble", "(I)Z"⟩ ∈ GT := GT_q (q := (⟨"OneBackModel", "isDouble", "(I)Z"⟩, 51)) (cp4 (m8 (List.Mem.tail _ (List.Mem.tail _ (List.Mem.tail _ (List.Mem.tail _ (List.Mem.tail _ (List.Mem.tail _ (List.Mem.head _)))))))))
theorem tp63 : Cond.selects "OneBackModel" ⟨"OneBackModel", "hasNights", "(I)Z"⟩ ⟨"OneBackModel", "hasNights", "(I)Z"⟩ ∈ GT := GT_q (q := (⟨"OneBackModel", "hasNights", "(I)Z"⟩, 51)) (cp4 (m8 (List.Mem.tail _ (List.Mem.tail _ (List.Mem.tail _ (List.Mem.tail _ (List.Mem.tail _ (List.Mem.tail _ (List.Mem.tail _ (List.Mem.head _))))))))))
theorem tp64 : Cond.selects "OneBackModel" ⟨"OneBackModel", "deeds", "()I"⟩ ⟨"OneBackModel", "deeds", "()I"⟩ ∈ GT := GT_q (q := (⟨"OneBackModel", "deeds", "()I"⟩, 51)) (cp5 (List.Mem.head _))
theorem tp65 : Cond.selects "OneBackModel" ⟨"OneBackModel", "deedOf", "(II)I"⟩ ⟨"OneBackModel", "deedOf", "(II)I"⟩ ∈ GT := GT_q (q := (⟨"OneBackModel", "deedOf", "(II)I"⟩, 51)) (cp5 (List.Mem.tail _ (List.Mem.head _)))
theorem tp66 : Cond.selects "OneBackModel" ⟨"OneBackModel", "layAll", "(III)Z"⟩ ⟨"OneBackModel", "layAll", "(III)Z"⟩ ∈ GT := GT_q (q := (⟨"OneBackModel", "layAll", "(III)Z"⟩, 51)) (cp5 (List.Mem.tail _ (List.Mem.tail _ (List.Mem.head _))))
theorem tp67 : Cond.selects "OneBackModel" ⟨"OneBackModel", "play", "(I)I"⟩ ⟨"OneBackModel", "play", "(I)I"⟩ ∈ GT := GT_q (q := (⟨"OneBackModel", "play", "(I)I"⟩, 51)) (cp5 (List.Mem.tail _ (List.Mem.tail _ (List.Mem.tail _ (List.Mem.head _)))))
theorem tp68 : Cond.selects "OneBackModel" ⟨"OneBackModel", "begin", "()V"⟩ ⟨"OneBackModel", "begin", "()V"⟩ ∈ GT := GT_q (q := (⟨"OneBackModel", "begin", "()V"⟩, 51)) (cp5 (List.Mem.tail _ (List.Mem.tail _ (List.Mem.tail _ (List.Mem.tail _ (List.Mem.head _))))))
theorem tp69 : Cond.selects "OneBackModel" ⟨"OneBackModel", "does", "(I)Z"⟩ ⟨"OneBackModel", "does", "(I)Z"⟩ ∈ GT := GT_q (q := (⟨"OneBackModel", "does", "(I)Z"⟩, 51)) (cp5 (List.Mem.tail _ (List.Mem.tail _ (List.Mem.tail _ (List.Mem.tail _ (List.Mem.tail _ (List.Mem.head _)))))))
theorem tp70 : Cond.selects "OneBackModel" ⟨"OneBackModel", "takes", "(III)Z"⟩ ⟨"OneBackModel", "takes", "(III)Z"⟩ ∈ GT := GT_q (q := (⟨"OneBackModel", "takes", "(III)Z"⟩, 51)) (cp5 (List.Mem.tail _ (List.Mem.tail _ (List.Mem.tail _ (List.Mem.tail _ (List.Mem.tail _ (List.Mem.tail _ (List.Mem.head _))))))))
theorem tp71 : Cond.selects "OneBackModel" ⟨"OneBackModel", "isFree", "(I)Z"⟩ ⟨"OneBackModel", "isFree", "(I)Z"⟩ ∈ GT := GT_q (q := (⟨"OneBackModel", "isFree", "(I)Z"⟩, 51)) (cp5 (List.Mem.tail _ (List.Mem.tail _ (List.Mem.tail _ (List.Mem.tail _ (List.Mem.tail _ (List.Mem.tail _ (List.Mem.tail _ (List.Mem.head _)))))))))
theorem tp72 : Cond.selects "OneBackModel" ⟨"OneBackModel", "gives", "(III)Z"⟩ ⟨"OneBackModel", "gives", "(III)Z"⟩ ∈ GT := GT_q (q := (⟨"OneBackModel", "gives", "(III)Z"⟩, 51)) (cp5 (m8 (List.Mem.head _)))
theorem tp73 : Cond.selects "OneBackModel" ⟨"OneBackModel", "mayGive", "(III)Z"⟩ ⟨"OneBackModel", "mayGive", "(III)Z"⟩ ∈ GT := GT_q (q := (⟨"OneBackModel", "mayGive", "(III)Z"⟩, 51)) (cp5 (m8 (List.Mem.tail _ (List.Mem.head _))))
theorem tp74 : Cond.selects "OneBackModel" ⟨"OneBackModel", "sets", "(III)Z"⟩ ⟨"OneBackModel", "sets", "(III)Z"⟩ ∈ GT := GT_q (q := (⟨"OneBackModel", "sets", "(III)Z"⟩, 51)) (cp5 (m8 (List.Mem.tail _ (List.Mem.tail _ (List.Mem.head _)))))
theorem tp75 : Cond.selects "OneBackModel" ⟨"OneBackModel", "owes", "(I)I"⟩ ⟨"OneBackModel", "owes", "(I)I"⟩ ∈ GT := GT_q (q := (⟨"OneBackModel", "owes", "(I)I"⟩, 51)) (cp5 (m8 (List.Mem.tail _ (List.Mem.tail _ (List.Mem.tail _ (List.Mem.head _))))))
theorem tp76 : Cond.selects "OneBackModel" ⟨"OneBackModel", "ends", "()V"⟩ ⟨"OneBackModel", "ends", "()V"⟩ ∈ GT := GT_q (q := (⟨"OneBackModel", "ends", "()V"⟩, 51)) (cp5 (m8 (List.Mem.tail _ (List.Mem.tail _ (List.Mem.tail _ (List.Mem.tail _ (List.Mem.head _)))))))
theorem tp77 : Cond.selects "OneBackModel" ⟨"OneBackModel", "layState", "(IIII)Z"⟩ ⟨"OneBackModel", "layState", "(IIII)Z"⟩ ∈ GT := GT_q (q := (⟨"OneBackModel", "layState", "(IIII)Z"⟩, 51)) (cp5 (m8 (List.Mem.tail _ (List.Mem.tail _ (List.Mem.tail _ (List.Mem.tail _ (List.Mem.tail _ (List.Mem.head _))))))))
theorem tp78 : Cond.selects "OneBackModel" ⟨"OneBackModel", "queued", "(I)I"⟩ ⟨"OneBackModel", "queued", "(I)I"⟩ ∈ GT := GT_q (q := (⟨"OneBackModel", "queued", "(I)I"⟩, 51)) (cp5 (m8 (List.Mem.tail _ (List.Mem.tail _ (List.Mem.tail _ (List.Mem.tail _ (List.Mem.tail _ (List.Mem.tail _ (List.Mem.head _)))))))))
theorem tp79 : Cond.selects "OneBackModel" ⟨"OneBackModel", "odd", "(I)I"⟩ ⟨"OneBackModel", "odd", "(I)I"⟩ ∈ GT := GT_q (q := (⟨"OneBackModel", "odd", "(I)I"⟩, 51)) (cp5 (m8 (List.Mem.tail _ (List.Mem.tail _ (List.Mem.tail _ (List.Mem.tail _ (List.Mem.tail _ (List.Mem.tail _ (List.Mem.tail _ (List.Mem.head _))))))))))
theorem tp80 : Cond.selects "OneBackModel" ⟨"OneBackModel", "ofState", "(I)I"⟩ ⟨"OneBackModel", "ofState", "(I)I"⟩ ∈ GT := GT_q (q := (⟨"OneBackModel", "ofState", "(I)I"⟩, 51)) (cp6 (List.Mem.head _))
theorem tp81 : Cond.selects "OneBackModel" ⟨"OneBackModel", "want", "()I"⟩ ⟨"OneBackModel", "want", "()I"⟩ ∈ GT := GT_q (q := (⟨"OneBackModel", "want", "()I"⟩, 51)) (cp6 (List.Mem.tail _ (List.Mem.head _)))
theorem tp82 : Cond.selects "OneBackModel" ⟨"OneBackModel", "pious", "()I"⟩ ⟨"OneBackModel", "pious", "()I"⟩ ∈ GT := GT_q (q := (⟨"OneBackModel", "pious", "()I"⟩, 51)) (cp6 (List.Mem.tail _ (List.Mem.tail _ (List.Mem.head _))))
theorem tp83 : Cond.selects "OneBackModel" ⟨"OneBackModel", "ofEach", "(I)I"⟩ ⟨"OneBackModel", "ofEach", "(I)I"⟩ ∈ GT := GT_q (q := (⟨"OneBackModel", "ofEach", "(I)I"⟩, 51)) (cp6 (List.Mem.tail _ (List.Mem.tail _ (List.Mem.tail _ (List.Mem.head _)))))
theorem tp84 : Cond.selects "OneBackModel" ⟨"OneBackModel", "findAid", "()Z"⟩ ⟨"OneBackModel", "findAid", "()Z"⟩ ∈ GT := GT_q (q := (⟨"OneBackModel", "findAid", "()Z"⟩, 51)) (cp6 (List.Mem.tail _ (List.Mem.tail _ (List.Mem.tail _ (List.Mem.tail _ (List.Mem.head _))))))
theorem tp85 : Cond.selects "OneBackModel" ⟨"OneBackModel", "aidGood", "(I)Z"⟩ ⟨"OneBackModel", "aidGood", "(I)Z"⟩ ∈ GT := GT_q (q := (⟨"OneBackModel", "aidGood", "(I)Z"⟩, 51)) (cp6 (List.Mem.tail _ (List.Mem.tail _ (List.Mem.tail _ (List.Mem.tail _ (List.Mem.tail _ (List.Mem.head _)))))))
theorem tp86 : Cond.selects "OneBackModel" ⟨"OneBackModel", "aidNights", "()I"⟩ ⟨"OneBackModel", "aidNights", "()I"⟩ ∈ GT := GT_q (q := (⟨"OneBackModel", "aidNights", "()I"⟩, 51)) (cp6 (List.Mem.tail _ (List.Mem.tail _ (List.Mem.tail _ (List.Mem.tail _ (List.Mem.tail _ (List.Mem.tail _ (List.Mem.head _))))))))
theorem tp87 : Cond.selects "OneBackModel" ⟨"OneBackModel", "carryGood", "(I)I"⟩ ⟨"OneBackModel", "carryGood", "(I)I"⟩ ∈ GT := GT_q (q := (⟨"OneBackModel", "carryGood", "(I)I"⟩, 51)) (cp6 (List.Mem.tail _ (List.Mem.tail _ (List.Mem.tail _ (List.Mem.tail _ (List.Mem.tail _ (List.Mem.tail _ (List.Mem.tail _ (List.Mem.head _)))))))))
theorem tp88 : Cond.selects "OneBackModel" ⟨"OneBackModel", "carryOn", "(II)V"⟩ ⟨"OneBackModel", "carryOn", "(II)V"⟩ ∈ GT := GT_q (q := (⟨"OneBackModel", "carryOn", "(II)V"⟩, 51)) (cp6 (m8 (List.Mem.head _)))
theorem tp89 : Cond.selects "OneBackModel" ⟨"OneBackModel", "roundOf", "(I)I"⟩ ⟨"OneBackModel", "roundOf", "(I)I"⟩ ∈ GT := GT_q (q := (⟨"OneBackModel", "roundOf", "(I)I"⟩, 51)) (cp6 (m8 (List.Mem.tail _ (List.Mem.head _))))
theorem tp90 : Cond.selects "OneBackModel" ⟨"OneBackModel", "hasSight", "(I)Z"⟩ ⟨"OneBackModel", "hasSight", "(I)Z"⟩ ∈ GT := GT_q (q := (⟨"OneBackModel", "hasSight", "(I)Z"⟩, 51)) (cp6 (m8 (List.Mem.tail _ (List.Mem.tail _ (List.Mem.head _)))))
theorem tp91 : Cond.selects "OneBackModel" ⟨"OneBackModel", "gifts", "()I"⟩ ⟨"OneBackModel", "gifts", "()I"⟩ ∈ GT := GT_q (q := (⟨"OneBackModel", "gifts", "()I"⟩, 51)) (cp6 (m8 (List.Mem.tail _ (List.Mem.tail _ (List.Mem.tail _ (List.Mem.head _))))))
theorem tp92 : Cond.selects "OneBackModel" ⟨"OneBackModel", "giftOf", "(II)I"⟩ ⟨"OneBackModel", "giftOf", "(II)I"⟩ ∈ GT := GT_q (q := (⟨"OneBackModel", "giftOf", "(II)I"⟩, 51)) (cp6 (m8 (List.Mem.tail _ (List.Mem.tail _ (List.Mem.tail _ (List.Mem.tail _ (List.Mem.head _)))))))
theorem tp93 : Cond.selects "OneBackModel" ⟨"OneBackModel", "left", "(II)I"⟩ ⟨"OneBackModel", "left", "(II)I"⟩ ∈ GT := GT_q (q := (⟨"OneBackModel", "left", "(II)I"⟩, 51)) (cp6 (m8 (List.Mem.tail _ (List.Mem.tail _ (List.Mem.tail _ (List.Mem.tail _ (List.Mem.tail _ (List.Mem.head _))))))))
theorem tp94 : Cond.selects "OneBackModel" ⟨"OneBackModel", "canBe", "(I)Z"⟩ ⟨"OneBackModel", "canBe", "(I)Z"⟩ ∈ GT := GT_q (q := (⟨"OneBackModel", "canBe", "(I)Z"⟩, 51)) (cp6 (m8 (List.Mem.tail _ (List.Mem.tail _ (List.Mem.tail _ (List.Mem.tail _ (List.Mem.tail _ (List.Mem.tail _ (List.Mem.head _)))))))))
theorem tp95 : Cond.selects "OneBackModel" ⟨"OneBackModel", "isToldAll", "(I)Z"⟩ ⟨"OneBackModel", "isToldAll", "(I)Z"⟩ ∈ GT := GT_q (q := (⟨"OneBackModel", "isToldAll", "(I)Z"⟩, 51)) (cp6 (m8 (List.Mem.tail _ (List.Mem.tail _ (List.Mem.tail _ (List.Mem.tail _ (List.Mem.tail _ (List.Mem.tail _ (List.Mem.tail _ (List.Mem.head _))))))))))
theorem tp96 : Cond.selects "OneBackModel" ⟨"OneBackModel", "giftsBy", "(IIII)I"⟩ ⟨"OneBackModel", "giftsBy", "(IIII)I"⟩ ∈ GT := GT_q (q := (⟨"OneBackModel", "giftsBy", "(IIII)I"⟩, 51)) (cp7 (List.Mem.head _))
theorem tp97 : Cond.selects "OneBackModel" ⟨"OneBackModel", "doubles", "(II)I"⟩ ⟨"OneBackModel", "doubles", "(II)I"⟩ ∈ GT := GT_q (q := (⟨"OneBackModel", "doubles", "(II)I"⟩, 51)) (cp7 (List.Mem.tail _ (List.Mem.head _)))
theorem tp98 : Cond.selects "OneBackModel" ⟨"OneBackModel", "prizeOf", "(II)I"⟩ ⟨"OneBackModel", "prizeOf", "(II)I"⟩ ∈ GT := GT_q (q := (⟨"OneBackModel", "prizeOf", "(II)I"⟩, 51)) (cp7 (List.Mem.tail _ (List.Mem.tail _ (List.Mem.head _))))
theorem tp99 : Cond.selects "OneBackModel" ⟨"OneBackModel", "worthOf", "(I)I"⟩ ⟨"OneBackModel", "worthOf", "(I)I"⟩ ∈ GT := GT_q (q := (⟨"OneBackModel", "worthOf", "(I)I"⟩, 51)) (cp7 (List.Mem.tail _ (List.Mem.tail _ (List.Mem.tail _ (List.Mem.head _)))))
theorem tp100 : Cond.selects "OneBackModel" ⟨"OneBackModel", "isRest", "(II)Z"⟩ ⟨"OneBackModel", "isRest", "(II)Z"⟩ ∈ GT := GT_q (q := (⟨"OneBackModel", "isRest", "(II)Z"⟩, 51)) (cp7 (List.Mem.tail _ (List.Mem.tail _ (List.Mem.tail _ (List.Mem.tail _ (List.Mem.head _))))))
theorem tp101 : Cond.selects "OneBackModel" ⟨"OneBackModel", "drawThief", "(I)V"⟩ ⟨"OneBackModel", "drawThief", "(I)V"⟩ ∈ GT := GT_q (q := (⟨"OneBackModel", "drawThief", "(I)V"⟩, 51)) (cp7 (List.Mem.tail _ (List.Mem.tail _ (List.Mem.tail _ (List.Mem.tail _ (List.Mem.tail _ (List.Mem.head _)))))))
theorem tp102 : Cond.selects "OneBackModel" ⟨"OneBackModel", "draw", "(I)I"⟩ ⟨"OneBackModel", "draw", "(I)I"⟩ ∈ GT := GT_q (q := (⟨"OneBackModel", "draw", "(I)I"⟩, 51)) (cp7 (List.Mem.tail _ (List.Mem.tail _ (List.Mem.tail _ (List.Mem.tail _ (List.Mem.tail _ (List.Mem.tail _ (List.Mem.head _))))))))
theorem tp103 : Cond.selects "OneBackModel" ⟨"OneBackModel", "givesOne", "(I)Z"⟩ ⟨"OneBackModel", "givesOne", "(I)Z"⟩ ∈ GT := GT_q (q := (⟨"OneBackModel", "givesOne", "(I)Z"⟩, 51)) (cp7 (List.Mem.tail _ (List.Mem.tail _ (List.Mem.tail _ (List.Mem.tail _ (List.Mem.tail _ (List.Mem.tail _ (List.Mem.tail _ (List.Mem.head _)))))))))
theorem tp104 : Cond.selects "OneBackModel" ⟨"OneBackModel", "can", "(I)I"⟩ ⟨"OneBackModel", "can", "(I)I"⟩ ∈ GT := GT_q (q := (⟨"OneBackModel", "can", "(I)I"⟩, 51)) (cp7 (m8 (List.Mem.head _)))
theorem tp105 : Cond.selects "OneBackModel" ⟨"OneBackModel", "wealthOf", "(I)I"⟩ ⟨"OneBackModel", "wealthOf", "(I)I"⟩ ∈ GT := GT_q (q := (⟨"OneBackModel", "wealthOf", "(I)I"⟩, 51)) (cp7 (m8 (List.Mem.tail _ (List.Mem.head _))))
theorem tp106 : Cond.selects "OneBackModel" ⟨"OneBackModel", "ranked", "(I)I"⟩ ⟨"OneBackModel", "ranked", "(I)I"⟩ ∈ GT := GT_q (q := (⟨"OneBackModel", "ranked", "(I)I"⟩, 51)) (cp7 (m8 (List.Mem.tail _ (List.Mem.tail _ (List.Mem.head _)))))
theorem tp107 : Cond.selects "OneBackModel" ⟨"OneBackModel", "settle", "()I"⟩ ⟨"OneBackModel", "settle", "()I"⟩ ∈ GT := GT_q (q := (⟨"OneBackModel", "settle", "()I"⟩, 51)) (cp7 (m8 (List.Mem.tail _ (List.Mem.tail _ (List.Mem.tail _ (List.Mem.head _))))))
theorem tp108 : Cond.selects "OneBackModel" ⟨"OneBackModel", "areKin", "(II)Z"⟩ ⟨"OneBackModel", "areKin", "(II)Z"⟩ ∈ GT := GT_q (q := (⟨"OneBackModel", "areKin", "(II)Z"⟩, 51)) (cp7 (m8 (List.Mem.tail _ (List.Mem.tail _ (List.Mem.tail _ (List.Mem.tail _ (List.Mem.head _)))))))
theorem tp109 : Cond.selects "OneBackModel" ⟨"OneBackModel", "gap", "()I"⟩ ⟨"OneBackModel", "gap", "()I"⟩ ∈ GT := GT_q (q := (⟨"OneBackModel", "gap", "()I"⟩, 51)) (cp7 (m8 (List.Mem.tail _ (List.Mem.tail _ (List.Mem.tail _ (List.Mem.tail _ (List.Mem.tail _ (List.Mem.head _))))))))
theorem tp110 : Cond.selects "OneBackModel" ⟨"OneBackModel", "unlike", "(Z)I"⟩ ⟨"OneBackModel", "unlike", "(Z)I"⟩ ∈ GT := GT_q (q := (⟨"OneBackModel", "unlike", "(Z)I"⟩, 51)) (cp7 (m8 (List.Mem.tail _ (List.Mem.tail _ (List.Mem.tail _ (List.Mem.tail _ (List.Mem.tail _ (List.Mem.tail _ (List.Mem.head _)))))))))
theorem tp111 : Cond.selects "OneBackModel" ⟨"OneBackModel", "robbed", "()I"⟩ ⟨"OneBackModel", "robbed", "()I"⟩ ∈ GT := GT_q (q := (⟨"OneBackModel", "robbed", "()I"⟩, 51)) (cp7 (m8 (List.Mem.tail _ (List.Mem.tail _ (List.Mem.tail _ (List.Mem.tail _ (List.Mem.tail _ (List.Mem.tail _ (List.Mem.tail _ (List.Mem.head _))))))))))
theorem tp112 : Cond.selects "OneBackModel" ⟨"OneBackModel", "haulWorth", "(IIII)I"⟩ ⟨"OneBackModel", "haulWorth", "(IIII)I"⟩ ∈ GT := GT_q (q := (⟨"OneBackModel", "haulWorth", "(IIII)I"⟩, 51)) (cp8 (List.Mem.head _))
theorem tp113 : Cond.selects "OneBackModel" ⟨"OneBackModel", "limits", "(I)I"⟩ ⟨"OneBackModel", "limits", "(I)I"⟩ ∈ GT := GT_q (q := (⟨"OneBackModel", "limits", "(I)I"⟩, 51)) (cp8 (List.Mem.tail _ (List.Mem.head _)))
theorem tp114 : Cond.selects "OneBackModel" ⟨"OneBackModel", "heads", "(I)I"⟩ ⟨"OneBackModel", "heads", "(I)I"⟩ ∈ GT := GT_q (q := (⟨"OneBackModel", "heads", "(I)I"⟩, 51)) (cp8 (List.Mem.tail _ (List.Mem.tail _ (List.Mem.head _))))
theorem tp115 : Cond.selects "OneBackModel" ⟨"OneBackModel", "helps", "(II)Z"⟩ ⟨"OneBackModel", "helps", "(II)Z"⟩ ∈ GT := GT_q (q := (⟨"OneBackModel", "helps", "(II)Z"⟩, 51)) (cp8 (List.Mem.tail _ (List.Mem.tail _ (List.Mem.tail _ (List.Mem.head _)))))
theorem tp116 : Cond.selects "OneBackModel" ⟨"OneBackModel", "copyAll", "(II)V"⟩ ⟨"OneBackModel", "copyAll", "(II)V"⟩ ∈ GT := GT_q (q := (⟨"OneBackModel", "copyAll", "(II)V"⟩, 51)) (cp8 (List.Mem.tail _ (List.Mem.tail _ (List.Mem.tail _ (List.Mem.tail _ (List.Mem.head _))))))
