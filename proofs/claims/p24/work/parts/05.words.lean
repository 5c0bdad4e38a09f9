/-- the good words of the tables: every method of ours has them all -/
def AL : List Cond := lw_tbl.filter goodWord
theorem AL_good : ∀ w ∈ AL, goodWord w = true := fun _ h => (List.mem_filter.mp h).2
theorem AL_sub : ∀ w ∈ AL, w ∈ lw_tbl := fun _ h => (List.mem_filter.mp h).1
theorem AL_s {w : Cond} (i : Nat) (h : (k2_sels lw_privs)[i]? = some w) (g : goodWord w = true) : w ∈ AL := List.mem_filter.mpr ⟨List.mem_append_left _ (List.mem_of_getElem? h), g⟩
theorem AL_1 {w : Cond} (i : Nat) (h : tables_1_1[i]? = some w) (g : goodWord w = true) : w ∈ AL := List.mem_filter.mpr ⟨List.mem_append_right _ (by unfold tables_1; exact List.mem_append_left _ (List.mem_of_getElem? h)), g⟩
theorem AT_1 {w : Cond} (i : Nat) (h : tables_1_1[i]? = some w) : w ∈ lw_tbl := List.mem_append_right _ (by unfold tables_1; exact List.mem_append_left _ (List.mem_of_getElem? h))
theorem AL_2 {w : Cond} (i : Nat) (h : tables_1_2[i]? = some w) (g : goodWord w = true) : w ∈ AL := List.mem_filter.mpr ⟨List.mem_append_right _ (by unfold tables_1; exact List.mem_append_right _ (List.mem_append_left _ (List.mem_of_getElem? h))), g⟩
theorem AT_2 {w : Cond} (i : Nat) (h : tables_1_2[i]? = some w) : w ∈ lw_tbl := List.mem_append_right _ (by unfold tables_1; exact List.mem_append_right _ (List.mem_append_left _ (List.mem_of_getElem? h)))
theorem AL_3 {w : Cond} (i : Nat) (h : tables_1_3[i]? = some w) (g : goodWord w = true) : w ∈ AL := List.mem_filter.mpr ⟨List.mem_append_right _ (by unfold tables_1; exact List.mem_append_right _ (List.mem_append_right _ (List.mem_append_left _ (List.mem_of_getElem? h)))), g⟩
theorem AT_3 {w : Cond} (i : Nat) (h : tables_1_3[i]? = some w) : w ∈ lw_tbl := List.mem_append_right _ (by unfold tables_1; exact List.mem_append_right _ (List.mem_append_right _ (List.mem_append_left _ (List.mem_of_getElem? h))))
theorem AL_4 {w : Cond} (i : Nat) (h : tables_1_4[i]? = some w) (g : goodWord w = true) : w ∈ AL := List.mem_filter.mpr ⟨List.mem_append_right _ (by unfold tables_1; exact List.mem_append_right _ (List.mem_append_right _ (List.mem_append_right _ ((List.mem_of_getElem? h))))), g⟩
theorem AT_4 {w : Cond} (i : Nat) (h : tables_1_4[i]? = some w) : w ∈ lw_tbl := List.mem_append_right _ (by unfold tables_1; exact List.mem_append_right _ (List.mem_append_right _ (List.mem_append_right _ ((List.mem_of_getElem? h)))))
theorem wq0 : (.initialized RL : Cond) ∈ AL := AL_1 0 rfl rfl
theorem wq1 : (.initialized RX5 : Cond) ∈ AL := AL_1 1 rfl rfl
theorem wq2 : (.initialized RX1 : Cond) ∈ AL := AL_1 2 rfl rfl
theorem wq3 : (.initialized RX4 : Cond) ∈ AL := AL_1 3 rfl rfl
theorem wq4 : (.initialized RJxa1e45 : Cond) ∈ AL := AL_1 4 rfl rfl
theorem wq5 : (.initialized RJxc12de : Cond) ∈ AL := AL_1 5 rfl rfl
theorem wq6 : (.initialized RJx4a65c : Cond) ∈ AL := AL_1 6 rfl rfl
theorem wq7 : (.initialized RX8 : Cond) ∈ AL := AL_1 7 rfl rfl
theorem wq8 : (.initialized "java/lang/Throwable" : Cond) ∈ AL := AL_1 8 rfl rfl
theorem wq9 : (.initialized "java/lang/Exception" : Cond) ∈ AL := AL_1 9 rfl rfl
theorem wq10 : (.initialized "java/lang/RuntimeException" : Cond) ∈ AL := AL_1 10 rfl rfl
theorem wq11 : (.initialized "java/lang/IndexOutOfBoundsException" : Cond) ∈ AL := AL_1 11 rfl rfl
theorem wq12 : (.initialized "java/lang/IllegalArgumentException" : Cond) ∈ AL := AL_1 12 rfl rfl
theorem wq13 : (.initialized RJ15 : Cond) ∈ AL := AL_1 13 rfl rfl
theorem wq14 : (.initialized RJ3 : Cond) ∈ AL := AL_1 14 rfl rfl
theorem wq15 : (.initialized "java/lang/IllegalStateException" : Cond) ∈ AL := AL_1 15 rfl rfl
theorem wq16 : (.initialized RX2 : Cond) ∈ AL := AL_1 16 rfl rfl
theorem wq17 : (.initialized RJ8 : Cond) ∈ AL := AL_1 17 rfl rfl
theorem wq18 : (.initialized RJ9 : Cond) ∈ AL := AL_1 18 rfl rfl
theorem wq19 : (.initialized RJ7 : Cond) ∈ AL := AL_1 19 rfl rfl
theorem wq20 : (.initialized RJ10 : Cond) ∈ AL := AL_1 20 rfl rfl
theorem wq21 : (.initialized RX7 : Cond) ∈ AL := AL_1 21 rfl rfl
theorem wq22 : (.initialized RX3 : Cond) ∈ AL := AL_1 22 rfl rfl
theorem wq23 : (.initialized RX0 : Cond) ∈ AL := AL_1 23 rfl rfl
theorem wq24 : (.initialized RX6 : Cond) ∈ AL := AL_1 24 rfl rfl
theorem wq25 : (.classLink RL 27 RX5 : Cond) ∈ AL := AL_1 25 rfl rfl
theorem wq26 : (.instantiable RX5 3 : Cond) ∈ AL := AL_1 26 rfl rfl
theorem wq27 : (.methodLink RL 127 yX5_init : Cond) ∈ AL := AL_1 27 rfl rfl
theorem wq28 : (.instanceMethod yX5_init : Cond) ∈ AL := AL_1 28 rfl rfl
theorem wq29 : (.code yX5_init cX5_init 1 (none : Option Jvm.ClassFile.FieldType) : Cond) ∈ AL := AL_1 29 rfl rfl
theorem wq30 : (.methodLink RX5 3 objectInit : Cond) ∈ AL := AL_1 30 rfl rfl
theorem wq31 : (.instanceMethod objectInit : Cond) ∈ AL := AL_1 31 rfl rfl
theorem wq32 : (.code objectInit object_method_1_code 1 (none : Option Jvm.ClassFile.FieldType) : Cond) ∈ AL := AL_1 32 rfl rfl
theorem wq33 : (.classLink RX5 9 RX1 : Cond) ∈ AL := AL_1 33 rfl rfl
theorem wq34 : (.instantiable RX1 3 : Cond) ∈ AL := AL_1 34 rfl rfl
theorem wq36 : (.instanceMethod yX1_init : Cond) ∈ AL := AL_1 36 rfl rfl
theorem wq37 : (.code yX1_init cX1_init 1 (none : Option Jvm.ClassFile.FieldType) : Cond) ∈ AL := AL_1 37 rfl rfl
theorem wq38 : (.methodLink RX1 3 objectInit : Cond) ∈ AL := AL_1 38 rfl rfl
theorem wq39 : (.fieldLink RX1 9 "FireEngines$Ground" "kinds" "[I" : Cond) ∈ AL := AL_1 39 rfl rfl
theorem wq40 : (.fieldLink RX1 15 "FireEngines$Ground" "numbers" "[I" : Cond) ∈ AL := AL_1 40 rfl rfl
theorem wq41 : (.fieldLink RX1 18 "FireEngines$Ground" "steps" "[I" : Cond) ∈ AL := AL_1 41 rfl rfl
theorem wq42 : (.laysFinal "FireEngines$Ground" "FireEngines$Ground" "kinds" "[I" : Cond) ∈ AL := AL_1 42 rfl rfl
theorem wq44 : (.laysFinal "FireEngines$Ground" "FireEngines$Ground" "numbers" "[I" : Cond) ∈ AL := AL_1 44 rfl rfl
theorem wq46 : (.laysFinal "FireEngines$Ground" "FireEngines$Ground" "steps" "[I" : Cond) ∈ AL := AL_1 46 rfl rfl
theorem wq49 : (.arrayClass .int : Cond) ∈ AL := AL_1 49 rfl rfl
theorem wq50 : (.classLink RX5 16 RX4 : Cond) ∈ AL := AL_1 50 rfl rfl
theorem wq51 : (.instantiable RX4 4 : Cond) ∈ AL := AL_1 51 rfl rfl
theorem wq53 : (.instanceMethod yX4_init : Cond) ∈ AL := AL_1 53 rfl rfl
theorem wq54 : (.code yX4_init cX4_init 1 (none : Option Jvm.ClassFile.FieldType) : Cond) ∈ AL := AL_1 54 rfl rfl
theorem wq55 : (.methodLink RX4 3 objectInit : Cond) ∈ AL := AL_1 55 rfl rfl
theorem wq56 : (.classLink RX4 9 RJx4a65c : Cond) ∈ AL := AL_1 56 rfl rfl
theorem wq57 : (.instantiable RJx4a65c 3 : Cond) ∈ AL := AL_1 57 rfl rfl
theorem wq58 : (.methodLink RX4 11 yJx4a65c_init_da8c8 : Cond) ∈ AL := AL_1 58 rfl rfl
theorem wq59 : (.instanceMethod yJx4a65c_init_da8c8 : Cond) ∈ AL := AL_1 59 rfl rfl
theorem wq60 : (.code yJx4a65c_init_da8c8 cJx4a65c_init_da8c8 1 (none : Option Jvm.ClassFile.FieldType) : Cond) ∈ AL := AL_1 60 rfl rfl
theorem wq61 : (.methodLink RJx4a65c 1 yJxc12de_init_da8c8 : Cond) ∈ AL := AL_1 61 rfl rfl
theorem wq62 : (.instanceMethod yJxc12de_init_da8c8 : Cond) ∈ AL := AL_1 62 rfl rfl
theorem wq63 : (.code yJxc12de_init_da8c8 cJxc12de_init_da8c8 1 (none : Option Jvm.ClassFile.FieldType) : Cond) ∈ AL := AL_1 63 rfl rfl
theorem wq64 : (.methodLink RJxc12de 1 yJxa1e45_init_da8c8 : Cond) ∈ AL := AL_1 64 rfl rfl
theorem wq65 : (.instanceMethod yJxa1e45_init_da8c8 : Cond) ∈ AL := AL_1 65 rfl rfl
theorem wq66 : (.code yJxa1e45_init_da8c8 cJxa1e45_init_da8c8 1 (none : Option Jvm.ClassFile.FieldType) : Cond) ∈ AL := AL_1 66 rfl rfl
theorem wq67 : (.methodLink RJxa1e45 1 objectInit : Cond) ∈ AL := AL_1 67 rfl rfl
theorem wq68 : (.fieldLink RJx4a65c 39 "java/util/ArrayList" "DEFAULTCAPACITY_EMPTY_ELEMENTDATA" "[Ljava/lang/Object;" : Cond) ∈ AL := AL_1 68 rfl rfl
theorem wt69 : (.laysStatic "java/util/ArrayList" "DEFAULTCAPACITY_EMPTY_ELEMENTDATA" "[Ljava/lang/Object;" : Cond) ∈ lw_tbl := AT_1 69 rfl
theorem wq70 : (.fieldLink RJx4a65c 9 "java/util/ArrayList" "elementData" "[Ljava/lang/Object;" : Cond) ∈ AL := AL_1 70 rfl rfl
theorem wq71 : (.fieldLink RJx4a65c 48 "java/util/ArrayList" "size" "I" : Cond) ∈ AL := AL_1 71 rfl rfl
theorem wq72 : (.fieldLink RJxc12de 7 "java/util/AbstractList" "modCount" "I" : Cond) ∈ AL := AL_1 72 rfl rfl
theorem wq73 : (.fieldLink RJx4a65c 63 "java/util/ArrayList" "modCount" "I" : Cond) ∈ AL := AL_1 73 rfl rfl
theorem wq74 : (.sameField "java/util/ArrayList" "java/util/AbstractList" "modCount" "I" : Cond) ∈ AL := AL_1 74 rfl rfl
theorem wq75 : (.lays "java/util/ArrayList" "java/util/ArrayList" "elementData" "[Ljava/lang/Object;" : Cond) ∈ AL := AL_1 75 rfl rfl
theorem wq77 : (.lays "java/util/ArrayList" "java/util/ArrayList" "size" "I" : Cond) ∈ AL := AL_1 77 rfl rfl
theorem wq79 : (.lays "java/util/ArrayList" "java/util/AbstractList" "modCount" "I" : Cond) ∈ AL := AL_1 79 rfl rfl
theorem wq82 : (.fieldLink RX4 24 "FireEngines$Town" "minute" "I" : Cond) ∈ AL := AL_1 82 rfl rfl
theorem wq83 : (.fieldLink RX4 12 "FireEngines$Town" "houses" "Ljava/util/ArrayList;" : Cond) ∈ AL := AL_1 83 rfl rfl
theorem wq85 : (.fieldLink RX4 18 "FireEngines$Town" "ponds" "Ljava/util/ArrayList;" : Cond) ∈ AL := AL_1 85 rfl rfl
theorem wq87 : (.fieldLink RX4 21 "FireEngines$Town" "engines" "Ljava/util/ArrayList;" : Cond) ∈ AL := AL_1 87 rfl rfl
theorem wq89 : (.lays "FireEngines$Town" "FireEngines$Town" "minute" "I" : Cond) ∈ AL := AL_1 89 rfl rfl
theorem wq91 : (.laysFinal "FireEngines$Town" "FireEngines$Town" "houses" "Ljava/util/ArrayList;" : Cond) ∈ AL := AL_1 91 rfl rfl
theorem wq93 : (.laysFinal "FireEngines$Town" "FireEngines$Town" "ponds" "Ljava/util/ArrayList;" : Cond) ∈ AL := AL_1 93 rfl rfl
theorem wq95 : (.laysFinal "FireEngines$Town" "FireEngines$Town" "engines" "Ljava/util/ArrayList;" : Cond) ∈ AL := AL_1 95 rfl rfl
theorem wq98 : (.fieldLink RX5 12 "FireEngines" "ground" "LFireEngines$Ground;" : Cond) ∈ AL := AL_1 98 rfl rfl
theorem wq99 : (.fieldLink RX5 19 "FireEngines" "town" "LFireEngines$Town;" : Cond) ∈ AL := AL_1 99 rfl rfl
theorem wq100 : (.fieldLink RX5 23 "FireEngines" "ahead" "LFireEngines$Town;" : Cond) ∈ AL := AL_1 100 rfl rfl
theorem wq101 : (.laysFinal "FireEngines" "FireEngines" "ground" "LFireEngines$Ground;" : Cond) ∈ AL := AL_1 101 rfl rfl
theorem wq103 : (.laysFinal "FireEngines" "FireEngines" "town" "LFireEngines$Town;" : Cond) ∈ AL := AL_1 103 rfl rfl
theorem wq105 : (.laysFinal "FireEngines" "FireEngines" "ahead" "LFireEngines$Town;" : Cond) ∈ AL := AL_1 105 rfl rfl
theorem wq108 : (.methodLink RL 135 yX5_house : Cond) ∈ AL := AL_1 108 rfl rfl
theorem wq109 : (.instanceMethod yX5_house : Cond) ∈ AL := AL_1 109 rfl rfl
theorem wq110 : (.selects RX5 yX5_house yX5_house : Cond) ∈ AL := AL_1 110 rfl rfl
theorem wq111 : (.code yX5_house cX5_house 3 (some .int) : Cond) ∈ AL := AL_1 111 rfl rfl
theorem wq112 : (.methodLink RX5 74 yX5_requireHouse : Cond) ∈ AL := AL_1 112 rfl rfl
theorem wq114 : (.instanceMethod yX5_requireHouse : Cond) ∈ AL := AL_1 114 rfl rfl
theorem wq115 : (.code yX5_requireHouse cX5_requireHouse 2 (none : Option Jvm.ClassFile.FieldType) : Cond) ∈ AL := AL_1 115 rfl rfl
theorem wq116 : (.methodLink RX5 46 yJx4a65c_size_8abf5 : Cond) ∈ AL := AL_1 116 rfl rfl
theorem wq117 : (.instanceMethod yJx4a65c_size_8abf5 : Cond) ∈ AL := AL_1 117 rfl rfl
theorem wq118 : (.selects RJx4a65c yJx4a65c_size_8abf5 yJx4a65c_size_8abf5 : Cond) ∈ AL := AL_1 118 rfl rfl
theorem wq119 : (.code yJx4a65c_size_8abf5 cJx4a65c_size_8abf5 1 (some .int) : Cond) ∈ AL := AL_1 119 rfl rfl
theorem wq120 : (.classLink RX5 160 "java/lang/IndexOutOfBoundsException" : Cond) ∈ AL := AL_1 120 rfl rfl
theorem wq121 : (.instantiable "java/lang/IndexOutOfBoundsException" 6 : Cond) ∈ AL := AL_1 121 rfl rfl
theorem wq129 : (.selects "java/lang/IndexOutOfBoundsException" ⟨"java/lang/Throwable", "fillInStackTrace", "(I)Ljava/lang/Throwable;"⟩ ⟨"java/lang/Throwable", "fillInStackTrace", "(I)Ljava/lang/Throwable;"⟩ : Cond) ∈ AL := AL_1 129 rfl rfl
theorem wq130 : (.selects "java/lang/IndexOutOfBoundsException" ⟨"java/lang/Throwable", "fillInStackTrace", "()Ljava/lang/Throwable;"⟩ ⟨"java/lang/Throwable", "fillInStackTrace", "()Ljava/lang/Throwable;"⟩ : Cond) ∈ AL := AL_1 130 rfl rfl
theorem wq131 : (.lays "java/lang/IndexOutOfBoundsException" "java/lang/Throwable" "cause" "Ljava/lang/Throwable;" : Cond) ∈ AL := AL_1 131 rfl rfl
theorem wq132 : (.lays "java/lang/Throwable" "java/lang/Throwable" "cause" "Ljava/lang/Throwable;" : Cond) ∈ AL := AL_1 132 rfl rfl
theorem wq133 : (.lays "java/lang/IndexOutOfBoundsException" "java/lang/Throwable" "stackTrace" "[Ljava/lang/StackTraceElement;" : Cond) ∈ AL := AL_1 133 rfl rfl
theorem wq134 : (.lays "java/lang/Throwable" "java/lang/Throwable" "stackTrace" "[Ljava/lang/StackTraceElement;" : Cond) ∈ AL := AL_1 134 rfl rfl
theorem wq135 : (.lays "java/lang/IndexOutOfBoundsException" "java/lang/Throwable" "suppressedExceptions" "Ljava/util/List;" : Cond) ∈ AL := AL_1 135 rfl rfl
theorem wq136 : (.lays "java/lang/Throwable" "java/lang/Throwable" "suppressedExceptions" "Ljava/util/List;" : Cond) ∈ AL := AL_1 136 rfl rfl
theorem wq137 : (.lays "java/lang/IndexOutOfBoundsException" "java/lang/Throwable" "detailMessage" "Ljava/lang/String;" : Cond) ∈ AL := AL_1 137 rfl rfl
theorem wq138 : (.lays "java/lang/Throwable" "java/lang/Throwable" "detailMessage" "Ljava/lang/String;" : Cond) ∈ AL := AL_1 138 rfl rfl
theorem wq139 : (.lays "java/lang/IndexOutOfBoundsException" "java/lang/Throwable" "backtrace" "Ljava/lang/Object;" : Cond) ∈ AL := AL_1 139 rfl rfl
theorem wq140 : (.lays "java/lang/Throwable" "java/lang/Throwable" "backtrace" "Ljava/lang/Object;" : Cond) ∈ AL := AL_1 140 rfl rfl
theorem wq141 : (.fieldLink "java/lang/Throwable" 198 "java/lang/Throwable" "backtrace" "Ljava/lang/Object;" : Cond) ∈ AL := AL_1 141 rfl rfl
theorem wq143 : (.instanceMethod ⟨"java/lang/Throwable", "<init>", "()V"⟩ : Cond) ∈ AL := AL_1 143 rfl rfl
theorem wq144 : (.code ⟨"java/lang/Throwable", "<init>", "()V"⟩ prog_23_method_1_code 1 (none : Option Jvm.ClassFile.FieldType) : Cond) ∈ AL := AL_1 144 rfl rfl
theorem wq145 : (.methodLink "java/lang/Throwable" 1 objectInit : Cond) ∈ AL := AL_1 145 rfl rfl
theorem wq146 : (.fieldLink "java/lang/Throwable" 13 "java/lang/Throwable" "UNASSIGNED_STACK" "[Ljava/lang/StackTraceElement;" : Cond) ∈ AL := AL_1 146 rfl rfl
theorem wt147 : (.laysStatic "java/lang/Throwable" "UNASSIGNED_STACK" "[Ljava/lang/StackTraceElement;" : Cond) ∈ lw_tbl := AT_1 147 rfl
theorem wq148 : (.fieldLink "java/lang/Throwable" 20 "java/lang/Throwable" "SUPPRESSED_SENTINEL" "Ljava/util/List;" : Cond) ∈ AL := AL_1 148 rfl rfl
theorem wt149 : (.laysStatic "java/lang/Throwable" "SUPPRESSED_SENTINEL" "Ljava/util/List;" : Cond) ∈ lw_tbl := AT_1 149 rfl
theorem wq150 : (.methodLink "java/lang/Throwable" 27 ⟨"java/lang/Throwable", "fillInStackTrace", "()Ljava/lang/Throwable;"⟩ : Cond) ∈ AL := AL_1 150 rfl rfl
theorem wq151 : (.instanceMethod ⟨"java/lang/Throwable", "fillInStackTrace", "()Ljava/lang/Throwable;"⟩ : Cond) ∈ AL := AL_1 151 rfl rfl
theorem wq152 : (.sameMethod "java/lang/Throwable" "java/lang/Throwable" "fillInStackTrace" "()Ljava/lang/Throwable;" : Cond) ∈ AL := AL_1 152 rfl rfl
theorem wq153 : (.selects "java/lang/IllegalArgumentException" ⟨"java/lang/Throwable", "fillInStackTrace", "()Ljava/lang/Throwable;"⟩ ⟨"java/lang/Throwable", "fillInStackTrace", "()Ljava/lang/Throwable;"⟩ : Cond) ∈ AL := AL_1 153 rfl rfl
theorem wq154 : (.selects "java/lang/IllegalStateException" ⟨"java/lang/Throwable", "fillInStackTrace", "()Ljava/lang/Throwable;"⟩ ⟨"java/lang/Throwable", "fillInStackTrace", "()Ljava/lang/Throwable;"⟩ : Cond) ∈ AL := AL_1 154 rfl rfl
theorem wq155 : (.codeSync ⟨"java/lang/Throwable", "fillInStackTrace", "()Ljava/lang/Throwable;"⟩ prog_23_method_18_code 1 (some (.object "java/lang/Throwable")) : Cond) ∈ AL := AL_1 155 rfl rfl
theorem wq156 : (.methodLink "java/lang/Throwable" 202 ⟨"java/lang/Throwable", "fillInStackTrace", "(I)Ljava/lang/Throwable;"⟩ : Cond) ∈ AL := AL_1 156 rfl rfl
theorem wq158 : (.instanceMethod ⟨"java/lang/Throwable", "fillInStackTrace", "(I)Ljava/lang/Throwable;"⟩ : Cond) ∈ AL := AL_1 158 rfl rfl
theorem wq159 : (.instantiable "java/lang/Throwable" 6 : Cond) ∈ AL := AL_1 159 rfl rfl
theorem wq160 : (.native ⟨"java/lang/Throwable", "fillInStackTrace", "(I)Ljava/lang/Throwable;"⟩ : Cond) ∈ AL := AL_1 160 rfl rfl
theorem wq162 : (.methodLink RX5 164 ⟨"java/lang/IndexOutOfBoundsException", "<init>", "(Ljava/lang/String;)V"⟩ : Cond) ∈ AL := AL_1 162 rfl rfl
theorem wq163 : (.instanceMethod ⟨"java/lang/IndexOutOfBoundsException", "<init>", "(Ljava/lang/String;)V"⟩ : Cond) ∈ AL := AL_1 163 rfl rfl
theorem wq164 : (.code ⟨"java/lang/IndexOutOfBoundsException", "<init>", "(Ljava/lang/String;)V"⟩ prog_17_method_2_code 2 (none : Option Jvm.ClassFile.FieldType) : Cond) ∈ AL := AL_1 164 rfl rfl
theorem wq165 : (.methodLink "java/lang/IndexOutOfBoundsException" 7 ⟨"java/lang/RuntimeException", "<init>", "(Ljava/lang/String;)V"⟩ : Cond) ∈ AL := AL_1 165 rfl rfl
theorem wq166 : (.instanceMethod ⟨"java/lang/RuntimeException", "<init>", "(Ljava/lang/String;)V"⟩ : Cond) ∈ AL := AL_1 166 rfl rfl
theorem wq167 : (.code ⟨"java/lang/RuntimeException", "<init>", "(Ljava/lang/String;)V"⟩ prog_20_method_2_code 2 (none : Option Jvm.ClassFile.FieldType) : Cond) ∈ AL := AL_1 167 rfl rfl
theorem wq168 : (.methodLink "java/lang/RuntimeException" 7 ⟨"java/lang/Exception", "<init>", "(Ljava/lang/String;)V"⟩ : Cond) ∈ AL := AL_1 168 rfl rfl
theorem wq169 : (.instanceMethod ⟨"java/lang/Exception", "<init>", "(Ljava/lang/String;)V"⟩ : Cond) ∈ AL := AL_1 169 rfl rfl
theorem wq170 : (.code ⟨"java/lang/Exception", "<init>", "(Ljava/lang/String;)V"⟩ prog_14_method_2_code 2 (none : Option Jvm.ClassFile.FieldType) : Cond) ∈ AL := AL_1 170 rfl rfl
theorem wq171 : (.methodLink "java/lang/Exception" 7 ⟨"java/lang/Throwable", "<init>", "(Ljava/lang/String;)V"⟩ : Cond) ∈ AL := AL_1 171 rfl rfl
theorem wq172 : (.instanceMethod ⟨"java/lang/Throwable", "<init>", "(Ljava/lang/String;)V"⟩ : Cond) ∈ AL := AL_1 172 rfl rfl
theorem wq173 : (.code ⟨"java/lang/Throwable", "<init>", "(Ljava/lang/String;)V"⟩ prog_23_method_2_code 2 (none : Option Jvm.ClassFile.FieldType) : Cond) ∈ AL := AL_1 173 rfl rfl
theorem wq174 : (.fieldLink "java/lang/Throwable" 198 "java/lang/Throwable" "backtrace" "Ljava/lang/Object;" : Cond) ∈ AL := AL_1 174 rfl rfl
theorem wq175 : (.fieldLink "java/lang/Throwable" 31 "java/lang/Throwable" "detailMessage" "Ljava/lang/String;" : Cond) ∈ AL := AL_1 175 rfl rfl
theorem wq176 : (.fieldLink "java/lang/Throwable" 7 "java/lang/Throwable" "cause" "Ljava/lang/Throwable;" : Cond) ∈ AL := AL_1 176 rfl rfl
theorem wq177 : (.fieldLink "java/lang/Throwable" 17 "java/lang/Throwable" "stackTrace" "[Ljava/lang/StackTraceElement;" : Cond) ∈ AL := AL_1 177 rfl rfl
theorem wq178 : (.fieldLink "java/lang/Throwable" 24 "java/lang/Throwable" "suppressedExceptions" "Ljava/util/List;" : Cond) ∈ AL := AL_1 178 rfl rfl
theorem wq183 : (.lays "java/lang/IndexOutOfBoundsException" "java/lang/Throwable" "depth" "I" : Cond) ∈ AL := AL_1 183 rfl rfl
theorem wq187 : (.arrayClass .byte : Cond) ∈ AL := AL_1 187 rfl rfl
theorem wq188 : (.methodLink RX5 93 yX5_requireQuestion : Cond) ∈ AL := AL_1 188 rfl rfl
theorem wq189 : (.static yX5_requireQuestion : Cond) ∈ AL := AL_1 189 rfl rfl
theorem wq190 : (.code yX5_requireQuestion cX5_requireQuestion 2 (none : Option Jvm.ClassFile.FieldType) : Cond) ∈ AL := AL_1 190 rfl rfl
theorem wq192 : (.methodLink RX5 78 yJx4a65c_get_915e3 : Cond) ∈ AL := AL_1 192 rfl rfl
theorem wq193 : (.instanceMethod yJx4a65c_get_915e3 : Cond) ∈ AL := AL_1 193 rfl rfl
theorem wq194 : (.selects RJx4a65c yJx4a65c_get_915e3 yJx4a65c_get_915e3 : Cond) ∈ AL := AL_1 194 rfl rfl
theorem wq195 : (.code yJx4a65c_get_915e3 cJx4a65c_get_915e3 2 (some (.object "java/lang/Object")) : Cond) ∈ AL := AL_1 195 rfl rfl
theorem wq196 : (.methodLink RJx4a65c 118 yJ15_checkIndex_7cf53 : Cond) ∈ AL := AL_1 196 rfl rfl
theorem wq197 : (.static yJ15_checkIndex_7cf53 : Cond) ∈ AL := AL_1 197 rfl rfl
theorem wq198 : (.code yJ15_checkIndex_7cf53 cJ15_checkIndex_7cf53 2 (some .int) : Cond) ∈ AL := AL_1 198 rfl rfl
theorem wq199 : (.methodLink RJ15 105 yJ3_checkIndex_8e157 : Cond) ∈ AL := AL_1 199 rfl rfl
theorem wq200 : (.static yJ3_checkIndex_8e157 : Cond) ∈ AL := AL_1 200 rfl rfl
theorem wq201 : (.code yJ3_checkIndex_8e157 cJ3_checkIndex_8e157 3 (some .int) : Cond) ∈ AL := AL_1 201 rfl rfl
theorem wq202 : (.methodLink RJx4a65c 123 yJx4a65c_elementData_915e3 : Cond) ∈ AL := AL_1 202 rfl rfl
theorem wq203 : (.instanceMethod yJx4a65c_elementData_915e3 : Cond) ∈ AL := AL_1 203 rfl rfl
theorem wq204 : (.selects RJx4a65c yJx4a65c_elementData_915e3 yJx4a65c_elementData_915e3 : Cond) ∈ AL := AL_1 204 rfl rfl
theorem wq205 : (.code yJx4a65c_elementData_915e3 cJx4a65c_elementData_915e3 2 (some (.object "java/lang/Object")) : Cond) ∈ AL := AL_1 205 rfl rfl
theorem wq206 : (.classLink RX5 56 RX2 : Cond) ∈ AL := AL_1 206 rfl rfl
theorem wq207 : (.methodLink RX5 108 yX2_tell : Cond) ∈ AL := AL_1 207 rfl rfl
theorem wq208 : (.instanceMethod yX2_tell : Cond) ∈ AL := AL_1 208 rfl rfl
theorem wq209 : (.selects RX2 yX2_tell yX2_tell : Cond) ∈ AL := AL_1 209 rfl rfl
theorem wq210 : (.code yX2_tell cX2_tell 2 (some .int) : Cond) ∈ AL := AL_1 210 rfl rfl
theorem wq211 : (.methodLink RL 138 yX5_engine : Cond) ∈ AL := AL_1 211 rfl rfl
theorem wq212 : (.instanceMethod yX5_engine : Cond) ∈ AL := AL_1 212 rfl rfl
theorem wq213 : (.selects RX5 yX5_engine yX5_engine : Cond) ∈ AL := AL_1 213 rfl rfl
theorem wq214 : (.code yX5_engine cX5_engine 3 (some .int) : Cond) ∈ AL := AL_1 214 rfl rfl
theorem wq215 : (.methodLink RX5 120 yX5_requireEngine : Cond) ∈ AL := AL_1 215 rfl rfl
theorem wq217 : (.instanceMethod yX5_requireEngine : Cond) ∈ AL := AL_1 217 rfl rfl
theorem wq218 : (.code yX5_requireEngine cX5_requireEngine 2 (none : Option Jvm.ClassFile.FieldType) : Cond) ∈ AL := AL_1 218 rfl rfl
theorem wq220 : (.classLink RX5 117 RX0 : Cond) ∈ AL := AL_1 220 rfl rfl
theorem wq221 : (.methodLink RX5 156 yX4_tellEngine : Cond) ∈ AL := AL_1 221 rfl rfl
theorem wq222 : (.instanceMethod yX4_tellEngine : Cond) ∈ AL := AL_1 222 rfl rfl
theorem wq223 : (.selects RX4 yX4_tellEngine yX4_tellEngine : Cond) ∈ AL := AL_1 223 rfl rfl
theorem wq224 : (.code yX4_tellEngine cX4_tellEngine 3 (some .int) : Cond) ∈ AL := AL_1 224 rfl rfl
theorem wq225 : (.methodLink RX4 94 yX4_pondBy : Cond) ∈ AL := AL_1 225 rfl rfl
theorem wq227 : (.instanceMethod yX4_pondBy : Cond) ∈ AL := AL_1 227 rfl rfl
theorem wq228 : (.code yX4_pondBy cX4_pondBy 3 (some .int) : Cond) ∈ AL := AL_1 228 rfl rfl
theorem wq229 : (.methodLink RX4 28 yJx4a65c_size_8abf5 : Cond) ∈ AL := AL_1 229 rfl rfl
theorem wq230 : (.methodLink RX4 124 yX0_stands : Cond) ∈ AL := AL_1 230 rfl rfl
theorem wq231 : (.instanceMethod yX0_stands : Cond) ∈ AL := AL_1 231 rfl rfl
theorem wq232 : (.selects RX0 yX0_stands yX0_stands : Cond) ∈ AL := AL_1 232 rfl rfl
theorem wq233 : (.code yX0_stands cX0_stands 1 (some .boolean) : Cond) ∈ AL := AL_1 233 rfl rfl
theorem wq234 : (.methodLink RX4 41 yJx4a65c_get_915e3 : Cond) ∈ AL := AL_1 234 rfl rfl
theorem wq235 : (.classLink RX4 49 RX3 : Cond) ∈ AL := AL_1 235 rfl rfl
theorem wq237 : (.static yX5_areNear : Cond) ∈ AL := AL_1 237 rfl rfl
theorem wq238 : (.code yX5_areNear cX5_areNear 4 (some .boolean) : Cond) ∈ AL := AL_1 238 rfl rfl
theorem wq239 : (.methodLink RX4 101 yX0_canPump : Cond) ∈ AL := AL_1 239 rfl rfl
theorem wq240 : (.instanceMethod yX0_canPump : Cond) ∈ AL := AL_2 0 rfl rfl
theorem wq241 : (.selects RX0 yX0_canPump yX0_canPump : Cond) ∈ AL := AL_2 1 rfl rfl
theorem wq242 : (.code yX0_canPump cX0_canPump 1 (some .int) : Cond) ∈ AL := AL_2 2 rfl rfl
theorem wq243 : (.methodLink RX0 46 yX0_stands : Cond) ∈ AL := AL_2 3 rfl rfl
theorem wq244 : (.methodLink RL 141 yX5_pond : Cond) ∈ AL := AL_2 4 rfl rfl
theorem wq245 : (.instanceMethod yX5_pond : Cond) ∈ AL := AL_2 5 rfl rfl
theorem wq246 : (.selects RX5 yX5_pond yX5_pond : Cond) ∈ AL := AL_2 6 rfl rfl
theorem wq247 : (.code yX5_pond cX5_pond 2 (some .int) : Cond) ∈ AL := AL_2 7 rfl rfl
theorem wq249 : (.classLink RX5 70 RX3 : Cond) ∈ AL := AL_2 9 rfl rfl
theorem wq250 : (.methodLink RL 151 yX5_pass : Cond) ∈ AL := AL_2 10 rfl rfl
theorem wq251 : (.instanceMethod yX5_pass : Cond) ∈ AL := AL_2 11 rfl rfl
theorem wq252 : (.selects RX5 yX5_pass yX5_pass : Cond) ∈ AL := AL_2 12 rfl rfl
theorem wq253 : (.code yX5_pass cX5_pass 2 (some .int) : Cond) ∈ AL := AL_2 13 rfl rfl
theorem wq254 : (.methodLink RX5 30 yX5_requireRange : Cond) ∈ AL := AL_2 14 rfl rfl
theorem wq255 : (.static yX5_requireRange : Cond) ∈ AL := AL_2 15 rfl rfl
theorem wq256 : (.code yX5_requireRange cX5_requireRange 3 (none : Option Jvm.ClassFile.FieldType) : Cond) ∈ AL := AL_2 16 rfl rfl
theorem wq257 : (.classLink RX5 207 "java/lang/IllegalArgumentException" : Cond) ∈ AL := AL_2 17 rfl rfl
theorem wq258 : (.instantiable "java/lang/IllegalArgumentException" 6 : Cond) ∈ AL := AL_2 18 rfl rfl
theorem wq260 : (.selects "java/lang/IllegalArgumentException" ⟨"java/lang/Throwable", "fillInStackTrace", "(I)Ljava/lang/Throwable;"⟩ ⟨"java/lang/Throwable", "fillInStackTrace", "(I)Ljava/lang/Throwable;"⟩ : Cond) ∈ AL := AL_2 20 rfl rfl
theorem wq261 : (.lays "java/lang/IllegalArgumentException" "java/lang/Throwable" "cause" "Ljava/lang/Throwable;" : Cond) ∈ AL := AL_2 21 rfl rfl
theorem wq262 : (.lays "java/lang/IllegalArgumentException" "java/lang/Throwable" "stackTrace" "[Ljava/lang/StackTraceElement;" : Cond) ∈ AL := AL_2 22 rfl rfl
theorem wq263 : (.lays "java/lang/IllegalArgumentException" "java/lang/Throwable" "suppressedExceptions" "Ljava/util/List;" : Cond) ∈ AL := AL_2 23 rfl rfl
theorem wq264 : (.lays "java/lang/IllegalArgumentException" "java/lang/Throwable" "detailMessage" "Ljava/lang/String;" : Cond) ∈ AL := AL_2 24 rfl rfl
theorem wq265 : (.lays "java/lang/IllegalArgumentException" "java/lang/Throwable" "backtrace" "Ljava/lang/Object;" : Cond) ∈ AL := AL_2 25 rfl rfl
theorem wq267 : (.methodLink RX5 211 ⟨"java/lang/IllegalArgumentException", "<init>", "(Ljava/lang/String;)V"⟩ : Cond) ∈ AL := AL_2 27 rfl rfl
theorem wq268 : (.instanceMethod ⟨"java/lang/IllegalArgumentException", "<init>", "(Ljava/lang/String;)V"⟩ : Cond) ∈ AL := AL_2 28 rfl rfl
theorem wq269 : (.code ⟨"java/lang/IllegalArgumentException", "<init>", "(Ljava/lang/String;)V"⟩ prog_15_method_2_code 2 (none : Option Jvm.ClassFile.FieldType) : Cond) ∈ AL := AL_2 29 rfl rfl
theorem wq270 : (.methodLink "java/lang/IllegalArgumentException" 7 ⟨"java/lang/RuntimeException", "<init>", "(Ljava/lang/String;)V"⟩ : Cond) ∈ AL := AL_2 30 rfl rfl
theorem wq271 : (.lays "java/lang/IllegalArgumentException" "java/lang/Throwable" "depth" "I" : Cond) ∈ AL := AL_2 31 rfl rfl
theorem wq273 : (.methodLink RX5 170 yX4_goOn : Cond) ∈ AL := AL_2 33 rfl rfl
theorem wq274 : (.instanceMethod yX4_goOn : Cond) ∈ AL := AL_2 34 rfl rfl
theorem wq275 : (.selects RX4 yX4_goOn yX4_goOn : Cond) ∈ AL := AL_2 35 rfl rfl
theorem wq276 : (.code yX4_goOn cX4_goOn 5 (some .int) : Cond) ∈ AL := AL_2 36 rfl rfl
theorem wq277 : (.methodLink RX4 133 yX4_fireAndDrive : Cond) ∈ AL := AL_2 37 rfl rfl
theorem wq279 : (.instanceMethod yX4_fireAndDrive : Cond) ∈ AL := AL_2 39 rfl rfl
theorem wq280 : (.code yX4_fireAndDrive cX4_fireAndDrive 2 (none : Option Jvm.ClassFile.FieldType) : Cond) ∈ AL := AL_2 40 rfl rfl
theorem wq281 : (.classLink RX4 57 RX0 : Cond) ∈ AL := AL_2 41 rfl rfl
theorem wq282 : (.methodLink RX4 145 yX0_fire : Cond) ∈ AL := AL_2 42 rfl rfl
theorem wq283 : (.instanceMethod yX0_fire : Cond) ∈ AL := AL_2 43 rfl rfl
theorem wq284 : (.selects RX0 yX0_fire yX0_fire : Cond) ∈ AL := AL_2 44 rfl rfl
theorem wq285 : (.code yX0_fire cX0_fire 1 (none : Option Jvm.ClassFile.FieldType) : Cond) ∈ AL := AL_2 45 rfl rfl
theorem wq286 : (.methodLink RX0 50 Lib.Math.min.name : Cond) ∈ AL := AL_2 46 rfl rfl
theorem wq287 : (.static Lib.Math.min.name : Cond) ∈ AL := AL_2 47 rfl rfl
theorem wq288 : (.code Lib.Math.min.name cJ9_min_7cf53 2 (some .int) : Cond) ∈ AL := AL_2 48 rfl rfl
theorem wq289 : (.methodLink RX0 56 Lib.Math.max.name : Cond) ∈ AL := AL_2 49 rfl rfl
theorem wq290 : (.static Lib.Math.max.name : Cond) ∈ AL := AL_2 50 rfl rfl
theorem wq291 : (.code Lib.Math.max.name cJ9_max_7cf53 2 (some .int) : Cond) ∈ AL := AL_2 51 rfl rfl
theorem wq292 : (.methodLink RX4 148 yX0_driveAMinute : Cond) ∈ AL := AL_2 52 rfl rfl
theorem wq293 : (.instanceMethod yX0_driveAMinute : Cond) ∈ AL := AL_2 53 rfl rfl
theorem wq294 : (.selects RX0 yX0_driveAMinute yX0_driveAMinute : Cond) ∈ AL := AL_2 54 rfl rfl
theorem wq295 : (.code yX0_driveAMinute cX0_driveAMinute 1 (none : Option Jvm.ClassFile.FieldType) : Cond) ∈ AL := AL_2 55 rfl rfl
theorem wq296 : (.methodLink RX4 136 yX4_moveWater : Cond) ∈ AL := AL_2 56 rfl rfl
theorem wq298 : (.instanceMethod yX4_moveWater : Cond) ∈ AL := AL_2 58 rfl rfl
theorem wq299 : (.code yX4_moveWater cX4_moveWater 4 (none : Option Jvm.ClassFile.FieldType) : Cond) ∈ AL := AL_2 59 rfl rfl
theorem wq300 : (.classLink RX4 32 RX2 : Cond) ∈ AL := AL_2 60 rfl rfl
theorem wq301 : (.methodLink RX4 159 yX4_nextToAsk : Cond) ∈ AL := AL_2 61 rfl rfl
theorem wq303 : (.instanceMethod yX4_nextToAsk : Cond) ∈ AL := AL_2 63 rfl rfl
theorem wq304 : (.code yX4_nextToAsk cX4_nextToAsk 2 (some .int) : Cond) ∈ AL := AL_2 64 rfl rfl
theorem wq305 : (.methodLink RX4 171 yX4_waitsForWater : Cond) ∈ AL := AL_2 65 rfl rfl
theorem wq307 : (.instanceMethod yX4_waitsForWater : Cond) ∈ AL := AL_2 67 rfl rfl
theorem wq308 : (.code yX4_waitsForWater cX4_waitsForWater 4 (some .boolean) : Cond) ∈ AL := AL_2 68 rfl rfl
theorem wq309 : (.methodLink RX4 129 yX4_isEngine : Cond) ∈ AL := AL_2 69 rfl rfl
theorem wq311 : (.instanceMethod yX4_isEngine : Cond) ∈ AL := AL_2 71 rfl rfl
theorem wq312 : (.code yX4_isEngine cX4_isEngine 2 (some .boolean) : Cond) ∈ AL := AL_2 72 rfl rfl
theorem wq313 : (.methodLink RX4 162 yX4_ask : Cond) ∈ AL := AL_2 73 rfl rfl
theorem wq315 : (.instanceMethod yX4_ask : Cond) ∈ AL := AL_2 75 rfl rfl
theorem wq316 : (.code yX4_ask cX4_ask 5 (none : Option Jvm.ClassFile.FieldType) : Cond) ∈ AL := AL_2 76 rfl rfl
theorem wq317 : (.methodLink RX4 174 yX3_giveUpTo : Cond) ∈ AL := AL_2 77 rfl rfl
theorem wq318 : (.instanceMethod yX3_giveUpTo : Cond) ∈ AL := AL_2 78 rfl rfl
theorem wq319 : (.selects RX3 yX3_giveUpTo yX3_giveUpTo : Cond) ∈ AL := AL_2 79 rfl rfl
theorem wq320 : (.code yX3_giveUpTo cX3_giveUpTo 3 (some .int) : Cond) ∈ AL := AL_2 80 rfl rfl
theorem wq321 : (.methodLink RX3 16 Lib.Math.min.name : Cond) ∈ AL := AL_2 81 rfl rfl
theorem wq322 : (.methodLink RX3 22 Lib.Math.max.name : Cond) ∈ AL := AL_2 82 rfl rfl
theorem wq323 : (.methodLink RX4 177 Lib.Math.min.name : Cond) ∈ AL := AL_2 83 rfl rfl
theorem wq324 : (.methodLink RX4 165 yX4_sendThroughHose : Cond) ∈ AL := AL_2 84 rfl rfl
theorem wq326 : (.instanceMethod yX4_sendThroughHose : Cond) ∈ AL := AL_2 86 rfl rfl
theorem wq327 : (.code yX4_sendThroughHose cX4_sendThroughHose 4 (none : Option Jvm.ClassFile.FieldType) : Cond) ∈ AL := AL_2 87 rfl rfl
theorem wq329 : (.static yX5_distance : Cond) ∈ AL := AL_2 89 rfl rfl
theorem wq330 : (.code yX5_distance cX5_distance 2 (some .int) : Cond) ∈ AL := AL_2 90 rfl rfl
theorem wq331 : (.methodLink RX5 217 Lib.Math.abs.name : Cond) ∈ AL := AL_2 91 rfl rfl
theorem wq332 : (.static Lib.Math.abs.name : Cond) ∈ AL := AL_2 92 rfl rfl
theorem wq333 : (.code Lib.Math.abs.name cJ9_abs_0f7a4 1 (some .int) : Cond) ∈ AL := AL_2 93 rfl rfl
theorem wq334 : (.methodLink RX4 186 yX4_arriving : Cond) ∈ AL := AL_2 94 rfl rfl
theorem wq335 : (.static yX4_arriving : Cond) ∈ AL := AL_2 95 rfl rfl
theorem wq336 : (.code yX4_arriving cX4_arriving 2 (some .int) : Cond) ∈ AL := AL_2 96 rfl rfl
theorem wq337 : (.methodLink RX4 189 yX4_isHouse : Cond) ∈ AL := AL_2 97 rfl rfl
theorem wq339 : (.instanceMethod yX4_isHouse : Cond) ∈ AL := AL_2 99 rfl rfl
theorem wq340 : (.code yX4_isHouse cX4_isHouse 2 (some .boolean) : Cond) ∈ AL := AL_2 100 rfl rfl
theorem wq341 : (.methodLink RX4 192 yX2_takeWater : Cond) ∈ AL := AL_2 101 rfl rfl
theorem wq342 : (.instanceMethod yX2_takeWater : Cond) ∈ AL := AL_2 102 rfl rfl
theorem wq343 : (.selects RX2 yX2_takeWater yX2_takeWater : Cond) ∈ AL := AL_2 103 rfl rfl
theorem wq344 : (.code yX2_takeWater cX2_takeWater 2 (none : Option Jvm.ClassFile.FieldType) : Cond) ∈ AL := AL_2 104 rfl rfl
theorem wq345 : (.methodLink RX4 168 yX0_spendSteam : Cond) ∈ AL := AL_2 105 rfl rfl
theorem wq346 : (.instanceMethod yX0_spendSteam : Cond) ∈ AL := AL_2 106 rfl rfl
theorem wq347 : (.selects RX0 yX0_spendSteam yX0_spendSteam : Cond) ∈ AL := AL_2 107 rfl rfl
theorem wq348 : (.code yX0_spendSteam cX0_spendSteam 1 (none : Option Jvm.ClassFile.FieldType) : Cond) ∈ AL := AL_2 108 rfl rfl
theorem wq349 : (.methodLink RX4 139 yX2_burnAMinute : Cond) ∈ AL := AL_2 109 rfl rfl
theorem wq350 : (.instanceMethod yX2_burnAMinute : Cond) ∈ AL := AL_2 110 rfl rfl
theorem wq351 : (.selects RX2 yX2_burnAMinute yX2_burnAMinute : Cond) ∈ AL := AL_2 111 rfl rfl
theorem wq352 : (.code yX2_burnAMinute cX2_burnAMinute 1 (none : Option Jvm.ClassFile.FieldType) : Cond) ∈ AL := AL_2 112 rfl rfl
theorem wq353 : (.methodLink RX2 33 Lib.Math.min.name : Cond) ∈ AL := AL_2 113 rfl rfl
theorem wq354 : (.methodLink RX2 39 yX2_endFire : Cond) ∈ AL := AL_2 114 rfl rfl
theorem wq356 : (.instanceMethod yX2_endFire : Cond) ∈ AL := AL_2 116 rfl rfl
theorem wq357 : (.instantiable RX2 7 : Cond) ∈ AL := AL_2 117 rfl rfl
theorem wq358 : (.code yX2_endFire cX2_endFire 2 (none : Option Jvm.ClassFile.FieldType) : Cond) ∈ AL := AL_2 118 rfl rfl
theorem wq359 : (.methodLink RX2 43 Lib.Math.max.name : Cond) ∈ AL := AL_2 119 rfl rfl
theorem wq360 : (.methodLink RX4 142 yX4_catchFire : Cond) ∈ AL := AL_2 120 rfl rfl
theorem wq362 : (.instanceMethod yX4_catchFire : Cond) ∈ AL := AL_2 122 rfl rfl
theorem wq363 : (.code yX4_catchFire cX4_catchFire 4 (some .int) : Cond) ∈ AL := AL_2 123 rfl rfl
theorem wq364 : (.methodLink RX4 196 yX4_heatNear : Cond) ∈ AL := AL_2 124 rfl rfl
theorem wq365 : (.instanceMethod yX4_heatNear : Cond) ∈ AL := AL_2 125 rfl rfl
theorem wq366 : (.selects RX4 yX4_heatNear yX4_heatNear : Cond) ∈ AL := AL_2 126 rfl rfl
theorem wq367 : (.code yX4_heatNear cX4_heatNear 5 (some .int) : Cond) ∈ AL := AL_2 127 rfl rfl
theorem wq368 : (.methodLink RL 156 yX5_count : Cond) ∈ AL := AL_2 128 rfl rfl
theorem wq369 : (.instanceMethod yX5_count : Cond) ∈ AL := AL_2 129 rfl rfl
theorem wq370 : (.selects RX5 yX5_count yX5_count : Cond) ∈ AL := AL_2 130 rfl rfl
theorem wq371 : (.code yX5_count cX5_count 2 (some .int) : Cond) ∈ AL := AL_2 131 rfl rfl
theorem wq372 : (.methodLink RX5 173 yX4_tell : Cond) ∈ AL := AL_2 132 rfl rfl
theorem wq373 : (.instanceMethod yX4_tell : Cond) ∈ AL := AL_2 133 rfl rfl
theorem wq374 : (.selects RX4 yX4_tell yX4_tell : Cond) ∈ AL := AL_2 134 rfl rfl
theorem wq375 : (.code yX4_tell cX4_tell 2 (some .int) : Cond) ∈ AL := AL_2 135 rfl rfl
theorem wq376 : (.methodLink RX4 63 yX4_housesThatAre : Cond) ∈ AL := AL_2 136 rfl rfl
theorem wq377 : (.instanceMethod yX4_housesThatAre : Cond) ∈ AL := AL_2 137 rfl rfl
theorem wq378 : (.selects RX4 yX4_housesThatAre yX4_housesThatAre : Cond) ∈ AL := AL_2 138 rfl rfl
theorem wq379 : (.code yX4_housesThatAre cX4_housesThatAre 4 (some .int) : Cond) ∈ AL := AL_2 139 rfl rfl
theorem wq380 : (.methodLink RX4 67 yX4_waterOfPonds : Cond) ∈ AL := AL_2 140 rfl rfl
theorem wq382 : (.instanceMethod yX4_waterOfPonds : Cond) ∈ AL := AL_2 142 rfl rfl
theorem wq383 : (.code yX4_waterOfPonds cX4_waterOfPonds 3 (some .int) : Cond) ∈ AL := AL_2 143 rfl rfl
theorem wq384 : (.methodLink RX4 70 yX4_sumOverHouses : Cond) ∈ AL := AL_2 144 rfl rfl
theorem wq386 : (.instanceMethod yX4_sumOverHouses : Cond) ∈ AL := AL_2 146 rfl rfl
theorem wq387 : (.code yX4_sumOverHouses cX4_sumOverHouses 4 (some .int) : Cond) ∈ AL := AL_2 147 rfl rfl
theorem wq388 : (.methodLink RX4 107 yX2_tell : Cond) ∈ AL := AL_2 148 rfl rfl
theorem wq389 : (.methodLink RL 144 yX5_foresee : Cond) ∈ AL := AL_2 149 rfl rfl
theorem wq390 : (.instanceMethod yX5_foresee : Cond) ∈ AL := AL_2 150 rfl rfl
theorem wq391 : (.selects RX5 yX5_foresee yX5_foresee : Cond) ∈ AL := AL_2 151 rfl rfl
theorem wq392 : (.code yX5_foresee cX5_foresee 3 (some .int) : Cond) ∈ AL := AL_2 152 rfl rfl
theorem wq393 : (.methodLink RX5 174 yX4_copyFrom : Cond) ∈ AL := AL_2 153 rfl rfl
theorem wq394 : (.instanceMethod yX4_copyFrom : Cond) ∈ AL := AL_2 154 rfl rfl
theorem wq395 : (.selects RX4 yX4_copyFrom yX4_copyFrom : Cond) ∈ AL := AL_2 155 rfl rfl
theorem wq396 : (.code yX4_copyFrom cX4_copyFrom 3 (none : Option Jvm.ClassFile.FieldType) : Cond) ∈ AL := AL_2 156 rfl rfl
theorem wq397 : (.methodLink RX4 34 yX2_init : Cond) ∈ AL := AL_2 157 rfl rfl
theorem wq398 : (.instanceMethod yX2_init : Cond) ∈ AL := AL_2 158 rfl rfl
theorem wq399 : (.code yX2_init cX2_init 4 (none : Option Jvm.ClassFile.FieldType) : Cond) ∈ AL := AL_2 159 rfl rfl
theorem wq400 : (.methodLink RX2 3 objectInit : Cond) ∈ AL := AL_2 160 rfl rfl
theorem wq401 : (.fieldLink RX2 9 "FireEngines$House" "cell" "I" : Cond) ∈ AL := AL_2 161 rfl rfl
theorem wq404 : (.fieldLink RX2 15 "FireEngines$House" "wood" "I" : Cond) ∈ AL := AL_2 164 rfl rfl
theorem wq405 : (.fieldLink RX2 18 "FireEngines$House" "walls" "I" : Cond) ∈ AL := AL_2 165 rfl rfl
theorem wq406 : (.fieldLink RX2 21 "FireEngines$House" "state" "I" : Cond) ∈ AL := AL_2 166 rfl rfl
theorem wq409 : (.fieldLink RX2 24 "FireEngines$House" "heat" "I" : Cond) ∈ AL := AL_2 169 rfl rfl
theorem wq411 : (.fieldLink RX2 27 "FireEngines$House" "came" "I" : Cond) ∈ AL := AL_2 171 rfl rfl
theorem wq413 : (.fieldLink RX2 30 "FireEngines$House" "cameInAll" "I" : Cond) ∈ AL := AL_2 173 rfl rfl
theorem wq414 : (.lays "FireEngines$House" "FireEngines$House" "cell" "I" : Cond) ∈ AL := AL_2 174 rfl rfl
theorem wq416 : (.lays "FireEngines$House" "FireEngines$House" "wood" "I" : Cond) ∈ AL := AL_2 176 rfl rfl
theorem wq418 : (.lays "FireEngines$House" "FireEngines$House" "walls" "I" : Cond) ∈ AL := AL_2 178 rfl rfl
theorem wq420 : (.lays "FireEngines$House" "FireEngines$House" "state" "I" : Cond) ∈ AL := AL_2 180 rfl rfl
theorem wq422 : (.lays "FireEngines$House" "FireEngines$House" "heat" "I" : Cond) ∈ AL := AL_2 182 rfl rfl
theorem wq424 : (.lays "FireEngines$House" "FireEngines$House" "came" "I" : Cond) ∈ AL := AL_2 184 rfl rfl
theorem wq426 : (.lays "FireEngines$House" "FireEngines$House" "cameInAll" "I" : Cond) ∈ AL := AL_2 186 rfl rfl
theorem wq429 : (.methodLink RX4 37 yJx4a65c_add_9ea2d : Cond) ∈ AL := AL_2 189 rfl rfl
theorem wq430 : (.instanceMethod yJx4a65c_add_9ea2d : Cond) ∈ AL := AL_2 190 rfl rfl
theorem wq431 : (.selects RJx4a65c yJx4a65c_add_9ea2d yJx4a65c_add_9ea2d : Cond) ∈ AL := AL_2 191 rfl rfl
theorem wq432 : (.code yJx4a65c_add_9ea2d cJx4a65c_add_9ea2d 2 (some .boolean) : Cond) ∈ AL := AL_2 192 rfl rfl
theorem wq433 : (.methodLink RJx4a65c 131 yJx4a65c_add_72be8 : Cond) ∈ AL := AL_2 193 rfl rfl
theorem wq435 : (.instanceMethod yJx4a65c_add_72be8 : Cond) ∈ AL := AL_2 195 rfl rfl
theorem wq436 : (.code yJx4a65c_add_72be8 cJx4a65c_add_72be8 4 (none : Option Jvm.ClassFile.FieldType) : Cond) ∈ AL := AL_2 196 rfl rfl
theorem wq437 : (.methodLink RJx4a65c 129 yJx4a65c_grow_d5877 : Cond) ∈ AL := AL_2 197 rfl rfl
theorem wq439 : (.instanceMethod yJx4a65c_grow_d5877 : Cond) ∈ AL := AL_2 199 rfl rfl
theorem wq440 : (.code yJx4a65c_grow_d5877 cJx4a65c_grow_d5877 1 (some (.array (.object "java/lang/Object"))) : Cond) ∈ AL := AL_2 200 rfl rfl
theorem wq441 : (.methodLink RJx4a65c 69 yJx4a65c_grow_92f84 : Cond) ∈ AL := AL_2 201 rfl rfl
theorem wq443 : (.instanceMethod yJx4a65c_grow_92f84 : Cond) ∈ AL := AL_2 203 rfl rfl
theorem wq444 : (.code yJx4a65c_grow_92f84 cJx4a65c_grow_92f84 4 (some (.array (.object "java/lang/Object"))) : Cond) ∈ AL := AL_2 204 rfl rfl
theorem wq445 : (.methodLink RJx4a65c 73 yJ8_newLength_cabcc : Cond) ∈ AL := AL_2 205 rfl rfl
theorem wq446 : (.static yJ8_newLength_cabcc : Cond) ∈ AL := AL_2 206 rfl rfl
theorem wq447 : (.code yJ8_newLength_cabcc cJ8_newLength_cabcc 4 (some .int) : Cond) ∈ AL := AL_2 207 rfl rfl
theorem wq448 : (.methodLink RJ8 194 Lib.Math.max.name : Cond) ∈ AL := AL_2 208 rfl rfl
theorem wq449 : (.constant RJ8 200 (2147483639) : Cond) ∈ AL := AL_2 209 rfl rfl
theorem wq450 : (.methodLink RJ8 201 yJ8_hugeLength_7cf53 : Cond) ∈ AL := AL_2 210 rfl rfl
theorem wq451 : (.static yJ8_hugeLength_7cf53 : Cond) ∈ AL := AL_2 211 rfl rfl
theorem wq452 : (.code yJ8_hugeLength_7cf53 cJ8_hugeLength_7cf53 3 (some .int) : Cond) ∈ AL := AL_2 212 rfl rfl
theorem wq453 : (.methodLink RJx4a65c 66 yJ7_copyOf_1904c : Cond) ∈ AL := AL_2 213 rfl rfl
theorem wq454 : (.static yJ7_copyOf_1904c : Cond) ∈ AL := AL_2 214 rfl rfl
theorem wq455 : (.code yJ7_copyOf_1904c cJ7_copyOf_1904c 2 (some (.array (.object "java/lang/Object"))) : Cond) ∈ AL := AL_2 215 rfl rfl
theorem wq456 : (.methodLink RJ7 86 ⟨"java/lang/Object", "getClass", "()Ljava/lang/Class;"⟩ : Cond) ∈ AL := AL_2 216 rfl rfl
theorem wq457 : (.instanceMethod ⟨"java/lang/Object", "getClass", "()Ljava/lang/Class;"⟩ : Cond) ∈ AL := AL_2 217 rfl rfl
theorem wq458 : (.sameMethod "java/lang/Object" "java/lang/Object" "getClass" "()Ljava/lang/Class;" : Cond) ∈ AL := AL_2 218 rfl rfl
theorem wq459 : (.selects RX5 ⟨"java/lang/Object", "getClass", "()Ljava/lang/Class;"⟩ ⟨"java/lang/Object", "getClass", "()Ljava/lang/Class;"⟩ : Cond) ∈ AL := AL_2 219 rfl rfl
theorem wq460 : (.selects RX0 ⟨"java/lang/Object", "getClass", "()Ljava/lang/Class;"⟩ ⟨"java/lang/Object", "getClass", "()Ljava/lang/Class;"⟩ : Cond) ∈ AL := AL_2 220 rfl rfl
theorem wq461 : (.selects RX1 ⟨"java/lang/Object", "getClass", "()Ljava/lang/Class;"⟩ ⟨"java/lang/Object", "getClass", "()Ljava/lang/Class;"⟩ : Cond) ∈ AL := AL_2 221 rfl rfl
theorem wq462 : (.selects RX2 ⟨"java/lang/Object", "getClass", "()Ljava/lang/Class;"⟩ ⟨"java/lang/Object", "getClass", "()Ljava/lang/Class;"⟩ : Cond) ∈ AL := AL_2 222 rfl rfl
theorem wq463 : (.selects RX3 ⟨"java/lang/Object", "getClass", "()Ljava/lang/Class;"⟩ ⟨"java/lang/Object", "getClass", "()Ljava/lang/Class;"⟩ : Cond) ∈ AL := AL_2 223 rfl rfl
theorem wq464 : (.selects RX4 ⟨"java/lang/Object", "getClass", "()Ljava/lang/Class;"⟩ ⟨"java/lang/Object", "getClass", "()Ljava/lang/Class;"⟩ : Cond) ∈ AL := AL_2 224 rfl rfl
theorem wq465 : (.selects RX6 ⟨"java/lang/Object", "getClass", "()Ljava/lang/Class;"⟩ ⟨"java/lang/Object", "getClass", "()Ljava/lang/Class;"⟩ : Cond) ∈ AL := AL_2 225 rfl rfl
theorem wq466 : (.selects RX7 ⟨"java/lang/Object", "getClass", "()Ljava/lang/Class;"⟩ ⟨"java/lang/Object", "getClass", "()Ljava/lang/Class;"⟩ : Cond) ∈ AL := AL_2 226 rfl rfl
theorem wq467 : (.selects RX8 ⟨"java/lang/Object", "getClass", "()Ljava/lang/Class;"⟩ ⟨"java/lang/Object", "getClass", "()Ljava/lang/Class;"⟩ : Cond) ∈ AL := AL_2 227 rfl rfl
theorem wq468 : (.selects "java/lang/IllegalArgumentException" ⟨"java/lang/Object", "getClass", "()Ljava/lang/Class;"⟩ ⟨"java/lang/Object", "getClass", "()Ljava/lang/Class;"⟩ : Cond) ∈ AL := AL_2 228 rfl rfl
theorem wq469 : (.selects "java/lang/IllegalStateException" ⟨"java/lang/Object", "getClass", "()Ljava/lang/Class;"⟩ ⟨"java/lang/Object", "getClass", "()Ljava/lang/Class;"⟩ : Cond) ∈ AL := AL_2 229 rfl rfl
theorem wq470 : (.selects "java/lang/IndexOutOfBoundsException" ⟨"java/lang/Object", "getClass", "()Ljava/lang/Class;"⟩ ⟨"java/lang/Object", "getClass", "()Ljava/lang/Class;"⟩ : Cond) ∈ AL := AL_2 230 rfl rfl
theorem wq471 : (.selects RJx4a65c ⟨"java/lang/Object", "getClass", "()Ljava/lang/Class;"⟩ ⟨"java/lang/Object", "getClass", "()Ljava/lang/Class;"⟩ : Cond) ∈ AL := AL_2 231 rfl rfl
theorem wq472 : (.native ⟨"java/lang/Object", "getClass", "()Ljava/lang/Class;"⟩ : Cond) ∈ AL := AL_2 232 rfl rfl
theorem wq473 : (.methodLink RJ7 300 yJ7_copyOf_6403c : Cond) ∈ AL := AL_2 233 rfl rfl
theorem wq474 : (.static yJ7_copyOf_6403c : Cond) ∈ AL := AL_2 234 rfl rfl
theorem wq475 : (.code yJ7_copyOf_6403c cJ7_copyOf_6403c 4 (some (.array (.object "java/lang/Object"))) : Cond) ∈ AL := AL_2 235 rfl rfl
theorem wq476 : (.classLink RJ7 110 "[Ljava/lang/Object;" : Cond) ∈ AL := AL_2 236 rfl rfl
theorem wt477 : (.arrayOver (.object "java/lang/Object") : Cond) ∈ lw_tbl := AT_2 237 rfl
theorem wq478 : (.classLink RJ7 2 "java/lang/Object" : Cond) ∈ AL := AL_2 238 rfl rfl
theorem wq479 : (.methodLink RJ7 304 Lib.Math.min.name : Cond) ∈ AL := AL_2 239 rfl rfl
theorem wq480 : (.methodLink RJ7 150 arraycopyName : Cond) ∈ AL := AL_3 0 rfl rfl
theorem wq481 : (.static arraycopyName : Cond) ∈ AL := AL_3 1 rfl rfl
theorem wq482 : (.native arraycopyName : Cond) ∈ AL := AL_3 2 rfl rfl
theorem wq483 : (.methodLink RJx4a65c 79 Lib.Math.max.name : Cond) ∈ AL := AL_3 3 rfl rfl
theorem wq484 : (.classLink RJx4a65c 7 "java/lang/Object" : Cond) ∈ AL := AL_3 4 rfl rfl
theorem wq485 : (.methodLink RX4 45 yX2_copyFrom : Cond) ∈ AL := AL_3 5 rfl rfl
theorem wq486 : (.instanceMethod yX2_copyFrom : Cond) ∈ AL := AL_3 6 rfl rfl
theorem wq487 : (.selects RX2 yX2_copyFrom yX2_copyFrom : Cond) ∈ AL := AL_3 7 rfl rfl
theorem wq488 : (.code yX2_copyFrom cX2_copyFrom 2 (none : Option Jvm.ClassFile.FieldType) : Cond) ∈ AL := AL_3 8 rfl rfl
theorem wq489 : (.instantiable RX3 2 : Cond) ∈ AL := AL_3 9 rfl rfl
theorem wq490 : (.methodLink RX4 51 yX3_init : Cond) ∈ AL := AL_3 10 rfl rfl
theorem wq491 : (.instanceMethod yX3_init : Cond) ∈ AL := AL_3 11 rfl rfl
theorem wq492 : (.code yX3_init cX3_init 3 (none : Option Jvm.ClassFile.FieldType) : Cond) ∈ AL := AL_3 12 rfl rfl
theorem wq493 : (.methodLink RX3 1 objectInit : Cond) ∈ AL := AL_3 13 rfl rfl
theorem wq494 : (.fieldLink RX3 7 "FireEngines$Pond" "cell" "I" : Cond) ∈ AL := AL_3 14 rfl rfl
theorem wq496 : (.fieldLink RX3 13 "FireEngines$Pond" "water" "I" : Cond) ∈ AL := AL_3 16 rfl rfl
theorem wq499 : (.lays "FireEngines$Pond" "FireEngines$Pond" "cell" "I" : Cond) ∈ AL := AL_3 19 rfl rfl
theorem wq501 : (.lays "FireEngines$Pond" "FireEngines$Pond" "water" "I" : Cond) ∈ AL := AL_3 21 rfl rfl
theorem wq504 : (.methodLink RX4 54 yX3_copyFrom : Cond) ∈ AL := AL_3 24 rfl rfl
theorem wq505 : (.instanceMethod yX3_copyFrom : Cond) ∈ AL := AL_3 25 rfl rfl
theorem wq506 : (.selects RX3 yX3_copyFrom yX3_copyFrom : Cond) ∈ AL := AL_3 26 rfl rfl
theorem wq507 : (.code yX3_copyFrom cX3_copyFrom 2 (none : Option Jvm.ClassFile.FieldType) : Cond) ∈ AL := AL_3 27 rfl rfl
theorem wq508 : (.instantiable RX0 11 : Cond) ∈ AL := AL_3 28 rfl rfl
theorem wq509 : (.methodLink RX4 59 yX0_init : Cond) ∈ AL := AL_3 29 rfl rfl
theorem wq510 : (.instanceMethod yX0_init : Cond) ∈ AL := AL_3 30 rfl rfl
theorem wq511 : (.code yX0_init cX0_init 4 (none : Option Jvm.ClassFile.FieldType) : Cond) ∈ AL := AL_3 31 rfl rfl
theorem wq512 : (.methodLink RX0 3 objectInit : Cond) ∈ AL := AL_3 32 rfl rfl
theorem wq513 : (.fieldLink RX0 9 "FireEngines$Engine" "cell" "I" : Cond) ∈ AL := AL_3 33 rfl rfl
theorem wq516 : (.fieldLink RX0 15 "FireEngines$Engine" "horses" "I" : Cond) ∈ AL := AL_3 36 rfl rfl
theorem wq518 : (.fieldLink RX0 18 "FireEngines$Engine" "power" "I" : Cond) ∈ AL := AL_3 38 rfl rfl
theorem wq520 : (.fieldLink RX0 21 "FireEngines$Engine" "coal" "I" : Cond) ∈ AL := AL_3 40 rfl rfl
theorem wq523 : (.fieldLink RX0 30 "FireEngines$Engine" "steam" "I" : Cond) ∈ AL := AL_3 43 rfl rfl
theorem wq525 : (.fieldLink RX0 33 "FireEngines$Engine" "minutesLeft" "I" : Cond) ∈ AL := AL_3 45 rfl rfl
theorem wq528 : (.fieldLink RX0 24 "FireEngines$Engine" "goal" "I" : Cond) ∈ AL := AL_3 48 rfl rfl
theorem wq530 : (.fieldLink RX0 27 "FireEngines$Engine" "hose" "I" : Cond) ∈ AL := AL_3 50 rfl rfl
theorem wq533 : (.fieldLink RX0 36 "FireEngines$Engine" "came" "I" : Cond) ∈ AL := AL_3 53 rfl rfl
theorem wq535 : (.fieldLink RX0 39 "FireEngines$Engine" "gave" "I" : Cond) ∈ AL := AL_3 55 rfl rfl
theorem wq537 : (.fieldLink RX0 42 "FireEngines$Engine" "asked" "Z" : Cond) ∈ AL := AL_3 57 rfl rfl
theorem wq539 : (.lays "FireEngines$Engine" "FireEngines$Engine" "cell" "I" : Cond) ∈ AL := AL_3 59 rfl rfl
theorem wq541 : (.lays "FireEngines$Engine" "FireEngines$Engine" "horses" "I" : Cond) ∈ AL := AL_3 61 rfl rfl
theorem wq543 : (.lays "FireEngines$Engine" "FireEngines$Engine" "power" "I" : Cond) ∈ AL := AL_3 63 rfl rfl
theorem wq545 : (.lays "FireEngines$Engine" "FireEngines$Engine" "coal" "I" : Cond) ∈ AL := AL_3 65 rfl rfl
theorem wq547 : (.lays "FireEngines$Engine" "FireEngines$Engine" "steam" "I" : Cond) ∈ AL := AL_3 67 rfl rfl
theorem wq549 : (.lays "FireEngines$Engine" "FireEngines$Engine" "minutesLeft" "I" : Cond) ∈ AL := AL_3 69 rfl rfl
theorem wq551 : (.lays "FireEngines$Engine" "FireEngines$Engine" "goal" "I" : Cond) ∈ AL := AL_3 71 rfl rfl
theorem wq553 : (.lays "FireEngines$Engine" "FireEngines$Engine" "hose" "I" : Cond) ∈ AL := AL_3 73 rfl rfl
theorem wq555 : (.lays "FireEngines$Engine" "FireEngines$Engine" "came" "I" : Cond) ∈ AL := AL_3 75 rfl rfl
theorem wq557 : (.lays "FireEngines$Engine" "FireEngines$Engine" "gave" "I" : Cond) ∈ AL := AL_3 77 rfl rfl
theorem wq559 : (.lays "FireEngines$Engine" "FireEngines$Engine" "asked" "Z" : Cond) ∈ AL := AL_3 79 rfl rfl
theorem wq562 : (.methodLink RX4 60 yX0_copyFrom : Cond) ∈ AL := AL_3 82 rfl rfl
theorem wq563 : (.instanceMethod yX0_copyFrom : Cond) ∈ AL := AL_3 83 rfl rfl
theorem wq564 : (.selects RX0 yX0_copyFrom yX0_copyFrom : Cond) ∈ AL := AL_3 84 rfl rfl
theorem wq565 : (.code yX0_copyFrom cX0_copyFrom 2 (none : Option Jvm.ClassFile.FieldType) : Cond) ∈ AL := AL_3 85 rfl rfl
theorem wq566 : (.methodLink RL 147 yX5_lasts : Cond) ∈ AL := AL_3 86 rfl rfl
theorem wq567 : (.instanceMethod yX5_lasts : Cond) ∈ AL := AL_3 87 rfl rfl
theorem wq568 : (.selects RX5 yX5_lasts yX5_lasts : Cond) ∈ AL := AL_3 88 rfl rfl
theorem wq569 : (.code yX5_lasts cX5_lasts 2 (some .int) : Cond) ∈ AL := AL_3 89 rfl rfl
theorem wq570 : (.methodLink RX5 89 yX4_housesThatAre : Cond) ∈ AL := AL_3 90 rfl rfl
theorem wq571 : (.methodLink RL 159 yX8_isNear : Cond) ∈ AL := AL_3 91 rfl rfl
theorem wq572 : (.static yX8_isNear : Cond) ∈ AL := AL_3 92 rfl rfl
theorem wq573 : (.code yX8_isNear cX8_isNear 2 (some .boolean) : Cond) ∈ AL := AL_3 93 rfl rfl
theorem wq574 : (.methodLink RX8 43 Lib.Math.abs.name : Cond) ∈ AL := AL_3 94 rfl rfl
theorem wq575 : (.methodLink RX8 49 Lib.Math.max.name : Cond) ∈ AL := AL_3 95 rfl rfl
theorem wq576 : (.methodLink RL 154 yX8_pass : Cond) ∈ AL := AL_3 96 rfl rfl
theorem wq577 : (.instanceMethod yX8_pass : Cond) ∈ AL := AL_3 97 rfl rfl
theorem wq578 : (.selects RX8 yX8_pass yX8_pass : Cond) ∈ AL := AL_3 98 rfl rfl
theorem wq579 : (.code yX8_pass cX8_pass 6 (some .int) : Cond) ∈ AL := AL_3 99 rfl rfl
theorem wq580 : (.methodLink RX8 120 yX8_gives : Cond) ∈ AL := AL_3 100 rfl rfl
theorem wq581 : (.instanceMethod yX8_gives : Cond) ∈ AL := AL_3 101 rfl rfl
theorem wq582 : (.selects RX8 yX8_gives yX8_gives : Cond) ∈ AL := AL_3 102 rfl rfl
theorem wq583 : (.code yX8_gives cX8_gives 13 (some (.array .int)) : Cond) ∈ AL := AL_3 103 rfl rfl
theorem wq584 : (.methodLink RX8 97 yX6_pumps : Cond) ∈ AL := AL_3 104 rfl rfl
theorem wq585 : (.instanceMethod yX6_pumps : Cond) ∈ AL := AL_3 105 rfl rfl
theorem wq586 : (.selects RX6 yX6_pumps yX6_pumps : Cond) ∈ AL := AL_3 106 rfl rfl
theorem wq587 : (.code yX6_pumps cX6_pumps 1 (some .int) : Cond) ∈ AL := AL_3 107 rfl rfl
theorem wq588 : (.methodLink RX8 101 yX8_source : Cond) ∈ AL := AL_3 108 rfl rfl
theorem wq589 : (.instanceMethod yX8_source : Cond) ∈ AL := AL_3 109 rfl rfl
theorem wq590 : (.selects RX8 yX8_source yX8_source : Cond) ∈ AL := AL_3 110 rfl rfl
theorem wq591 : (.code yX8_source cX8_source 3 (some .int) : Cond) ∈ AL := AL_3 111 rfl rfl
theorem wq592 : (.methodLink RX8 81 yX8_isNear : Cond) ∈ AL := AL_3 112 rfl rfl
theorem wq593 : (.methodLink RX8 105 Lib.Math.min.name : Cond) ∈ AL := AL_3 113 rfl rfl
theorem wq594 : (.methodLink RX8 108 yX8_far : Cond) ∈ AL := AL_3 114 rfl rfl
theorem wq595 : (.static yX8_far : Cond) ∈ AL := AL_3 115 rfl rfl
theorem wq596 : (.code yX8_far cX8_far 2 (some .int) : Cond) ∈ AL := AL_3 116 rfl rfl
theorem wq597 : (.methodLink RX8 130 yX8_heatNear : Cond) ∈ AL := AL_3 117 rfl rfl
theorem wq598 : (.instanceMethod yX8_heatNear : Cond) ∈ AL := AL_3 118 rfl rfl
theorem wq599 : (.selects RX8 yX8_heatNear yX8_heatNear : Cond) ∈ AL := AL_3 119 rfl rfl
theorem wq600 : (.code yX8_heatNear cX8_heatNear 7 (some .int) : Cond) ∈ AL := AL_3 120 rfl rfl
theorem wq601 : (.arrayClass .boolean : Cond) ∈ AL := AL_3 121 rfl rfl
theorem wq602 : (.methodLink RL 12 yL_cell : Cond) ∈ AL := AL_3 122 rfl rfl
theorem wq603 : (.static yL_cell : Cond) ∈ AL := AL_3 123 rfl rfl
theorem wq604 : (.code yL_cell cL_cell 2 (some .int) : Cond) ∈ AL := AL_3 124 rfl rfl
theorem wq605 : (.constant RL 8 (790386105) : Cond) ∈ AL := AL_3 125 rfl rfl
theorem wq606 : (.methodLink RL 128 yL_build : Cond) ∈ AL := AL_3 126 rfl rfl
theorem wq607 : (.static yL_build : Cond) ∈ AL := AL_3 127 rfl rfl
theorem wq608 : (.code yL_build cL_build 13 (some (.object "FireEnginesLaw$Sim")) : Cond) ∈ AL := AL_3 128 rfl rfl
theorem wq609 : (.classLink RL 9 RX8 : Cond) ∈ AL := AL_3 129 rfl rfl
theorem wq610 : (.instantiable RX8 4 : Cond) ∈ AL := AL_3 130 rfl rfl
theorem wq612 : (.instanceMethod yX8_init : Cond) ∈ AL := AL_3 132 rfl rfl
theorem wq613 : (.code yX8_init cX8_init 1 (none : Option Jvm.ClassFile.FieldType) : Cond) ∈ AL := AL_3 133 rfl rfl
theorem wq614 : (.methodLink RX8 1 objectInit : Cond) ∈ AL := AL_3 134 rfl rfl
theorem wq615 : (.classLink RX8 7 RX7 : Cond) ∈ AL := AL_3 135 rfl rfl
theorem wt616 : (.arrayOver (.object "FireEnginesLaw$House") : Cond) ∈ lw_tbl := AT_3 136 rfl
theorem wq617 : (.classLink RX8 15 RX6 : Cond) ∈ AL := AL_3 137 rfl rfl
theorem wt618 : (.arrayOver (.object "FireEnginesLaw$Engine") : Cond) ∈ lw_tbl := AT_3 138 rfl
theorem wq619 : (.classLink RX8 21 "[I" : Cond) ∈ AL := AL_3 139 rfl rfl
theorem wt620 : (.arrayOver (.array .int) : Cond) ∈ lw_tbl := AT_3 140 rfl
theorem wq621 : (.fieldLink RX8 28 "FireEnginesLaw$Sim" "minute" "I" : Cond) ∈ AL := AL_3 141 rfl rfl
theorem wq622 : (.fieldLink RX8 9 "FireEnginesLaw$Sim" "houses" "[LFireEnginesLaw$House;" : Cond) ∈ AL := AL_3 142 rfl rfl
theorem wq623 : (.fieldLink RL 32 "FireEnginesLaw$Sim" "houses" "[LFireEnginesLaw$House;" : Cond) ∈ AL := AL_3 143 rfl rfl
theorem wq624 : (.fieldLink RX8 17 "FireEnginesLaw$Sim" "engines" "[LFireEnginesLaw$Engine;" : Cond) ∈ AL := AL_3 144 rfl rfl
theorem wq625 : (.fieldLink RL 56 "FireEnginesLaw$Sim" "engines" "[LFireEnginesLaw$Engine;" : Cond) ∈ AL := AL_3 145 rfl rfl
theorem wq626 : (.fieldLink RX8 23 "FireEnginesLaw$Sim" "ponds" "[[I" : Cond) ∈ AL := AL_3 146 rfl rfl
theorem wq627 : (.fieldLink RL 43 "FireEnginesLaw$Sim" "ponds" "[[I" : Cond) ∈ AL := AL_3 147 rfl rfl
theorem wq628 : (.lays "FireEnginesLaw$Sim" "FireEnginesLaw$Sim" "minute" "I" : Cond) ∈ AL := AL_3 148 rfl rfl
theorem wq630 : (.lays "FireEnginesLaw$Sim" "FireEnginesLaw$Sim" "houses" "[LFireEnginesLaw$House;" : Cond) ∈ AL := AL_3 150 rfl rfl
theorem wq632 : (.lays "FireEnginesLaw$Sim" "FireEnginesLaw$Sim" "engines" "[LFireEnginesLaw$Engine;" : Cond) ∈ AL := AL_3 152 rfl rfl
theorem wq634 : (.lays "FireEnginesLaw$Sim" "FireEnginesLaw$Sim" "ponds" "[[I" : Cond) ∈ AL := AL_3 154 rfl rfl
theorem wq637 : (.methodLink RL 18 yL_below : Cond) ∈ AL := AL_3 157 rfl rfl
theorem wq638 : (.static yL_below : Cond) ∈ AL := AL_3 158 rfl rfl
theorem wq639 : (.code yL_below cL_below 2 (some .int) : Cond) ∈ AL := AL_3 159 rfl rfl
theorem wq640 : (.constant RL 7 (2147483647) : Cond) ∈ AL := AL_3 160 rfl rfl
theorem wq641 : (.methodLink RL 22 yX8_isFree : Cond) ∈ AL := AL_3 161 rfl rfl
theorem wq642 : (.instanceMethod yX8_isFree : Cond) ∈ AL := AL_3 162 rfl rfl
theorem wq643 : (.selects RX8 yX8_isFree yX8_isFree : Cond) ∈ AL := AL_3 163 rfl rfl
theorem wq644 : (.code yX8_isFree cX8_isFree 6 (some .boolean) : Cond) ∈ AL := AL_3 164 rfl rfl
theorem wq645 : (.methodLink RX8 77 yX8_isStreet : Cond) ∈ AL := AL_3 165 rfl rfl
theorem wq646 : (.instanceMethod yX8_isStreet : Cond) ∈ AL := AL_3 166 rfl rfl
theorem wq647 : (.selects RX8 yX8_isStreet yX8_isStreet : Cond) ∈ AL := AL_3 167 rfl rfl
theorem wq648 : (.code yX8_isStreet cX8_isStreet 6 (some .boolean) : Cond) ∈ AL := AL_3 168 rfl rfl
theorem wq649 : (.methodLink RL 26 yX5_build : Cond) ∈ AL := AL_3 169 rfl rfl
theorem wq650 : (.instanceMethod yX5_build : Cond) ∈ AL := AL_3 170 rfl rfl
theorem wq651 : (.selects RX5 yX5_build yX5_build : Cond) ∈ AL := AL_3 171 rfl rfl
theorem wq652 : (.code yX5_build cX5_build 7 (some .int) : Cond) ∈ AL := AL_3 172 rfl rfl
theorem wq653 : (.methodLink RX5 26 yX5_requireCell : Cond) ∈ AL := AL_3 173 rfl rfl
theorem wq654 : (.static yX5_requireCell : Cond) ∈ AL := AL_3 174 rfl rfl
theorem wq655 : (.code yX5_requireCell cX5_requireCell 2 (none : Option Jvm.ClassFile.FieldType) : Cond) ∈ AL := AL_3 175 rfl rfl
theorem wq656 : (.methodLink RX5 200 yX5_isOnMap : Cond) ∈ AL := AL_3 176 rfl rfl
theorem wq657 : (.static yX5_isOnMap : Cond) ∈ AL := AL_3 177 rfl rfl
theorem wq658 : (.code yX5_isOnMap cX5_isOnMap 2 (some .boolean) : Cond) ∈ AL := AL_3 178 rfl rfl
theorem wq660 : (.methodLink RX5 34 yX5_cellAt : Cond) ∈ AL := AL_3 180 rfl rfl
theorem wq661 : (.static yX5_cellAt : Cond) ∈ AL := AL_3 181 rfl rfl
theorem wq662 : (.code yX5_cellAt cX5_cellAt 2 (some .int) : Cond) ∈ AL := AL_3 182 rfl rfl
theorem wq663 : (.methodLink RX5 38 yX5_isFree : Cond) ∈ AL := AL_3 183 rfl rfl
theorem wq665 : (.instanceMethod yX5_isFree : Cond) ∈ AL := AL_3 185 rfl rfl
theorem wq666 : (.code yX5_isFree cX5_isFree 2 (some .boolean) : Cond) ∈ AL := AL_3 186 rfl rfl
theorem wq667 : (.methodLink RX5 111 yX1_isStreet : Cond) ∈ AL := AL_3 187 rfl rfl
theorem wq668 : (.instanceMethod yX1_isStreet : Cond) ∈ AL := AL_3 188 rfl rfl
theorem wq669 : (.selects RX1 yX1_isStreet yX1_isStreet : Cond) ∈ AL := AL_3 189 rfl rfl
theorem wq670 : (.code yX1_isStreet cX1_isStreet 2 (some .boolean) : Cond) ∈ AL := AL_3 190 rfl rfl
theorem wq671 : (.methodLink RX1 25 yX1_kindOf : Cond) ∈ AL := AL_3 191 rfl rfl
theorem wq672 : (.instanceMethod yX1_kindOf : Cond) ∈ AL := AL_3 192 rfl rfl
theorem wq673 : (.selects RX1 yX1_kindOf yX1_kindOf : Cond) ∈ AL := AL_3 193 rfl rfl
theorem wq674 : (.code yX1_kindOf cX1_kindOf 2 (some .int) : Cond) ∈ AL := AL_3 194 rfl rfl
theorem wq675 : (.methodLink RX5 102 yX4_enginesOn : Cond) ∈ AL := AL_3 195 rfl rfl
theorem wq676 : (.instanceMethod yX4_enginesOn : Cond) ∈ AL := AL_3 196 rfl rfl
theorem wq677 : (.selects RX4 yX4_enginesOn yX4_enginesOn : Cond) ∈ AL := AL_3 197 rfl rfl
theorem wq678 : (.code yX4_enginesOn cX4_enginesOn 4 (some .int) : Cond) ∈ AL := AL_3 198 rfl rfl
theorem wq679 : (.methodLink RX5 193 yX4_isGoal : Cond) ∈ AL := AL_3 199 rfl rfl
theorem wq680 : (.instanceMethod yX4_isGoal : Cond) ∈ AL := AL_3 200 rfl rfl
theorem wq681 : (.selects RX4 yX4_isGoal yX4_isGoal : Cond) ∈ AL := AL_3 201 rfl rfl
theorem wq682 : (.code yX4_isGoal cX4_isGoal 3 (some .boolean) : Cond) ∈ AL := AL_3 202 rfl rfl
theorem wq683 : (.methodLink RX5 52 yX5_requireState : Cond) ∈ AL := AL_3 203 rfl rfl
theorem wq684 : (.static yX5_requireState : Cond) ∈ AL := AL_3 204 rfl rfl
theorem wq685 : (.code yX5_requireState cX5_requireState 1 (none : Option Jvm.ClassFile.FieldType) : Cond) ∈ AL := AL_3 205 rfl rfl
theorem wq686 : (.classLink RX5 212 "java/lang/IllegalStateException" : Cond) ∈ AL := AL_3 206 rfl rfl
theorem wq687 : (.instantiable "java/lang/IllegalStateException" 6 : Cond) ∈ AL := AL_3 207 rfl rfl
theorem wq689 : (.selects "java/lang/IllegalStateException" ⟨"java/lang/Throwable", "fillInStackTrace", "(I)Ljava/lang/Throwable;"⟩ ⟨"java/lang/Throwable", "fillInStackTrace", "(I)Ljava/lang/Throwable;"⟩ : Cond) ∈ AL := AL_3 209 rfl rfl
theorem wq690 : (.lays "java/lang/IllegalStateException" "java/lang/Throwable" "cause" "Ljava/lang/Throwable;" : Cond) ∈ AL := AL_3 210 rfl rfl
theorem wq691 : (.lays "java/lang/IllegalStateException" "java/lang/Throwable" "stackTrace" "[Ljava/lang/StackTraceElement;" : Cond) ∈ AL := AL_3 211 rfl rfl
theorem wq692 : (.lays "java/lang/IllegalStateException" "java/lang/Throwable" "suppressedExceptions" "Ljava/util/List;" : Cond) ∈ AL := AL_3 212 rfl rfl
theorem wq693 : (.lays "java/lang/IllegalStateException" "java/lang/Throwable" "detailMessage" "Ljava/lang/String;" : Cond) ∈ AL := AL_3 213 rfl rfl
theorem wq694 : (.lays "java/lang/IllegalStateException" "java/lang/Throwable" "backtrace" "Ljava/lang/Object;" : Cond) ∈ AL := AL_3 214 rfl rfl
theorem wq696 : (.methodLink RX5 216 ⟨"java/lang/IllegalStateException", "<init>", "(Ljava/lang/String;)V"⟩ : Cond) ∈ AL := AL_3 216 rfl rfl
theorem wq697 : (.instanceMethod ⟨"java/lang/IllegalStateException", "<init>", "(Ljava/lang/String;)V"⟩ : Cond) ∈ AL := AL_3 217 rfl rfl
theorem wq698 : (.code ⟨"java/lang/IllegalStateException", "<init>", "(Ljava/lang/String;)V"⟩ prog_16_method_2_code 2 (none : Option Jvm.ClassFile.FieldType) : Cond) ∈ AL := AL_3 218 rfl rfl
theorem wq699 : (.methodLink "java/lang/IllegalStateException" 7 ⟨"java/lang/RuntimeException", "<init>", "(Ljava/lang/String;)V"⟩ : Cond) ∈ AL := AL_3 219 rfl rfl
theorem wq700 : (.lays "java/lang/IllegalStateException" "java/lang/Throwable" "depth" "I" : Cond) ∈ AL := AL_3 220 rfl rfl
theorem wq702 : (.methodLink RX5 58 yX2_init : Cond) ∈ AL := AL_3 222 rfl rfl
theorem wq703 : (.methodLink RX5 60 yJx4a65c_add_9ea2d : Cond) ∈ AL := AL_3 223 rfl rfl
theorem wq704 : (.methodLink RX5 64 yX1_put : Cond) ∈ AL := AL_3 224 rfl rfl
theorem wq705 : (.instanceMethod yX1_put : Cond) ∈ AL := AL_3 225 rfl rfl
theorem wq706 : (.selects RX1 yX1_put yX1_put : Cond) ∈ AL := AL_3 226 rfl rfl
theorem wq707 : (.code yX1_put cX1_put 4 (none : Option Jvm.ClassFile.FieldType) : Cond) ∈ AL := AL_3 227 rfl rfl
theorem wq708 : (.methodLink RX1 21 yX1_isStreet : Cond) ∈ AL := AL_3 228 rfl rfl
theorem wq709 : (.methodLink RL 36 yX8_build : Cond) ∈ AL := AL_3 229 rfl rfl
theorem wq710 : (.instanceMethod yX8_build : Cond) ∈ AL := AL_3 230 rfl rfl
theorem wq711 : (.selects RX8 yX8_build yX8_build : Cond) ∈ AL := AL_3 231 rfl rfl
theorem wq712 : (.code yX8_build cX8_build 6 (none : Option Jvm.ClassFile.FieldType) : Cond) ∈ AL := AL_3 232 rfl rfl
theorem wq713 : (.instantiable RX7 7 : Cond) ∈ AL := AL_3 233 rfl rfl
theorem wq715 : (.instanceMethod yX7_init : Cond) ∈ AL := AL_3 235 rfl rfl
theorem wq716 : (.code yX7_init cX7_init 1 (none : Option Jvm.ClassFile.FieldType) : Cond) ∈ AL := AL_3 236 rfl rfl
theorem wq717 : (.methodLink RX7 1 objectInit : Cond) ∈ AL := AL_3 237 rfl rfl
theorem wq718 : (.fieldLink RX8 54 "FireEnginesLaw$House" "cell" "I" : Cond) ∈ AL := AL_3 238 rfl rfl
theorem wq719 : (.fieldLink RL 114 "FireEnginesLaw$House" "cell" "I" : Cond) ∈ AL := AL_3 239 rfl rfl
theorem wq720 : (.fieldLink RX8 57 "FireEnginesLaw$House" "wood" "I" : Cond) ∈ AL := AL_4 0 rfl rfl
theorem wq721 : (.fieldLink RX8 60 "FireEnginesLaw$House" "walls" "I" : Cond) ∈ AL := AL_4 1 rfl rfl
theorem wq722 : (.fieldLink RL 67 "FireEnginesLaw$House" "state" "I" : Cond) ∈ AL := AL_4 2 rfl rfl
theorem wq723 : (.fieldLink RX8 91 "FireEnginesLaw$House" "state" "I" : Cond) ∈ AL := AL_4 3 rfl rfl
theorem wq724 : (.fieldLink RL 73 "FireEnginesLaw$House" "heat" "I" : Cond) ∈ AL := AL_4 4 rfl rfl
theorem wq725 : (.fieldLink RX8 94 "FireEnginesLaw$House" "heat" "I" : Cond) ∈ AL := AL_4 5 rfl rfl
theorem wq726 : (.fieldLink RX8 111 "FireEnginesLaw$House" "now" "I" : Cond) ∈ AL := AL_4 6 rfl rfl
theorem wq727 : (.fieldLink RX8 127 "FireEnginesLaw$House" "all" "I" : Cond) ∈ AL := AL_4 7 rfl rfl
theorem wq728 : (.lays "FireEnginesLaw$House" "FireEnginesLaw$House" "cell" "I" : Cond) ∈ AL := AL_4 8 rfl rfl
theorem wq730 : (.lays "FireEnginesLaw$House" "FireEnginesLaw$House" "wood" "I" : Cond) ∈ AL := AL_4 10 rfl rfl
theorem wq732 : (.lays "FireEnginesLaw$House" "FireEnginesLaw$House" "walls" "I" : Cond) ∈ AL := AL_4 12 rfl rfl
theorem wq734 : (.lays "FireEnginesLaw$House" "FireEnginesLaw$House" "state" "I" : Cond) ∈ AL := AL_4 14 rfl rfl
theorem wq736 : (.lays "FireEnginesLaw$House" "FireEnginesLaw$House" "heat" "I" : Cond) ∈ AL := AL_4 16 rfl rfl
theorem wq738 : (.lays "FireEnginesLaw$House" "FireEnginesLaw$House" "now" "I" : Cond) ∈ AL := AL_4 18 rfl rfl
theorem wq740 : (.lays "FireEnginesLaw$House" "FireEnginesLaw$House" "all" "I" : Cond) ∈ AL := AL_4 20 rfl rfl
theorem wq743 : (.methodLink RL 39 yX5_dig : Cond) ∈ AL := AL_4 23 rfl rfl
theorem wq744 : (.instanceMethod yX5_dig : Cond) ∈ AL := AL_4 24 rfl rfl
theorem wq745 : (.selects RX5 yX5_dig yX5_dig : Cond) ∈ AL := AL_4 25 rfl rfl
theorem wq746 : (.code yX5_dig cX5_dig 6 (some .int) : Cond) ∈ AL := AL_4 26 rfl rfl
theorem wq747 : (.methodLink RX5 72 yX3_init : Cond) ∈ AL := AL_4 27 rfl rfl
theorem wq748 : (.methodLink RL 47 yX8_dig : Cond) ∈ AL := AL_4 28 rfl rfl
theorem wq749 : (.instanceMethod yX8_dig : Cond) ∈ AL := AL_4 29 rfl rfl
theorem wq750 : (.selects RX8 yX8_dig yX8_dig : Cond) ∈ AL := AL_4 30 rfl rfl
theorem wq751 : (.code yX8_dig cX8_dig 5 (none : Option Jvm.ClassFile.FieldType) : Cond) ∈ AL := AL_4 31 rfl rfl
theorem wq752 : (.methodLink RL 50 yX8_isStreet : Cond) ∈ AL := AL_4 32 rfl rfl
theorem wq753 : (.methodLink RL 53 yX5_addEngine : Cond) ∈ AL := AL_4 33 rfl rfl
theorem wq754 : (.instanceMethod yX5_addEngine : Cond) ∈ AL := AL_4 34 rfl rfl
theorem wq755 : (.selects RX5 yX5_addEngine yX5_addEngine : Cond) ∈ AL := AL_4 35 rfl rfl
theorem wq756 : (.code yX5_addEngine cX5_addEngine 7 (some .int) : Cond) ∈ AL := AL_4 36 rfl rfl
theorem wq757 : (.methodLink RX5 119 yX0_init : Cond) ∈ AL := AL_4 37 rfl rfl
theorem wq758 : (.methodLink RL 60 yX8_come : Cond) ∈ AL := AL_4 38 rfl rfl
theorem wq759 : (.instanceMethod yX8_come : Cond) ∈ AL := AL_4 39 rfl rfl
theorem wq760 : (.selects RX8 yX8_come yX8_come : Cond) ∈ AL := AL_4 40 rfl rfl
theorem wq761 : (.code yX8_come cX8_come 6 (none : Option Jvm.ClassFile.FieldType) : Cond) ∈ AL := AL_4 41 rfl rfl
theorem wq762 : (.instantiable RX6 9 : Cond) ∈ AL := AL_4 42 rfl rfl
theorem wq764 : (.instanceMethod yX6_init : Cond) ∈ AL := AL_4 44 rfl rfl
theorem wq765 : (.code yX6_init cX6_init 1 (none : Option Jvm.ClassFile.FieldType) : Cond) ∈ AL := AL_4 45 rfl rfl
theorem wq766 : (.methodLink RX6 1 objectInit : Cond) ∈ AL := AL_4 46 rfl rfl
theorem wq767 : (.fieldLink RX8 64 "FireEnginesLaw$Engine" "cell" "I" : Cond) ∈ AL := AL_4 47 rfl rfl
theorem wq768 : (.fieldLink RL 87 "FireEnginesLaw$Engine" "cell" "I" : Cond) ∈ AL := AL_4 48 rfl rfl
theorem wq769 : (.fieldLink RX8 65 "FireEnginesLaw$Engine" "horses" "I" : Cond) ∈ AL := AL_4 49 rfl rfl
theorem wq770 : (.fieldLink RL 92 "FireEnginesLaw$Engine" "horses" "I" : Cond) ∈ AL := AL_4 50 rfl rfl
theorem wq771 : (.fieldLink RX6 23 "FireEnginesLaw$Engine" "power" "I" : Cond) ∈ AL := AL_4 51 rfl rfl
theorem wq772 : (.fieldLink RX8 68 "FireEnginesLaw$Engine" "power" "I" : Cond) ∈ AL := AL_4 52 rfl rfl
theorem wq773 : (.fieldLink RX6 7 "FireEnginesLaw$Engine" "coal" "I" : Cond) ∈ AL := AL_4 53 rfl rfl
theorem wq774 : (.fieldLink RL 118 "FireEnginesLaw$Engine" "coal" "I" : Cond) ∈ AL := AL_4 54 rfl rfl
theorem wq775 : (.fieldLink RX8 114 "FireEnginesLaw$Engine" "coal" "I" : Cond) ∈ AL := AL_4 55 rfl rfl
theorem wq776 : (.fieldLink RX6 26 "FireEnginesLaw$Engine" "steam" "I" : Cond) ∈ AL := AL_4 56 rfl rfl
theorem wq777 : (.fieldLink RX8 117 "FireEnginesLaw$Engine" "steam" "I" : Cond) ∈ AL := AL_4 57 rfl rfl
theorem wq778 : (.fieldLink RX6 29 "FireEnginesLaw$Engine" "left" "I" : Cond) ∈ AL := AL_4 58 rfl rfl
theorem wq779 : (.fieldLink RL 82 "FireEnginesLaw$Engine" "left" "I" : Cond) ∈ AL := AL_4 59 rfl rfl
theorem wq780 : (.fieldLink RX8 71 "FireEnginesLaw$Engine" "left" "I" : Cond) ∈ AL := AL_4 60 rfl rfl
theorem wq781 : (.fieldLink RL 95 "FireEnginesLaw$Engine" "goal" "I" : Cond) ∈ AL := AL_4 61 rfl rfl
theorem wq782 : (.fieldLink RX8 74 "FireEnginesLaw$Engine" "goal" "I" : Cond) ∈ AL := AL_4 62 rfl rfl
theorem wq783 : (.fieldLink RX6 13 "FireEnginesLaw$Engine" "hose" "I" : Cond) ∈ AL := AL_4 63 rfl rfl
theorem wq784 : (.fieldLink RL 98 "FireEnginesLaw$Engine" "hose" "I" : Cond) ∈ AL := AL_4 64 rfl rfl
theorem wq785 : (.fieldLink RX8 85 "FireEnginesLaw$Engine" "hose" "I" : Cond) ∈ AL := AL_4 65 rfl rfl
theorem wq786 : (.fieldLink RX8 124 "FireEnginesLaw$Engine" "gave" "I" : Cond) ∈ AL := AL_4 66 rfl rfl
theorem wq787 : (.lays "FireEnginesLaw$Engine" "FireEnginesLaw$Engine" "cell" "I" : Cond) ∈ AL := AL_4 67 rfl rfl
theorem wq789 : (.lays "FireEnginesLaw$Engine" "FireEnginesLaw$Engine" "horses" "I" : Cond) ∈ AL := AL_4 69 rfl rfl
theorem wq791 : (.lays "FireEnginesLaw$Engine" "FireEnginesLaw$Engine" "power" "I" : Cond) ∈ AL := AL_4 71 rfl rfl
theorem wq793 : (.lays "FireEnginesLaw$Engine" "FireEnginesLaw$Engine" "coal" "I" : Cond) ∈ AL := AL_4 73 rfl rfl
theorem wq795 : (.lays "FireEnginesLaw$Engine" "FireEnginesLaw$Engine" "steam" "I" : Cond) ∈ AL := AL_4 75 rfl rfl
theorem wq797 : (.lays "FireEnginesLaw$Engine" "FireEnginesLaw$Engine" "left" "I" : Cond) ∈ AL := AL_4 77 rfl rfl
theorem wq799 : (.lays "FireEnginesLaw$Engine" "FireEnginesLaw$Engine" "goal" "I" : Cond) ∈ AL := AL_4 79 rfl rfl
theorem wq801 : (.lays "FireEnginesLaw$Engine" "FireEnginesLaw$Engine" "hose" "I" : Cond) ∈ AL := AL_4 81 rfl rfl
theorem wq803 : (.lays "FireEnginesLaw$Engine" "FireEnginesLaw$Engine" "gave" "I" : Cond) ∈ AL := AL_4 83 rfl rfl
theorem wq806 : (.methodLink RL 63 yL_light : Cond) ∈ AL := AL_4 86 rfl rfl
theorem wq807 : (.static yL_light : Cond) ∈ AL := AL_4 87 rfl rfl
theorem wq808 : (.code yL_light cL_light 4 (some .boolean) : Cond) ∈ AL := AL_4 88 rfl rfl
theorem wq809 : (.methodLink RL 76 yX5_light : Cond) ∈ AL := AL_4 89 rfl rfl
theorem wq810 : (.instanceMethod yX5_light : Cond) ∈ AL := AL_4 90 rfl rfl
theorem wq811 : (.selects RX5 yX5_light yX5_light : Cond) ∈ AL := AL_4 91 rfl rfl
theorem wq812 : (.code yX5_light cX5_light 4 (some .int) : Cond) ∈ AL := AL_4 92 rfl rfl
theorem wq813 : (.methodLink RX5 86 yX2_catchFire : Cond) ∈ AL := AL_4 93 rfl rfl
theorem wq814 : (.instanceMethod yX2_catchFire : Cond) ∈ AL := AL_4 94 rfl rfl
theorem wq815 : (.selects RX2 yX2_catchFire yX2_catchFire : Cond) ∈ AL := AL_4 95 rfl rfl
theorem wq816 : (.code yX2_catchFire cX2_catchFire 2 (none : Option Jvm.ClassFile.FieldType) : Cond) ∈ AL := AL_4 96 rfl rfl
theorem wq817 : (.methodLink RL 78 yX8_with : Cond) ∈ AL := AL_4 97 rfl rfl
theorem wq818 : (.instanceMethod yX8_with : Cond) ∈ AL := AL_4 98 rfl rfl
theorem wq819 : (.selects RX8 yX8_with yX8_with : Cond) ∈ AL := AL_4 99 rfl rfl
theorem wq820 : (.code yX8_with cX8_with 7 (some .int) : Cond) ∈ AL := AL_4 100 rfl rfl
theorem wq821 : (.methodLink RL 131 yL_act : Cond) ∈ AL := AL_4 101 rfl rfl
theorem wq822 : (.static yL_act : Cond) ∈ AL := AL_4 102 rfl rfl
theorem wq823 : (.code yL_act cL_act 11 (some .boolean) : Cond) ∈ AL := AL_4 103 rfl rfl
theorem wq824 : (.methodLink RL 89 yX8_way : Cond) ∈ AL := AL_4 104 rfl rfl
theorem wq825 : (.instanceMethod yX8_way : Cond) ∈ AL := AL_4 105 rfl rfl
theorem wq826 : (.selects RX8 yX8_way yX8_way : Cond) ∈ AL := AL_4 106 rfl rfl
theorem wq827 : (.code yX8_way cX8_way 13 (some .int) : Cond) ∈ AL := AL_4 107 rfl rfl
theorem wq828 : (.methodLink RL 101 yX5_drive : Cond) ∈ AL := AL_4 108 rfl rfl
theorem wq829 : (.instanceMethod yX5_drive : Cond) ∈ AL := AL_4 109 rfl rfl
theorem wq830 : (.selects RX5 yX5_drive yX5_drive : Cond) ∈ AL := AL_4 110 rfl rfl
theorem wq831 : (.code yX5_drive cX5_drive 7 (some .int) : Cond) ∈ AL := AL_4 111 rfl rfl
theorem wq832 : (.methodLink RX5 126 yX0_stands : Cond) ∈ AL := AL_4 112 rfl rfl
theorem wq833 : (.methodLink RX5 133 yX1_stepsBetween : Cond) ∈ AL := AL_4 113 rfl rfl
theorem wq834 : (.instanceMethod yX1_stepsBetween : Cond) ∈ AL := AL_4 114 rfl rfl
theorem wq835 : (.selects RX1 yX1_stepsBetween yX1_stepsBetween : Cond) ∈ AL := AL_4 115 rfl rfl
theorem wq836 : (.code yX1_stepsBetween cX1_stepsBetween 5 (some .int) : Cond) ∈ AL := AL_4 116 rfl rfl
theorem wq837 : (.methodLink RX1 29 yJ7_fill_53178 : Cond) ∈ AL := AL_4 117 rfl rfl
theorem wq838 : (.static yJ7_fill_53178 : Cond) ∈ AL := AL_4 118 rfl rfl
theorem wq839 : (.code yJ7_fill_53178 cJ7_fill_53178 4 (none : Option Jvm.ClassFile.FieldType) : Cond) ∈ AL := AL_4 119 rfl rfl
theorem wq840 : (.methodLink RX1 35 yX1_spread : Cond) ∈ AL := AL_4 120 rfl rfl
theorem wq842 : (.instanceMethod yX1_spread : Cond) ∈ AL := AL_4 122 rfl rfl
theorem wq843 : (.code yX1_spread cX1_spread 6 (some .int) : Cond) ∈ AL := AL_4 123 rfl rfl
theorem wq844 : (.methodLink RX1 38 yX1_enter : Cond) ∈ AL := AL_4 124 rfl rfl
theorem wq846 : (.instanceMethod yX1_enter : Cond) ∈ AL := AL_4 126 rfl rfl
theorem wq847 : (.code yX1_enter cX1_enter 5 (some .int) : Cond) ∈ AL := AL_4 127 rfl rfl
theorem wq850 : (.methodLink RX5 136 yX4_takeUpHosesOfAndTo : Cond) ∈ AL := AL_4 130 rfl rfl
theorem wq851 : (.instanceMethod yX4_takeUpHosesOfAndTo : Cond) ∈ AL := AL_4 131 rfl rfl
theorem wq852 : (.selects RX4 yX4_takeUpHosesOfAndTo yX4_takeUpHosesOfAndTo : Cond) ∈ AL := AL_4 132 rfl rfl
theorem wq853 : (.code yX4_takeUpHosesOfAndTo cX4_takeUpHosesOfAndTo 4 (none : Option Jvm.ClassFile.FieldType) : Cond) ∈ AL := AL_4 133 rfl rfl
theorem wq854 : (.methodLink RX5 139 yX0_setOut : Cond) ∈ AL := AL_4 134 rfl rfl
theorem wq855 : (.instanceMethod yX0_setOut : Cond) ∈ AL := AL_4 135 rfl rfl
theorem wq856 : (.selects RX0 yX0_setOut yX0_setOut : Cond) ∈ AL := AL_4 136 rfl rfl
theorem wq857 : (.code yX0_setOut cX0_setOut 3 (none : Option Jvm.ClassFile.FieldType) : Cond) ∈ AL := AL_4 137 rfl rfl
theorem wq858 : (.methodLink RL 104 yX8_far : Cond) ∈ AL := AL_4 138 rfl rfl
theorem wq859 : (.methodLink RL 107 yX8_leads : Cond) ∈ AL := AL_4 139 rfl rfl
theorem wq860 : (.instanceMethod yX8_leads : Cond) ∈ AL := AL_4 140 rfl rfl
theorem wq861 : (.selects RX8 yX8_leads yX8_leads : Cond) ∈ AL := AL_4 141 rfl rfl
theorem wq862 : (.code yX8_leads cX8_leads 4 (some .boolean) : Cond) ∈ AL := AL_4 142 rfl rfl
theorem wq863 : (.methodLink RX8 88 yX8_leads : Cond) ∈ AL := AL_4 143 rfl rfl
theorem wq864 : (.methodLink RL 111 yX5_relay : Cond) ∈ AL := AL_4 144 rfl rfl
theorem wq865 : (.instanceMethod yX5_relay : Cond) ∈ AL := AL_4 145 rfl rfl
theorem wq866 : (.selects RX5 yX5_relay yX5_relay : Cond) ∈ AL := AL_4 146 rfl rfl
theorem wq867 : (.code yX5_relay cX5_relay 6 (some .int) : Cond) ∈ AL := AL_4 147 rfl rfl
theorem wq868 : (.methodLink RX5 145 yX5_distance : Cond) ∈ AL := AL_4 148 rfl rfl
theorem wq869 : (.methodLink RX5 148 yX4_hosesLead : Cond) ∈ AL := AL_4 149 rfl rfl
theorem wq870 : (.instanceMethod yX4_hosesLead : Cond) ∈ AL := AL_4 150 rfl rfl
theorem wq871 : (.selects RX4 yX4_hosesLead yX4_hosesLead : Cond) ∈ AL := AL_4 151 rfl rfl
theorem wq872 : (.code yX4_hosesLead cX4_hosesLead 5 (some .boolean) : Cond) ∈ AL := AL_4 152 rfl rfl
theorem wq873 : (.methodLink RL 115 yX5_aim : Cond) ∈ AL := AL_4 153 rfl rfl
theorem wq874 : (.instanceMethod yX5_aim : Cond) ∈ AL := AL_4 154 rfl rfl
theorem wq875 : (.selects RX5 yX5_aim yX5_aim : Cond) ∈ AL := AL_4 155 rfl rfl
theorem wq876 : (.code yX5_aim cX5_aim 5 (some .int) : Cond) ∈ AL := AL_4 156 rfl rfl
theorem wq877 : (.methodLink RL 121 yX5_stoke : Cond) ∈ AL := AL_4 157 rfl rfl
theorem wq878 : (.instanceMethod yX5_stoke : Cond) ∈ AL := AL_4 158 rfl rfl
theorem wq879 : (.selects RX5 yX5_stoke yX5_stoke : Cond) ∈ AL := AL_4 159 rfl rfl
theorem wq880 : (.code yX5_stoke cX5_stoke 4 (some .int) : Cond) ∈ AL := AL_4 160 rfl rfl
theorem wq881 : (.methodLink RL 124 yX5_takeUp : Cond) ∈ AL := AL_4 161 rfl rfl
theorem wq882 : (.instanceMethod yX5_takeUp : Cond) ∈ AL := AL_4 162 rfl rfl
theorem wq883 : (.selects RX5 yX5_takeUp yX5_takeUp : Cond) ∈ AL := AL_4 163 rfl rfl
theorem wq884 : (.code yX5_takeUp cX5_takeUp 4 (some .boolean) : Cond) ∈ AL := AL_4 164 rfl rfl
theorem wq885 : (.methodLink RL 167 Lib.Math.max.name : Cond) ∈ AL := AL_4 165 rfl rfl
theorem wq886 : (.methodLink RL 162 Lib.Math.min.name : Cond) ∈ AL := AL_4 166 rfl rfl
theorem wq887 : (.classLink RL 134 "[[I" : Cond) ∈ AL := AL_4 167 rfl rfl
theorem wq888 : (.sameMethod "java/lang/Throwable" "java/lang/Throwable" "fillInStackTrace" "(I)Ljava/lang/Throwable;" : Cond) ∈ AL := AL_4 168 rfl rfl
theorem wq904 : (.sameMethod "[Ljava/lang/Object;" "java/lang/Object" "getClass" "()Ljava/lang/Class;" : Cond) ∈ AL := AL_4 184 rfl rfl
theorem wq905 : (.selects "[Ljava/lang/Object;" ⟨"java/lang/Object", "getClass", "()Ljava/lang/Class;"⟩ ⟨"java/lang/Object", "getClass", "()Ljava/lang/Class;"⟩ : Cond) ∈ AL := AL_4 185 rfl rfl
theorem ws0 : (.selects RX5 yX5_requireHouse yX5_requireHouse : Cond) ∈ AL := AL_s 0 rfl rfl
theorem ws1 : (.selects "java/lang/Throwable" ⟨"java/lang/Throwable", "fillInStackTrace", "(I)Ljava/lang/Throwable;"⟩ ⟨"java/lang/Throwable", "fillInStackTrace", "(I)Ljava/lang/Throwable;"⟩ : Cond) ∈ AL := AL_s 1 rfl rfl
theorem ws2 : (.selects RX5 yX5_requireEngine yX5_requireEngine : Cond) ∈ AL := AL_s 2 rfl rfl
theorem ws3 : (.selects RX4 yX4_pondBy yX4_pondBy : Cond) ∈ AL := AL_s 3 rfl rfl
theorem ws4 : (.selects RX4 yX4_fireAndDrive yX4_fireAndDrive : Cond) ∈ AL := AL_s 4 rfl rfl
theorem ws5 : (.selects RX4 yX4_moveWater yX4_moveWater : Cond) ∈ AL := AL_s 5 rfl rfl
theorem ws6 : (.selects RX4 yX4_nextToAsk yX4_nextToAsk : Cond) ∈ AL := AL_s 6 rfl rfl
theorem ws7 : (.selects RX4 yX4_waitsForWater yX4_waitsForWater : Cond) ∈ AL := AL_s 7 rfl rfl
theorem ws8 : (.selects RX4 yX4_isEngine yX4_isEngine : Cond) ∈ AL := AL_s 8 rfl rfl
theorem ws9 : (.selects RX4 yX4_ask yX4_ask : Cond) ∈ AL := AL_s 9 rfl rfl
theorem ws10 : (.selects RX4 yX4_sendThroughHose yX4_sendThroughHose : Cond) ∈ AL := AL_s 10 rfl rfl
theorem ws11 : (.selects RX4 yX4_isHouse yX4_isHouse : Cond) ∈ AL := AL_s 11 rfl rfl
theorem ws12 : (.selects RX2 yX2_endFire yX2_endFire : Cond) ∈ AL := AL_s 12 rfl rfl
theorem ws13 : (.selects RX4 yX4_catchFire yX4_catchFire : Cond) ∈ AL := AL_s 13 rfl rfl
theorem ws14 : (.selects RX4 yX4_waterOfPonds yX4_waterOfPonds : Cond) ∈ AL := AL_s 14 rfl rfl
theorem ws15 : (.selects RX4 yX4_sumOverHouses yX4_sumOverHouses : Cond) ∈ AL := AL_s 15 rfl rfl
theorem ws16 : (.selects RJx4a65c yJx4a65c_add_72be8 yJx4a65c_add_72be8 : Cond) ∈ AL := AL_s 16 rfl rfl
theorem ws17 : (.selects RJx4a65c yJx4a65c_grow_d5877 yJx4a65c_grow_d5877 : Cond) ∈ AL := AL_s 17 rfl rfl
theorem ws18 : (.selects RJx4a65c yJx4a65c_grow_92f84 yJx4a65c_grow_92f84 : Cond) ∈ AL := AL_s 18 rfl rfl
theorem ws19 : (.selects RX5 yX5_isFree yX5_isFree : Cond) ∈ AL := AL_s 19 rfl rfl
theorem ws20 : (.selects RX1 yX1_spread yX1_spread : Cond) ∈ AL := AL_s 20 rfl rfl
theorem ws21 : (.selects RX1 yX1_enter yX1_enter : Cond) ∈ AL := AL_s 21 rfl rfl
/-- the words that no warming keeps by itself: nest mates, casts -/
def NW : List Cond := [(.methodLinkNest RX5 11 yX1_init "FireEngines"), (.methodLinkNest RX5 18 yX4_init "FireEngines"), (.fieldLinkNest RX5 42 "FireEngines$Town" "houses" "Ljava/util/ArrayList;" "FireEngines"), (.fieldLinkNest RX5 67 "FireEngines$Town" "ponds" "Ljava/util/ArrayList;" "FireEngines"), (.fieldLinkNest RX5 114 "FireEngines$Town" "engines" "Ljava/util/ArrayList;" "FireEngines"), (.castable "java/lang/IndexOutOfBoundsException" "java/lang/IndexOutOfBoundsException"), (.declares ⟨"java/lang/RuntimeException", "<init>", "()V"⟩), (.declares ⟨"java/lang/RuntimeException", "<init>", "(Ljava/lang/String;)V"⟩), (.declares ⟨"java/lang/Exception", "<init>", "()V"⟩), (.declares ⟨"java/lang/Exception", "<init>", "(Ljava/lang/String;)V"⟩), (.declares ⟨"java/lang/Throwable", "<init>", "()V"⟩), (.declares ⟨"java/lang/Throwable", "<init>", "(Ljava/lang/String;)V"⟩), (.methodLinkNest RX4 117 yX5_areNear "FireEngines"), (.castable "java/lang/IllegalArgumentException" "java/lang/IllegalArgumentException"), (.methodLinkNest RX4 183 yX5_distance "FireEngines"), (.fieldLinkNest RX4 116 "FireEngines$House" "cell" "I" "FireEngines"), (.fieldLinkNest RX5 155 "FireEngines$House" "cell" "I" "FireEngines"), (.fieldLinkNest RX5 82 "FireEngines$House" "state" "I" "FireEngines"), (.fieldLinkNest RX4 104 "FireEngines$House" "state" "I" "FireEngines"), (.fieldLinkNest RX4 121 "FireEngines$House" "heat" "I" "FireEngines"), (.fieldLinkNest RX4 151 "FireEngines$House" "came" "I" "FireEngines"), (.fieldLinkNest RX4 128 "FireEngines$Pond" "cell" "I" "FireEngines"), (.fieldLinkNest RX4 110 "FireEngines$Pond" "water" "I" "FireEngines"), (.fieldLinkNest RX5 167 "FireEngines$Pond" "water" "I" "FireEngines"), (.fieldLinkNest RX4 73 "FireEngines$Engine" "cell" "I" "FireEngines"), (.fieldLinkNest RX5 130 "FireEngines$Engine" "cell" "I" "FireEngines"), (.fieldLinkNest RX4 76 "FireEngines$Engine" "horses" "I" "FireEngines"), (.fieldLinkNest RX4 79 "FireEngines$Engine" "power" "I" "FireEngines"), (.fieldLinkNest RX4 82 "FireEngines$Engine" "coal" "I" "FireEngines"), (.fieldLinkNest RX5 123 "FireEngines$Engine" "coal" "I" "FireEngines"), (.fieldLinkNest RX4 85 "FireEngines$Engine" "steam" "I" "FireEngines"), (.fieldLinkNest RX4 88 "FireEngines$Engine" "minutesLeft" "I" "FireEngines"), (.fieldLinkNest RX5 142 "FireEngines$Engine" "minutesLeft" "I" "FireEngines"), (.fieldLinkNest RX4 113 "FireEngines$Engine" "goal" "I" "FireEngines"), (.fieldLinkNest RX4 91 "FireEngines$Engine" "hose" "I" "FireEngines"), (.fieldLinkNest RX5 152 "FireEngines$Engine" "hose" "I" "FireEngines"), (.fieldLinkNest RX4 154 "FireEngines$Engine" "came" "I" "FireEngines"), (.fieldLinkNest RX4 98 "FireEngines$Engine" "gave" "I" "FireEngines"), (.fieldLinkNest RX4 155 "FireEngines$Engine" "asked" "Z" "FireEngines"), (.methodLinkNest RL 11 yX8_init "FireEnginesLaw"), (.castable "java/lang/IllegalStateException" "java/lang/IllegalStateException"), (.methodLinkNest RX8 53 yX7_init "FireEnginesLaw"), (.methodLinkNest RX8 63 yX6_init "FireEnginesLaw"), (.methodLinkNest RX1 42 yX5_isOnMap "FireEngines"), (.methodLinkNest RX1 46 yX5_cellAt "FireEngines"), (.castable RX7 "java/lang/Object"), (.castable RX6 "java/lang/Object"), (.castable RX5 "java/lang/Object"), (.castable RX1 "java/lang/Object"), (.castable RX4 "java/lang/Object"), (.castable RJx4a65c "java/lang/Object"), (.castable RX8 "java/lang/Object"), (.castable "java/lang/IndexOutOfBoundsException" "java/lang/Object"), (.castable "java/lang/IllegalArgumentException" "java/lang/Object"), (.castable "java/lang/IllegalStateException" "java/lang/Object"), (.castable RX2 "java/lang/Object"), (.castable RX3 "java/lang/Object"), (.castable RX0 "java/lang/Object"), (.castable "java/lang/Throwable" "java/lang/Object"), (.castable RJ0 "java/lang/Object"), (.declares ⟨"java/lang/Object", "getClass", "()Ljava/lang/Class;"⟩), (.castable "[I" "java/lang/Object"), (.castable "[B" "java/lang/Object"), (.castable "[Ljava/lang/Object;" "java/lang/Object"), (.castable "[Z" "java/lang/Object"), (.castable "[LFireEnginesLaw$House;" "java/lang/Object"), (.castable "[LFireEnginesLaw$Engine;" "java/lang/Object"), (.castable "[[I" "java/lang/Object")]
theorem wn35 : (.methodLinkNest RX5 11 yX1_init "FireEngines" : Cond) ∈ NW := List.mem_of_getElem? (i := 0) rfl
theorem wt35 : (.methodLinkNest RX5 11 yX1_init "FireEngines" : Cond) ∈ lw_tbl := AT_1 35 rfl
theorem wn52 : (.methodLinkNest RX5 18 yX4_init "FireEngines" : Cond) ∈ NW := List.mem_of_getElem? (i := 1) rfl
theorem wt52 : (.methodLinkNest RX5 18 yX4_init "FireEngines" : Cond) ∈ lw_tbl := AT_1 52 rfl
theorem wn84 : (.fieldLinkNest RX5 42 "FireEngines$Town" "houses" "Ljava/util/ArrayList;" "FireEngines" : Cond) ∈ NW := List.mem_of_getElem? (i := 2) rfl
theorem wt84 : (.fieldLinkNest RX5 42 "FireEngines$Town" "houses" "Ljava/util/ArrayList;" "FireEngines" : Cond) ∈ lw_tbl := AT_1 84 rfl
theorem wn86 : (.fieldLinkNest RX5 67 "FireEngines$Town" "ponds" "Ljava/util/ArrayList;" "FireEngines" : Cond) ∈ NW := List.mem_of_getElem? (i := 3) rfl
theorem wt86 : (.fieldLinkNest RX5 67 "FireEngines$Town" "ponds" "Ljava/util/ArrayList;" "FireEngines" : Cond) ∈ lw_tbl := AT_1 86 rfl
theorem wn88 : (.fieldLinkNest RX5 114 "FireEngines$Town" "engines" "Ljava/util/ArrayList;" "FireEngines" : Cond) ∈ NW := List.mem_of_getElem? (i := 4) rfl
theorem wt88 : (.fieldLinkNest RX5 114 "FireEngines$Town" "engines" "Ljava/util/ArrayList;" "FireEngines" : Cond) ∈ lw_tbl := AT_1 88 rfl
theorem wn122 : (.castable "java/lang/IndexOutOfBoundsException" "java/lang/IndexOutOfBoundsException" : Cond) ∈ NW := List.mem_of_getElem? (i := 5) rfl
theorem wt122 : (.castable "java/lang/IndexOutOfBoundsException" "java/lang/IndexOutOfBoundsException" : Cond) ∈ lw_tbl := AT_1 122 rfl
theorem wn123 : (.declares ⟨"java/lang/RuntimeException", "<init>", "()V"⟩ : Cond) ∈ NW := List.mem_of_getElem? (i := 6) rfl
theorem wt123 : (.declares ⟨"java/lang/RuntimeException", "<init>", "()V"⟩ : Cond) ∈ lw_tbl := AT_1 123 rfl
theorem wn124 : (.declares ⟨"java/lang/RuntimeException", "<init>", "(Ljava/lang/String;)V"⟩ : Cond) ∈ NW := List.mem_of_getElem? (i := 7) rfl
theorem wt124 : (.declares ⟨"java/lang/RuntimeException", "<init>", "(Ljava/lang/String;)V"⟩ : Cond) ∈ lw_tbl := AT_1 124 rfl
theorem wn125 : (.declares ⟨"java/lang/Exception", "<init>", "()V"⟩ : Cond) ∈ NW := List.mem_of_getElem? (i := 8) rfl
theorem wt125 : (.declares ⟨"java/lang/Exception", "<init>", "()V"⟩ : Cond) ∈ lw_tbl := AT_1 125 rfl
theorem wn126 : (.declares ⟨"java/lang/Exception", "<init>", "(Ljava/lang/String;)V"⟩ : Cond) ∈ NW := List.mem_of_getElem? (i := 9) rfl
theorem wt126 : (.declares ⟨"java/lang/Exception", "<init>", "(Ljava/lang/String;)V"⟩ : Cond) ∈ lw_tbl := AT_1 126 rfl
theorem wn127 : (.declares ⟨"java/lang/Throwable", "<init>", "()V"⟩ : Cond) ∈ NW := List.mem_of_getElem? (i := 10) rfl
theorem wt127 : (.declares ⟨"java/lang/Throwable", "<init>", "()V"⟩ : Cond) ∈ lw_tbl := AT_1 127 rfl
theorem wn128 : (.declares ⟨"java/lang/Throwable", "<init>", "(Ljava/lang/String;)V"⟩ : Cond) ∈ NW := List.mem_of_getElem? (i := 11) rfl
theorem wt128 : (.declares ⟨"java/lang/Throwable", "<init>", "(Ljava/lang/String;)V"⟩ : Cond) ∈ lw_tbl := AT_1 128 rfl
theorem wn236 : (.methodLinkNest RX4 117 yX5_areNear "FireEngines" : Cond) ∈ NW := List.mem_of_getElem? (i := 12) rfl
theorem wt236 : (.methodLinkNest RX4 117 yX5_areNear "FireEngines" : Cond) ∈ lw_tbl := AT_1 236 rfl
theorem wn259 : (.castable "java/lang/IllegalArgumentException" "java/lang/IllegalArgumentException" : Cond) ∈ NW := List.mem_of_getElem? (i := 13) rfl
theorem wt259 : (.castable "java/lang/IllegalArgumentException" "java/lang/IllegalArgumentException" : Cond) ∈ lw_tbl := AT_2 19 rfl
theorem wn328 : (.methodLinkNest RX4 183 yX5_distance "FireEngines" : Cond) ∈ NW := List.mem_of_getElem? (i := 14) rfl
theorem wt328 : (.methodLinkNest RX4 183 yX5_distance "FireEngines" : Cond) ∈ lw_tbl := AT_2 88 rfl
theorem wn402 : (.fieldLinkNest RX4 116 "FireEngines$House" "cell" "I" "FireEngines" : Cond) ∈ NW := List.mem_of_getElem? (i := 15) rfl
theorem wt402 : (.fieldLinkNest RX4 116 "FireEngines$House" "cell" "I" "FireEngines" : Cond) ∈ lw_tbl := AT_2 162 rfl
theorem wn403 : (.fieldLinkNest RX5 155 "FireEngines$House" "cell" "I" "FireEngines" : Cond) ∈ NW := List.mem_of_getElem? (i := 16) rfl
theorem wt403 : (.fieldLinkNest RX5 155 "FireEngines$House" "cell" "I" "FireEngines" : Cond) ∈ lw_tbl := AT_2 163 rfl
theorem wn407 : (.fieldLinkNest RX5 82 "FireEngines$House" "state" "I" "FireEngines" : Cond) ∈ NW := List.mem_of_getElem? (i := 17) rfl
theorem wt407 : (.fieldLinkNest RX5 82 "FireEngines$House" "state" "I" "FireEngines" : Cond) ∈ lw_tbl := AT_2 167 rfl
theorem wn408 : (.fieldLinkNest RX4 104 "FireEngines$House" "state" "I" "FireEngines" : Cond) ∈ NW := List.mem_of_getElem? (i := 18) rfl
theorem wt408 : (.fieldLinkNest RX4 104 "FireEngines$House" "state" "I" "FireEngines" : Cond) ∈ lw_tbl := AT_2 168 rfl
theorem wn410 : (.fieldLinkNest RX4 121 "FireEngines$House" "heat" "I" "FireEngines" : Cond) ∈ NW := List.mem_of_getElem? (i := 19) rfl
theorem wt410 : (.fieldLinkNest RX4 121 "FireEngines$House" "heat" "I" "FireEngines" : Cond) ∈ lw_tbl := AT_2 170 rfl
theorem wn412 : (.fieldLinkNest RX4 151 "FireEngines$House" "came" "I" "FireEngines" : Cond) ∈ NW := List.mem_of_getElem? (i := 20) rfl
theorem wt412 : (.fieldLinkNest RX4 151 "FireEngines$House" "came" "I" "FireEngines" : Cond) ∈ lw_tbl := AT_2 172 rfl
theorem wn495 : (.fieldLinkNest RX4 128 "FireEngines$Pond" "cell" "I" "FireEngines" : Cond) ∈ NW := List.mem_of_getElem? (i := 21) rfl
theorem wt495 : (.fieldLinkNest RX4 128 "FireEngines$Pond" "cell" "I" "FireEngines" : Cond) ∈ lw_tbl := AT_3 15 rfl
theorem wn497 : (.fieldLinkNest RX4 110 "FireEngines$Pond" "water" "I" "FireEngines" : Cond) ∈ NW := List.mem_of_getElem? (i := 22) rfl
theorem wt497 : (.fieldLinkNest RX4 110 "FireEngines$Pond" "water" "I" "FireEngines" : Cond) ∈ lw_tbl := AT_3 17 rfl
theorem wn498 : (.fieldLinkNest RX5 167 "FireEngines$Pond" "water" "I" "FireEngines" : Cond) ∈ NW := List.mem_of_getElem? (i := 23) rfl
theorem wt498 : (.fieldLinkNest RX5 167 "FireEngines$Pond" "water" "I" "FireEngines" : Cond) ∈ lw_tbl := AT_3 18 rfl
theorem wn514 : (.fieldLinkNest RX4 73 "FireEngines$Engine" "cell" "I" "FireEngines" : Cond) ∈ NW := List.mem_of_getElem? (i := 24) rfl
theorem wt514 : (.fieldLinkNest RX4 73 "FireEngines$Engine" "cell" "I" "FireEngines" : Cond) ∈ lw_tbl := AT_3 34 rfl
theorem wn515 : (.fieldLinkNest RX5 130 "FireEngines$Engine" "cell" "I" "FireEngines" : Cond) ∈ NW := List.mem_of_getElem? (i := 25) rfl
theorem wt515 : (.fieldLinkNest RX5 130 "FireEngines$Engine" "cell" "I" "FireEngines" : Cond) ∈ lw_tbl := AT_3 35 rfl
theorem wn517 : (.fieldLinkNest RX4 76 "FireEngines$Engine" "horses" "I" "FireEngines" : Cond) ∈ NW := List.mem_of_getElem? (i := 26) rfl
theorem wt517 : (.fieldLinkNest RX4 76 "FireEngines$Engine" "horses" "I" "FireEngines" : Cond) ∈ lw_tbl := AT_3 37 rfl
theorem wn519 : (.fieldLinkNest RX4 79 "FireEngines$Engine" "power" "I" "FireEngines" : Cond) ∈ NW := List.mem_of_getElem? (i := 27) rfl
theorem wt519 : (.fieldLinkNest RX4 79 "FireEngines$Engine" "power" "I" "FireEngines" : Cond) ∈ lw_tbl := AT_3 39 rfl
theorem wn521 : (.fieldLinkNest RX4 82 "FireEngines$Engine" "coal" "I" "FireEngines" : Cond) ∈ NW := List.mem_of_getElem? (i := 28) rfl
theorem wt521 : (.fieldLinkNest RX4 82 "FireEngines$Engine" "coal" "I" "FireEngines" : Cond) ∈ lw_tbl := AT_3 41 rfl
theorem wn522 : (.fieldLinkNest RX5 123 "FireEngines$Engine" "coal" "I" "FireEngines" : Cond) ∈ NW := List.mem_of_getElem? (i := 29) rfl
theorem wt522 : (.fieldLinkNest RX5 123 "FireEngines$Engine" "coal" "I" "FireEngines" : Cond) ∈ lw_tbl := AT_3 42 rfl
theorem wn524 : (.fieldLinkNest RX4 85 "FireEngines$Engine" "steam" "I" "FireEngines" : Cond) ∈ NW := List.mem_of_getElem? (i := 30) rfl
theorem wt524 : (.fieldLinkNest RX4 85 "FireEngines$Engine" "steam" "I" "FireEngines" : Cond) ∈ lw_tbl := AT_3 44 rfl
theorem wn526 : (.fieldLinkNest RX4 88 "FireEngines$Engine" "minutesLeft" "I" "FireEngines" : Cond) ∈ NW := List.mem_of_getElem? (i := 31) rfl
theorem wt526 : (.fieldLinkNest RX4 88 "FireEngines$Engine" "minutesLeft" "I" "FireEngines" : Cond) ∈ lw_tbl := AT_3 46 rfl
theorem wn527 : (.fieldLinkNest RX5 142 "FireEngines$Engine" "minutesLeft" "I" "FireEngines" : Cond) ∈ NW := List.mem_of_getElem? (i := 32) rfl
theorem wt527 : (.fieldLinkNest RX5 142 "FireEngines$Engine" "minutesLeft" "I" "FireEngines" : Cond) ∈ lw_tbl := AT_3 47 rfl
theorem wn529 : (.fieldLinkNest RX4 113 "FireEngines$Engine" "goal" "I" "FireEngines" : Cond) ∈ NW := List.mem_of_getElem? (i := 33) rfl
theorem wt529 : (.fieldLinkNest RX4 113 "FireEngines$Engine" "goal" "I" "FireEngines" : Cond) ∈ lw_tbl := AT_3 49 rfl
theorem wn531 : (.fieldLinkNest RX4 91 "FireEngines$Engine" "hose" "I" "FireEngines" : Cond) ∈ NW := List.mem_of_getElem? (i := 34) rfl
theorem wt531 : (.fieldLinkNest RX4 91 "FireEngines$Engine" "hose" "I" "FireEngines" : Cond) ∈ lw_tbl := AT_3 51 rfl
theorem wn532 : (.fieldLinkNest RX5 152 "FireEngines$Engine" "hose" "I" "FireEngines" : Cond) ∈ NW := List.mem_of_getElem? (i := 35) rfl
theorem wt532 : (.fieldLinkNest RX5 152 "FireEngines$Engine" "hose" "I" "FireEngines" : Cond) ∈ lw_tbl := AT_3 52 rfl
theorem wn534 : (.fieldLinkNest RX4 154 "FireEngines$Engine" "came" "I" "FireEngines" : Cond) ∈ NW := List.mem_of_getElem? (i := 36) rfl
theorem wt534 : (.fieldLinkNest RX4 154 "FireEngines$Engine" "came" "I" "FireEngines" : Cond) ∈ lw_tbl := AT_3 54 rfl
theorem wn536 : (.fieldLinkNest RX4 98 "FireEngines$Engine" "gave" "I" "FireEngines" : Cond) ∈ NW := List.mem_of_getElem? (i := 37) rfl
theorem wt536 : (.fieldLinkNest RX4 98 "FireEngines$Engine" "gave" "I" "FireEngines" : Cond) ∈ lw_tbl := AT_3 56 rfl
theorem wn538 : (.fieldLinkNest RX4 155 "FireEngines$Engine" "asked" "Z" "FireEngines" : Cond) ∈ NW := List.mem_of_getElem? (i := 38) rfl
theorem wt538 : (.fieldLinkNest RX4 155 "FireEngines$Engine" "asked" "Z" "FireEngines" : Cond) ∈ lw_tbl := AT_3 58 rfl
theorem wn611 : (.methodLinkNest RL 11 yX8_init "FireEnginesLaw" : Cond) ∈ NW := List.mem_of_getElem? (i := 39) rfl
theorem wt611 : (.methodLinkNest RL 11 yX8_init "FireEnginesLaw" : Cond) ∈ lw_tbl := AT_3 131 rfl
theorem wn688 : (.castable "java/lang/IllegalStateException" "java/lang/IllegalStateException" : Cond) ∈ NW := List.mem_of_getElem? (i := 40) rfl
theorem wt688 : (.castable "java/lang/IllegalStateException" "java/lang/IllegalStateException" : Cond) ∈ lw_tbl := AT_3 208 rfl
theorem wn714 : (.methodLinkNest RX8 53 yX7_init "FireEnginesLaw" : Cond) ∈ NW := List.mem_of_getElem? (i := 41) rfl
theorem wt714 : (.methodLinkNest RX8 53 yX7_init "FireEnginesLaw" : Cond) ∈ lw_tbl := AT_3 234 rfl
theorem wn763 : (.methodLinkNest RX8 63 yX6_init "FireEnginesLaw" : Cond) ∈ NW := List.mem_of_getElem? (i := 42) rfl
theorem wt763 : (.methodLinkNest RX8 63 yX6_init "FireEnginesLaw" : Cond) ∈ lw_tbl := AT_4 43 rfl
theorem wn848 : (.methodLinkNest RX1 42 yX5_isOnMap "FireEngines" : Cond) ∈ NW := List.mem_of_getElem? (i := 43) rfl
theorem wt848 : (.methodLinkNest RX1 42 yX5_isOnMap "FireEngines" : Cond) ∈ lw_tbl := AT_4 128 rfl
theorem wn849 : (.methodLinkNest RX1 46 yX5_cellAt "FireEngines" : Cond) ∈ NW := List.mem_of_getElem? (i := 44) rfl
theorem wt849 : (.methodLinkNest RX1 46 yX5_cellAt "FireEngines" : Cond) ∈ lw_tbl := AT_4 129 rfl
theorem wn889 : (.castable RX7 "java/lang/Object" : Cond) ∈ NW := List.mem_of_getElem? (i := 45) rfl
theorem wt889 : (.castable RX7 "java/lang/Object" : Cond) ∈ lw_tbl := AT_4 169 rfl
theorem wn890 : (.castable RX6 "java/lang/Object" : Cond) ∈ NW := List.mem_of_getElem? (i := 46) rfl
theorem wt890 : (.castable RX6 "java/lang/Object" : Cond) ∈ lw_tbl := AT_4 170 rfl
theorem wn891 : (.castable RX5 "java/lang/Object" : Cond) ∈ NW := List.mem_of_getElem? (i := 47) rfl
theorem wt891 : (.castable RX5 "java/lang/Object" : Cond) ∈ lw_tbl := AT_4 171 rfl
theorem wn892 : (.castable RX1 "java/lang/Object" : Cond) ∈ NW := List.mem_of_getElem? (i := 48) rfl
theorem wt892 : (.castable RX1 "java/lang/Object" : Cond) ∈ lw_tbl := AT_4 172 rfl
theorem wn893 : (.castable RX4 "java/lang/Object" : Cond) ∈ NW := List.mem_of_getElem? (i := 49) rfl
theorem wt893 : (.castable RX4 "java/lang/Object" : Cond) ∈ lw_tbl := AT_4 173 rfl
theorem wn894 : (.castable RJx4a65c "java/lang/Object" : Cond) ∈ NW := List.mem_of_getElem? (i := 50) rfl
theorem wt894 : (.castable RJx4a65c "java/lang/Object" : Cond) ∈ lw_tbl := AT_4 174 rfl
theorem wn895 : (.castable RX8 "java/lang/Object" : Cond) ∈ NW := List.mem_of_getElem? (i := 51) rfl
theorem wt895 : (.castable RX8 "java/lang/Object" : Cond) ∈ lw_tbl := AT_4 175 rfl
theorem wn896 : (.castable "java/lang/IndexOutOfBoundsException" "java/lang/Object" : Cond) ∈ NW := List.mem_of_getElem? (i := 52) rfl
theorem wt896 : (.castable "java/lang/IndexOutOfBoundsException" "java/lang/Object" : Cond) ∈ lw_tbl := AT_4 176 rfl
theorem wn897 : (.castable "java/lang/IllegalArgumentException" "java/lang/Object" : Cond) ∈ NW := List.mem_of_getElem? (i := 53) rfl
theorem wt897 : (.castable "java/lang/IllegalArgumentException" "java/lang/Object" : Cond) ∈ lw_tbl := AT_4 177 rfl
theorem wn898 : (.castable "java/lang/IllegalStateException" "java/lang/Object" : Cond) ∈ NW := List.mem_of_getElem? (i := 54) rfl
theorem wt898 : (.castable "java/lang/IllegalStateException" "java/lang/Object" : Cond) ∈ lw_tbl := AT_4 178 rfl
theorem wn899 : (.castable RX2 "java/lang/Object" : Cond) ∈ NW := List.mem_of_getElem? (i := 55) rfl
theorem wt899 : (.castable RX2 "java/lang/Object" : Cond) ∈ lw_tbl := AT_4 179 rfl
theorem wn900 : (.castable RX3 "java/lang/Object" : Cond) ∈ NW := List.mem_of_getElem? (i := 56) rfl
theorem wt900 : (.castable RX3 "java/lang/Object" : Cond) ∈ lw_tbl := AT_4 180 rfl
theorem wn901 : (.castable RX0 "java/lang/Object" : Cond) ∈ NW := List.mem_of_getElem? (i := 57) rfl
theorem wt901 : (.castable RX0 "java/lang/Object" : Cond) ∈ lw_tbl := AT_4 181 rfl
theorem wn902 : (.castable "java/lang/Throwable" "java/lang/Object" : Cond) ∈ NW := List.mem_of_getElem? (i := 58) rfl
theorem wt902 : (.castable "java/lang/Throwable" "java/lang/Object" : Cond) ∈ lw_tbl := AT_4 182 rfl
theorem wn903 : (.castable RJ0 "java/lang/Object" : Cond) ∈ NW := List.mem_of_getElem? (i := 59) rfl
theorem wt903 : (.castable RJ0 "java/lang/Object" : Cond) ∈ lw_tbl := AT_4 183 rfl
theorem wn906 : (.declares ⟨"java/lang/Object", "getClass", "()Ljava/lang/Class;"⟩ : Cond) ∈ NW := List.mem_of_getElem? (i := 60) rfl
theorem wt906 : (.declares ⟨"java/lang/Object", "getClass", "()Ljava/lang/Class;"⟩ : Cond) ∈ lw_tbl := AT_4 186 rfl
theorem wn907 : (.castable "[I" "java/lang/Object" : Cond) ∈ NW := List.mem_of_getElem? (i := 61) rfl
theorem wt907 : (.castable "[I" "java/lang/Object" : Cond) ∈ lw_tbl := AT_4 187 rfl
theorem wn908 : (.castable "[B" "java/lang/Object" : Cond) ∈ NW := List.mem_of_getElem? (i := 62) rfl
theorem wt908 : (.castable "[B" "java/lang/Object" : Cond) ∈ lw_tbl := AT_4 188 rfl
theorem wn909 : (.castable "[Ljava/lang/Object;" "java/lang/Object" : Cond) ∈ NW := List.mem_of_getElem? (i := 63) rfl
theorem wt909 : (.castable "[Ljava/lang/Object;" "java/lang/Object" : Cond) ∈ lw_tbl := AT_4 189 rfl
theorem wn910 : (.castable "[Z" "java/lang/Object" : Cond) ∈ NW := List.mem_of_getElem? (i := 64) rfl
theorem wt910 : (.castable "[Z" "java/lang/Object" : Cond) ∈ lw_tbl := AT_4 190 rfl
theorem wn911 : (.castable "[LFireEnginesLaw$House;" "java/lang/Object" : Cond) ∈ NW := List.mem_of_getElem? (i := 65) rfl
theorem wt911 : (.castable "[LFireEnginesLaw$House;" "java/lang/Object" : Cond) ∈ lw_tbl := AT_4 191 rfl
theorem wn912 : (.castable "[LFireEnginesLaw$Engine;" "java/lang/Object" : Cond) ∈ NW := List.mem_of_getElem? (i := 66) rfl
theorem wt912 : (.castable "[LFireEnginesLaw$Engine;" "java/lang/Object" : Cond) ∈ lw_tbl := AT_4 192 rfl
theorem wn913 : (.castable "[[I" "java/lang/Object" : Cond) ∈ NW := List.mem_of_getElem? (i := 67) rfl
theorem wt913 : (.castable "[[I" "java/lang/Object" : Cond) ∈ lw_tbl := AT_4 193 rfl
theorem NW_sub : ∀ w ∈ NW, w ∈ lw_tbl := by
  intro w hw
  simp only [NW, List.mem_cons, List.not_mem_nil, or_false] at hw
  rcases hw with rfl | rfl | rfl | rfl | rfl | rfl | rfl | rfl | rfl | rfl | rfl | rfl | rfl | rfl | rfl | rfl | rfl | rfl | rfl | rfl | rfl | rfl | rfl | rfl | rfl | rfl | rfl | rfl | rfl | rfl | rfl | rfl | rfl | rfl | rfl | rfl | rfl | rfl | rfl | rfl | rfl | rfl | rfl | rfl | rfl | rfl | rfl | rfl | rfl | rfl | rfl | rfl | rfl | rfl | rfl | rfl | rfl | rfl | rfl | rfl | rfl | rfl | rfl | rfl | rfl | rfl | rfl | rfl
  · exact wt35
  · exact wt52
  · exact wt84
  · exact wt86
  · exact wt88
  · exact wt122
  · exact wt123
  · exact wt124
  · exact wt125
  · exact wt126
  · exact wt127
  · exact wt128
  · exact wt236
  · exact wt259
  · exact wt328
  · exact wt402
  · exact wt403
  · exact wt407
  · exact wt408
  · exact wt410
  · exact wt412
  · exact wt495
  · exact wt497
  · exact wt498
  · exact wt514
  · exact wt515
  · exact wt517
  · exact wt519
  · exact wt521
  · exact wt522
  · exact wt524
  · exact wt526
  · exact wt527
  · exact wt529
  · exact wt531
  · exact wt532
  · exact wt534
  · exact wt536
  · exact wt538
  · exact wt611
  · exact wt688
  · exact wt714
  · exact wt763
  · exact wt848
  · exact wt849
  · exact wt889
  · exact wt890
  · exact wt891
  · exact wt892
  · exact wt893
  · exact wt894
  · exact wt895
  · exact wt896
  · exact wt897
  · exact wt898
  · exact wt899
  · exact wt900
  · exact wt901
  · exact wt902
  · exact wt903
  · exact wt906
  · exact wt907
  · exact wt908
  · exact wt909
  · exact wt910
  · exact wt911
  · exact wt912
  · exact wt913
theorem wt161 : (.stringRef RX5 196 "no such house" : Cond) ∈ lw_tbl := AT_1 161 rfl
theorem wt191 : (.stringRef RX5 205 "no such question" : Cond) ∈ lw_tbl := AT_1 191 rfl
theorem wt219 : (.stringRef RX5 198 "no such engine" : Cond) ∈ lw_tbl := AT_1 219 rfl
theorem wt248 : (.stringRef RX5 162 "no such pond" : Cond) ∈ lw_tbl := AT_2 8 rfl
theorem wt266 : (.stringRef RX5 209 "a number is too small or too great" : Cond) ∈ lw_tbl := AT_2 26 rfl
theorem wt659 : (.stringRef RX5 203 "no such cell" : Cond) ∈ lw_tbl := AT_3 179 rfl
theorem wt695 : (.stringRef RX5 214 "not possible now" : Cond) ∈ lw_tbl := AT_3 215 rfl
